/-! CHAIN, the class -/
def gAll (P : Nat → Prop) (l : List Nat) : Prop := ∀ j, j < l.length → P (l.getD j 0)
theorem gAll.sw {P : Nat → Prop} {l : List Nat} {i j : Nat} (h : gAll P l) (hi : i < l.length) (hj : j < l.length) : gAll P (gSw l i j) := fun k hk => by
  rw [gSw_len] at hk
  unfold gSw
  rw [gset_D (by rw [List.length_set]; exact hj)]
  split
  · exact h i hi
  · rw [gset_D hi]
    split
    · exact h j hj
    · exact h k hk
theorem gAll.rv {P : Nat → Prop} : ∀ {f : Nat} {l : List Nat} {lo hi : Nat}, gAll P l → hi < l.length → gAll P (gRv f l lo hi)
  | 0, _, _, _, h, _ => h
  | f + 1, l, lo, hi, h, hh => by
    unfold gRv
    split
    · exact gAll.rv (h.sw (by omega) hh) (by rw [gSw_len]; omega)
    · exact h
theorem gAll.nr {P : Nat → Prop} {l l' : List Nat} (h : gAll P l) (e : gNr l = some l') : gAll P l' := by
  unfold gNr at e
  split at e
  · cases e
  · rename_i q
    have l1 := gI1_le (l := l) (k := l.length - 1)
    have l2 := gJ1_le (l := l) (i := gI1 l (l.length - 1) - 1) (k := l.length - 1)
    cases e
    exact gAll.rv (h.sw (by omega) (by omega)) (by rw [gSw_len]; omega)
theorem gSm_of {l : List Nat} {n : Nat} (h : gAll (fun v => v < n) l) (hn : n ≤ 100) (hn0 : 0 < n ∨ l.length = 0) : gSm l := fun j => by
  by_cases e : j < l.length
  · have := h j e; show l.getD j 0 < 100; omega
  · rw [List.getD_eq_getElem?_getD, List.getElem?_eq_none (by omega)]
    show 0 < 100
    decide
def gBI (b : Nat × List Nat) : Int32 := if b.1 = 100000 then zm1 else nI b.1
def gQC (b : Nat × List Nat) (M : zMem) : Prop := ∀ k, k < b.2.length → M.1 58 k = nI (b.2.getD k 0)
theorem c_gapsOf {h : zN} {M : zMem} {l : List Nat} {z : Nat → Int32} {n : Nat} (hl : l.length = n) (hn : n ≤ 5) (ha : gAll (fun v => v < n) l) (hg : ∀ p q, p < n → q < n → M.1 56 (p * 5 + q) = nI (gGap h p q)) (h57 : M.1 57 = gRw l z) : mf_X4_gapsOfRow gR 55 (nI n) M = some (nI (gSc h l), M) := by
  unfold mf_X4_gapsOfRow gSc
  rw [hl]
  refine gfor (G := fun f i => mf_X4_gapsOfRow_l4 gR 55 f (nI n) (nI (gsm (fun k => gGap h (l.getD k 0) (l.getD (k + 1) 0)) i)) (nI i) M) (n := n - 1) (fun f i hi => ?_) (fun f => ?_) _ (by first | (show _ < 5000; omega) | omega)
  · have a1 := ha i (by omega)
    have a2 := ha (i + 1) (by omega)
    rw [mf_X4_gapsOfRow_l4]
    simp only [zl_lit, zlet_ok]
    rw [nI_add, if_neg (by rw [nI_leI (by omega) (by omega)]; omega), zald_nI (by omega) (by omega), zald_nI (by omega) (by omega), r55_2, r55_1, h57, gRw_i (by omega), gRw_i (by omega), nI_mulE, nI_add, zald_nI (by omega) (by omega), hg _ _ a1 a2, nI_add]
    try rfl
  · rw [mf_X4_gapsOfRow_l4]
    simp only [zl_lit, zlet_ok]
    rw [nI_add, if_pos (by rw [nI_leI (by omega) (by omega)]; omega)]
theorem cpy5 {l : List Nat} {z g : Nat → Int32} {k : Nat} (hk : k < l.length) (hl : l.length ≤ 5) : va_cpy (gRw l z) g (nI 0).toNatClampNeg (nI 0).toNatClampNeg (nI 5).toNatClampNeg k = nI (l.getD k 0) := by
  rw [nI_clamp (by omega), nI_clamp (by omega)]
  unfold va_cpy
  rw [if_pos (by omega), Nat.sub_zero, Nat.zero_add, gRw_i hk]
theorem c_chain125 {M : zMem} {n : Nat} {x : Int32} : mf_X4_bestChain_b125 gR 55 (nI n) x M = some (x, zwI M 55 4 (nI n)) := by
  unfold mf_X4_bestChain_b125
  rw [zlet_ok]
theorem c_chain64 {h : zN} {z : Nat → Int32} {n : Nat} (hn : n ≤ 5) (hS : ∀ l : List Nat, l.length = n → gAll (fun v => v < n) l → gSc h l ≤ 900) : ∀ (k i f : Nat) (l : List Nat) (b : Nat × List Nat) (M : zMem), i + k = 120 → k < f → l.length = n → gAll (fun v => v < n) l → b.1 ≤ 100000 → (∀ p q, p < n → q < n → M.1 56 (p * 5 + q) = nI (gGap h p q)) → M.1 57 = gRw l z → gQC b M → ∃ M1, mf_X4_bestChain_l64 gR 55 f (nI n) (gBI b) (nI 1) (nI i) M = some (gBI ((gIt k l).foldl (gBt h) b), M1) ∧ gF [55, 57, 58] [] M M1 ∧ M1.1 55 = upd (M.1 55) 4 (nI n) ∧ gQC ((gIt k l).foldl (gBt h) b) M1
  | 0, i, f, l, b, M, hi, hf, hl, ha, hb, hg, h57, Q => by
    match f, hf with
    | f + 1, _ =>
      have : i = 120 := by omega
      subst this
      refine ⟨zwI M 55 4 (nI n), ?_, gF.wI gF.r (by decide) (by decide), zwI_s, fun k hk => ?_⟩
      · rw [mf_X4_bestChain_l64, zl_lit, if_pos (by rw [nI_leI (by omega) (by omega)]; omega), c_chain125]
        try rfl
      · rw [zwI_n (by decide)]; exact Q k hk
  | k + 1, i, f, l, b, M, hi, hf, hl, ha, hb, hg, h57, Q => by
    match f, hf with
    | f + 1, hf =>
      have hS1 := hS l hl ha
      have hsm : gSm l := gSm_of ha (by omega) (by omega)
      have hnx := c_next (z := z) (l := l) (M := M) (o := 57) (n0 := 5) (by decide) hsm (by omega)
      have key : ∀ (M2 : zMem) (b2 : Nat × List Nat), M2.1 57 = gRw l z → (∀ p q, p < n → q < n → M2.1 56 (p * 5 + q) = nI (gGap h p q)) → b2.1 ≤ 100000 → gQC b2 M2 → ∃ M1, mf_X4_bestChain_b110 gR 55 (mf_X4_bestChain_l64 gR 55 f) (nI n) (gBI b2) (nI i) M2 = some (gBI ((match gNr l with | none => [] | some l' => gIt k l').foldl (gBt h) b2), M1) ∧ gF [55, 57, 58] [] M2 M1 ∧ M1.1 55 = upd (M2.1 55) 4 (nI n) ∧ gQC ((match gNr l with | none => [] | some l' => gIt k l').foldl (gBt h) b2) M1 := by
        intro M2 b2 e57 eg eb Q2
        have hnx := c_next (z := z) (l := l) (M := M2) (o := 57) (n0 := 5) (by decide) hsm (by omega)
        rw [grI_id e57, hl] at hnx
        unfold mf_X4_bestChain_b110
        rw [r55_2, hnx]
        cases hgn : gNr l with
        | none =>
          refine ⟨zwI M2 55 4 (nI n), ?_, gF.wI gF.r (by decide) (by decide), zwI_s, fun k hk => ?_⟩
          · obtain ⟨f', rfl⟩ : ∃ f', f = f' + 1 := ⟨f - 1, by omega⟩
            show mf_X4_bestChain_l64 gR 55 (f' + 1) (nI n) (gBI b2) (nI 0) (nI i + 1) M2 = some (gBI b2, _)
            rw [mf_X4_bestChain_l64, c_chain125, if_pos (show nI 0 = 0 from rfl)]
            split <;> rfl
          · rw [zwI_n (by decide)]; exact Q2 k hk
        | some l' =>
          have hl' := gNr_len hgn
          obtain ⟨M1, w1, w2, w3, w4⟩ := c_chain64 hn hS k (i + 1) f l' b2 (zrowI M2 57 (gRw l' z)) (by omega) (by omega) (by omega) (ha.nr hgn) eb (fun p q hp hq => by rw [zrI_n (by decide)]; exact eg p q hp hq) zrI_s (fun k hk => by rw [zrI_n (by decide)]; exact Q2 k hk)
          rw [zrI_n (by decide)] at w3
          refine ⟨M1, ?_, gF.trans (gF.rI gF.r (by decide) (by decide)) w2, w3, w4⟩
          show mf_X4_bestChain_l64 gR 55 f (nI n) (gBI b2) (nI 1) (nI i + 1) (zrowI M2 57 (gRw l' z)) = _
          rw [← w1, zl_lit, nI_add]
      have eit : (gIt (k + 1) l).foldl (gBt h) b = (match gNr l with | none => [] | some l' => gIt k l').foldl (gBt h) (gBt h b l) := rfl
      rw [eit]
      have e0 : mf_X4_bestChain_l64 gR 55 (f + 1) (nI n) (gBI b) (nI 1) (nI i) M = (if gBI b = zm1 then mf_X4_bestChain_b93 gR 55 (mf_X4_bestChain_l64 gR 55 f) (nI n) (nI i) (nI (gSc h l)) M else if gBI b ≤ nI (gSc h l) then mf_X4_bestChain_b110 gR 55 (mf_X4_bestChain_l64 gR 55 f) (nI n) (gBI b) (nI i) M else mf_X4_bestChain_b93 gR 55 (mf_X4_bestChain_l64 gR 55 f) (nI n) (nI i) (nI (gSc h l)) M) := by
        rw [mf_X4_bestChain_l64]
        simp only [zl_lit, zl_m1]
        rw [if_neg (by rw [nI_leI (by omega) (by omega)]; omega), if_neg (by decide +kernel), c_gapsOf hl hn ha hg h57, zcl_ok]
      rw [e0]
      have hb93 : ∀ b2 : Nat × List Nat, b2 = (gSc h l, l) → ∃ M1, mf_X4_bestChain_b93 gR 55 (mf_X4_bestChain_l64 gR 55 f) (nI n) (nI i) (nI (gSc h l)) M = some (gBI ((match gNr l with | none => [] | some l' => gIt k l').foldl (gBt h) b2), M1) ∧ gF [55, 57, 58] [] M M1 ∧ M1.1 55 = upd (M.1 55) 4 (nI n) ∧ gQC ((match gNr l with | none => [] | some l' => gIt k l').foldl (gBt h) b2) M1 := by
        intro b2 hb2
        subst hb2
        have eb : gBI (gSc h l, l) = nI (gSc h l) := if_neg (show ¬ gSc h l = 100000 by omega)
        unfold mf_X4_bestChain_b93
        rw [r55_2, r55_3, h57, zlet_ok]
        simp only [zl_lit]
        obtain ⟨M1, w1, w2, w3, w4⟩ := key (zrowI M 58 (va_cpy (gRw l z) (M.1 58) (nI 0).toNatClampNeg (nI 0).toNatClampNeg (nI 5).toNatClampNeg)) (gSc h l, l) (by rw [zrI_n (by decide)]; exact h57) (fun p q hp hq => by rw [zrI_n (by decide)]; exact hg p q hp hq) (show gSc h l ≤ 100000 by omega) (fun k hk => by rw [zrI_s]; exact cpy5 hk (by omega))
        rw [zrI_n (by decide)] at w3
        rw [eb] at w1
        exact ⟨M1, w1, gF.trans (gF.rI gF.r (by decide) (by decide)) w2, w3, w4⟩
      unfold gBt
      by_cases e1 : b.1 = 100000
      · have eb : gBI b = zm1 := if_pos e1
        rw [eb, if_pos rfl, if_pos (by omega)]
        exact hb93 _ rfl
      · have eb : gBI b = nI b.1 := if_neg e1
        rw [eb, if_neg (by rw [zm1_ne (by omega)]; exact id)]
        by_cases e2 : gSc h l < b.1
        · rw [if_pos e2, if_neg (by rw [nI_leI (by omega) (by omega)]; omega)]
          exact hb93 _ rfl
        · rw [if_neg e2, if_pos (by rw [nI_leI (by omega) (by omega)]; omega), ← eb]
          exact key M b h57 hg hb Q
def gGR (h : zN) (n : Nat) (z : Nat → Int32) (P Q : Nat) : Nat → Int32 := fun j => if (j / 5 < P ∧ j % 5 < n) ∨ (j / 5 = P ∧ j % 5 < Q) then nI (gGap h (j / 5) (j % 5)) else z j
theorem gGR_s {h : zN} {n : Nat} {z : Nat → Int32} {P Q : Nat} (hn : n ≤ 5) (hQ : Q < n) : upd (gGR h n z P Q) (P * 5 + Q) (nI (gGap h P Q)) = gGR h n z P (Q + 1) := by
  funext j
  unfold upd gGR
  by_cases e : j = P * 5 + Q
  · have e1 : j / 5 = P := by omega
    have e2 : j % 5 = Q := by omega
    rw [if_pos e, if_pos (by omega), e1, e2]
  · rw [if_neg e]
    by_cases e2 : (j / 5 < P ∧ j % 5 < n) ∨ (j / 5 = P ∧ j % 5 < Q)
    · rw [if_pos e2, if_pos (by omega)]
    · rw [if_neg e2, if_neg (by omega)]
theorem gGR_n {h : zN} {n : Nat} {z : Nat → Int32} {P : Nat} : gGR h n z P n = gGR h n z (P + 1) 0 := by
  funext j
  unfold gGR
  by_cases e2 : (j / 5 < P ∧ j % 5 < n) ∨ (j / 5 = P ∧ j % 5 < n)
  · rw [if_pos e2, if_pos (by omega)]
  · rw [if_neg e2, if_neg (by omega)]
def gIR (z : Nat → Int32) (p : Nat) : Nat → Int32 := fun j => if j < p then nI j else z j
theorem gIR_s {z : Nat → Int32} {p : Nat} : upd (gIR z p) p (nI p) = gIR z (p + 1) := by
  funext j
  unfold upd gIR
  by_cases e : j = p
  · rw [if_pos e, if_pos (by omega), e]
  · rw [if_neg e]
    by_cases e2 : j < p
    · rw [if_pos e2, if_pos (by omega)]
    · rw [if_neg e2, if_neg (by omega)]
theorem gIR_rw {z : Nat → Int32} {n : Nat} : gIR z n = gRw (List.range n) z := by
  funext j
  unfold gIR gRw
  rw [List.length_range]
  by_cases e : j < n
  · rw [if_pos e, if_pos e, List.getD_eq_getElem?_getD, List.getElem?_range e]
    try rfl
  · rw [if_neg e, if_neg e]
theorem c_chain10 {h : zN} {M : zMem} (hr : gRC h M) (hH : gH h) : mf_X4_bestChain_l10 gR 55 zF (nI (h 1)) (nI 0) M = mf_X4_bestChain_l64 gR 55 zF (nI (h 1)) zm1 (nI 1) (nI 0) (zrowI (zrowI M 56 (gGR h (h 1) (M.1 56) (h 1) 0)) 57 (gRw (List.range (h 1)) (M.1 57))) := by
  obtain ⟨k0, k1, k2, k3, k4, k5, kh, kl, ka, kp⟩ := id hH
  have e0 : M = zrowI (zrowI M 56 (gGR h (h 1) (M.1 56) 0 0)) 57 (gIR (M.1 57) 0) := by
    rw [grI_id (M := M) (o := 56), grI_id (o := 57)]
    · funext j
      unfold gIR
      try rw [if_neg (by omega)]
    · funext j
      unfold gGR
      try rw [if_neg (by omega)]
  rw [show mf_X4_bestChain_l10 gR 55 zF (nI (h 1)) (nI 0) M = mf_X4_bestChain_l10 gR 55 zF (nI (h 1)) (nI 0) (zrowI (zrowI M 56 (gGR h (h 1) (M.1 56) 0 0)) 57 (gIR (M.1 57) 0)) by rw [← e0], ← gIR_rw]
  refine gfor (G := fun f i => mf_X4_bestChain_l10 gR 55 f (nI (h 1)) (nI i) (zrowI (zrowI M 56 (gGR h (h 1) (M.1 56) i 0)) 57 (gIR (M.1 57) i))) (n := h 1) (fun f i hi => ?_) (fun f => ?_) _ (by first | (show _ < 5000; omega) | omega)
  · rw [mf_X4_bestChain_l10]
    simp only [zl_lit, zlet_ok]
    rw [if_neg (by rw [nI_leI (by omega) (by omega)]; omega), zald_nI (by omega) (by omega), r55_2, gwI, grI_rI, zrI_s, gIR_s]
    have inner : ∀ f2, h 1 < f2 → mf_X4_bestChain_l24 gR 55 (mf_X4_bestChain_l10 gR 55 f) f2 (nI (h 1)) (nI i) (nI 0) (zrowI (zrowI M 56 (gGR h (h 1) (M.1 56) i 0)) 57 (gIR (M.1 57) (i + 1))) = mf_X4_bestChain_l10 gR 55 f (nI (h 1)) (nI (i + 1)) (zrowI (zrowI M 56 (gGR h (h 1) (M.1 56) i (h 1))) 57 (gIR (M.1 57) (i + 1))) := by
      refine gfor (G := fun f2 q => mf_X4_bestChain_l24 gR 55 (mf_X4_bestChain_l10 gR 55 f) f2 (nI (h 1)) (nI i) (nI q) (zrowI (zrowI M 56 (gGR h (h 1) (M.1 56) i q)) 57 (gIR (M.1 57) (i + 1)))) (n := h 1) (fun f2 q hq => ?_) (fun f2 => ?_)
      · have hr2 : gRC h (zrowI (zrowI M 56 (gGR h (h 1) (M.1 56) i q)) 57 (gIR (M.1 57) (i + 1))) := gRC.row (by decide) (gRC.row (by decide) hr)
        rw [mf_X4_bestChain_l24]
        simp only [zl_lit, zlet_ok]
        rw [if_neg (by rw [nI_leI (by omega) (by omega)]; omega), c_gapOf hr2 hH (by omega) hq, zcl_ok, nI_mulE, nI_add, zald_nI (by omega) (by omega), r55_1, gwI, grI_sw (by decide), zrI_n (by decide), zrI_s, gGR_s (by omega) hq, nI_add]
      · rw [mf_X4_bestChain_l24]
        simp only [zl_lit]
        rw [if_pos (by rw [nI_leI (by omega) (by omega)]; omega), nI_add]
    rw [inner zF (by show _ < 5000; omega), gGR_n]
  · rw [mf_X4_bestChain_l10]
    simp only [zl_lit, zl_m1]
    rw [if_pos (by rw [nI_leI (by omega) (by omega)]; omega)]
theorem gIt_all {h : zN} {n : Nat} (hS : ∀ l : List Nat, l.length = n → gAll (fun v => v < n) l → gSc h l ≤ 900) : ∀ (k : Nat) (l : List Nat) (b : Nat × List Nat), l.length = n → gAll (fun v => v < n) l → (b.2.length = n ∧ b.1 < 100000) → (((gIt k l).foldl (gBt h) b).2.length = n ∧ ((gIt k l).foldl (gBt h) b).1 < 100000)
  | 0, l, b, _, _, hb => hb
  | k + 1, l, b, hl, ha, hb => by
    have hb2 : (gBt h b l).2.length = n ∧ (gBt h b l).1 < 100000 := by
      unfold gBt
      split
      · exact ⟨hl, by have := hS l hl ha; show gSc h l < _; omega⟩
      · exact hb
    show ((match gNr l with | none => [] | some l' => gIt k l').foldl (gBt h) (gBt h b l)).2.length = n ∧ _
    show _ ∧ ((match gNr l with | none => [] | some l' => gIt k l').foldl (gBt h) (gBt h b l)).1 < 100000
    cases e : gNr l with
    | none => exact hb2
    | some l' => exact gIt_all hS k l' _ (by rw [gNr_len e]; exact hl) (ha.nr e) hb2
theorem gmaskN : ∀ n, n < 6 → gbN (fun j => decide (j < n)) 8 = 2 ^ n - 1 ∧ gct (fun j => decide (j < n)) 8 = n := by decide +kernel
def gCI (M : zMem) : Prop := ∃ n, n ≤ 5 ∧ M.1 55 4 = nI n ∧ M.1 89 38 = nI n ∧ ∀ k, k < n → M.1 58 k = M.1 109 k
theorem q_chain {h a : zN} {t : Nat → Int32} {M : zMem} (W : gW h a t M) : ∃ r M1 M2, mf_X11_chain gR 0 M = some (r, M1) ∧ mf_X12_chain gR 89 M1 = some (r, M2) ∧ gF [55, 56, 57, 58, 108, 109] [0, 38, 39] M M2 ∧ M2.1 55 5 = M.1 55 5 ∧ gCI M2 := by
  have W0 := W
  obtain ⟨hr, hc0, hm, hH, hA⟩ := W
  obtain ⟨z, hc⟩ : ∃ z, M.1 17 = eC a z := ⟨_, hc0⟩
  have hc' : M.1 17 = encC a (gIn a) z := hc
  obtain ⟨q0, q1, q2, q3, q4, q5, qh, ql, qp, qa⟩ := id hr
  obtain ⟨k0, k1, k2, k3, k4, k5, kh, kl, ka, kp⟩ := id hH
  have hm0 : (zwI M 89 0 (nI 0)).1 91 = encM h a t := by rw [zwI_n (by decide)]; exact hm
  have hS : ∀ l : List Nat, l.length = h 1 → gAll (fun v => v < h 1) l → gSc h l ≤ 900 := fun l hl ha => gSc_le hH (by omega) ha
  have hl0 : (List.range (h 1)).length = h 1 := List.length_range
  have ha0 : gAll (fun v => v < h 1) (List.range (h 1)) := fun j hj => by
    rw [hl0] at hj
    show (List.range (h 1)).getD j 0 < h 1
    rw [List.getD_eq_getElem?_getD, List.getElem?_range hj]
    exact hj
  obtain ⟨M1, w1, w2, w3, w4⟩ := c_chain64 (h := h) (z := M.1 57) (n := h 1) k1 hS 120 0 zF (List.range (h 1)) (100000, []) (zrowI (zrowI M 56 (gGR h (h 1) (M.1 56) (h 1) 0)) 57 (gRw (List.range (h 1)) (M.1 57))) (by omega) (by show _ < 5000; omega) hl0 ha0 (Nat.le_refl _) (fun p q hp hq => by
    rw [zrI_n (by decide), zrI_s]
    unfold gGR
    rw [if_pos (by omega), show (p * 5 + q) / 5 = p by omega, show (p * 5 + q) % 5 = q by omega]) zrI_s (fun k hk => by cases hk)
  have hfin : ((gIt 120 (List.range (h 1))).foldl (gBt h) (100000, [])).2.length = h 1 ∧ ((gIt 120 (List.range (h 1))).foldl (gBt h) (100000, [])).1 < 100000 := by
    have := hS _ hl0 ha0
    have hb2 : (gBt h (100000, []) (List.range (h 1))).2.length = h 1 ∧ (gBt h (100000, []) (List.range (h 1))).1 < 100000 := by
      unfold gBt
      rw [if_pos (show gSc h (List.range (h 1)) < 100000 by omega)]
      exact ⟨hl0, show gSc h (List.range (h 1)) < 100000 by omega⟩
    show ((match gNr (List.range (h 1)) with | none => [] | some l' => gIt 119 l').foldl (gBt h) (gBt h (100000, []) (List.range (h 1)))).2.length = h 1 ∧ ((match gNr (List.range (h 1)) with | none => [] | some l' => gIt 119 l').foldl (gBt h) (gBt h (100000, []) (List.range (h 1)))).1 < 100000
    cases e : gNr (List.range (h 1)) with
    | none => exact hb2
    | some l' => exact gIt_all hS 119 l' _ (by rw [gNr_len e]; exact hl0) (ha0.nr e) hb2
  generalize hB : (gIt 120 (List.range (h 1))).foldl (gBt h) (100000, []) = B at w1 w4 hfin
  have f1 : gF [55, 56, 57, 58] [] M M1 := gF.trans (gF.rI (gF.rI gF.r (by decide) (by decide)) (by decide) (by decide)) (w2.mono (by decide) (by decide))
  rw [zrI_n (by decide), zrI_n (by decide)] at w3
  have g1 : gF [55, 56, 57, 58, 108, 109] [0, 38, 39] M (zwI (zwI (zwI M1 89 0 (nI 0)) 89 39 (nI 100000)) 89 38 (nI (h 1))) := gF.w9 (gF.w9 (gF.w9 (f1.mono (by decide) (by decide)) (by decide)) (by decide)) (by decide)
  have hm1 : (zwI (zwI (zwI M1 89 0 (nI 0)) 89 39 (nI 100000)) 89 38 (nI (h 1))).1 91 = encM h a t := by rw [g1.1 91 (by decide) (by decide)]; exact hm
  obtain ⟨em1, em2⟩ := gmaskN (h 1) (by omega)
  have Q0 : gQM (100000, []) (zwI (zwI (zwI M1 89 0 (nI 0)) 89 39 (nI 100000)) 89 38 (nI (h 1))) := by
    refine ⟨?_, Nat.le_refl _, fun k hk => by cases hk⟩
    rw [zwI_s, upd_n (by decide), zwI_s, upd_s]
  obtain ⟨M2, v1, v2, v3, v4⟩ := m_chains (a := a) (t := t) hH (h 1) 64 (fun j => decide (j < h 1)) [] (zwI (zwI (zwI M1 89 0 (nI 0)) 89 39 (nI 100000)) 89 38 (nI (h 1))) (100000, []) em2 (fun j hj => of_decide_eq_true hj) (by show 0 + h 1 ≤ 5; omega) (fun j hj => by cases hj) (by omega) hm1 (fun j hj => by cases hj) Q0
  rw [← gIt_5 (h 1) (by omega), hB] at v4
  have fin : M2.1 89 38 = nI (h 1) := by rw [v2.2.2 38 (by decide), zwI_s, upd_s]
  refine ⟨gBI B, M1, M2, ?_, ?_, g1.trans (v2.mono (by decide) (by decide)), ?_, h 1, k1, ?_, fin, fun k hk => ?_⟩
  · unfold mf_X11_chain mf_X4_bestChain
    rw [r0_10, r55_0, q1, zlet_ok, zl_lit, c_chain10 hr hH]
    have : gBI (100000, []) = zm1 := if_pos rfl
    rw [← this, w1]
    try rfl
  · have hm2 : (zwI (zwI M1 89 0 (nI 0)) 89 39 (nI 100000)).1 91 1 = nI (h 1) := by
      rw [zwI_n (by decide), zwI_n (by decide), f1.1 91 (by decide) (by decide), hm]
      exact eM_h (by omega)
    unfold mf_X12_chain
    simp only [zlet_ok, zl_lit]
    rw [zald_nI (by omega) (by omega), r89_14, hm2, zwI_s (k := 38), upd_s, gmask8 (h 1) (by omega), ← em1]
    have v1' : mr_X12_tryChains zD gR 89 (nI 0) (nI (gbN (fun j => decide (j < h 1)) 8)) (nI 0) (zwI (zwI (zwI M1 89 0 (nI 0)) 89 39 (nI 100000)) 89 38 (nI (h 1))) = some ((), M2) := v1
    rw [v1', zcl_ok, v4.1]
    show _ = some ((if B.1 = 100000 then zm1 else nI B.1), M2)
    try rw [if_neg (by omega)]
  · rw [v2.1 55 (by decide) (by decide), zwI_n (by decide), zwI_n (by decide), zwI_n (by decide), w3, upd_n (by decide)]
  · rw [v2.1 55 (by decide) (by decide), zwI_n (by decide), zwI_n (by decide), zwI_n (by decide), w3, upd_s]
  · rw [v4.2.2 k (by omega), v2.1 58 (by decide) (by decide), zwI_n (by decide), zwI_n (by decide), zwI_n (by decide)]
    exact w4 k (by omega)
theorem q_chainAt {M : zMem} (C : gCI M) (x : Int32) : ∃ r, mf_X11_chainAt gR 0 x M = some (r, M) ∧ mf_X12_chainAt gR 89 x M = some (r, zwI M 89 0 (nI 0)) := by
  obtain ⟨n, hn, h1, h2, h3⟩ := C
  have e38 : (zwI M 89 0 (nI 0)).1 89 38 = nI n := by rw [zwI_s, upd_n (by decide)]; exact h2
  unfold mf_X11_chainAt mf_X12_chainAt
  simp only [zlet_ok, zl_lit]
  rw [e38, r0_10, h1]
  rcases gcase (n := n) (by omega) x with ⟨k, hk, rfl⟩ | ho
  · refine ⟨M.1 58 k, ?_, ?_⟩
    · simp (disch := omega) only [zlet_ok, zcl_ok, zl_lit, zl_m1, nI_add, zald_nI, nI_ltE, nI_leE, nI_eqE, zm1_lt', zm1_le', zm1_nlt', zm1_nle', zm1_ne, zm1_ne', zm1_add1, gwI, grI_rI, zrI_s, zrI_n, zrI_L, gwL, grL_rL, zrL_s, zrL_n, zrL_I, Nat.zero_add, ↓reduceIte, if_true, if_false, gB_0, gB_1, gB_01, zchk_t, gB_1e, eq_self, gcle, gcnle, gclt, gcnlt, gcne, not_true_eq_false, not_false_eq_true, true_or, or_true, false_or, or_false, true_and, and_true, false_and, and_false, r55_3]
    · rw [m_isIn hk (by omega), zcl_ok, if_neg (by decide +kernel), zald_nI (by omega) (by omega), r89_37, zwI_n (by decide), h3 k hk]
  · refine ⟨zm1, ?_, ?_⟩
    · rcases ho with e | e
      · rw [if_pos e]; rfl
      · by_cases e0 : x < nI 0
        · rw [if_pos e0]; rfl
        · rw [if_neg e0, if_pos e]; rfl
    · rw [m_isIn_n (by omega) ho, zcl_ok, if_pos rfl]
      try rfl
