/-! ORDER: the tape, the call -/
def gTp (tl : Nat) (tb : Nat → Nat) (M : zMem) : Prop := tl ≤ 940 ∧ M.1 1 1 = nI tl ∧ M.1 89 2 = nI tl ∧ ∀ j, j < tl → tb j < 256 ∧ M.1 2 j = nI (tb j) ∧ M.1 90 j = nI (tb j)
def gSo (l : List Nat) : Prop := ∀ i j, i < j → j < l.length → l.getD i 0 < l.getD j 0
def gSh (l : List Nat) (z : Nat → Int32) (i k : Nat) : Nat → Int32 := fun j => if j < k then nI (l.getD j 0) else if k < j ∧ j ≤ i then nI (l.getD (j - 1) 0) else if j = k ∧ k < i then nI (l.getD k 0) else z j
theorem gSh_i {l : List Nat} {z : Nat → Int32} : gRw l z = gSh l z l.length l.length := by
  funext j
  unfold gRw gSh
  by_cases e : j < l.length
  · rw [if_pos e, if_pos e]
  · rw [if_neg e, if_neg e, if_neg (by omega), if_neg (by omega)]
theorem gSh_s {l : List Nat} {z : Nat → Int32} {i k : Nat} (hk : k < i) : upd (gSh l z i (k + 1)) (k + 1) (nI (l.getD k 0)) = gSh l z i k := by
  funext j
  unfold upd gSh
  by_cases e : j = k + 1
  · subst e
    rw [if_pos rfl, if_neg (by omega), if_pos (by omega), Nat.add_sub_cancel]
  · rw [if_neg e]
    by_cases e1 : j < k
    · rw [if_pos (by omega), if_pos e1]
    · by_cases e2 : j = k
      · subst e2
        rw [if_pos (by omega), if_neg (by omega), if_neg (by omega), if_pos (by omega)]
      · rw [if_neg (by omega), if_neg e1]
        by_cases e3 : k < j ∧ j ≤ i
        · rw [if_pos (by omega), if_pos e3]
        · rw [if_neg (by omega), if_neg e3, if_neg (by omega), if_neg (by omega)]
def gIns (l : List Nat) (s k : Nat) : List Nat := l.take k ++ s :: l.drop k
theorem gIns_len {l : List Nat} {s k : Nat} (hk : k ≤ l.length) : (gIns l s k).length = l.length + 1 := by
  unfold gIns
  rw [List.length_append, List.length_cons, List.length_take, List.length_drop]
  omega
theorem gIns_D {l : List Nat} {s k j : Nat} (hk : k ≤ l.length) : (gIns l s k).getD j 0 = if j < k then l.getD j 0 else if j = k then s else l.getD (j - 1) 0 := by
  unfold gIns
  rw [List.getD_eq_getElem?_getD, List.getD_eq_getElem?_getD, List.getD_eq_getElem?_getD]
  have lt : (l.take k).length = k := by rw [List.length_take]; omega
  by_cases e : j < k
  · rw [if_pos e, List.getElem?_append_left (by omega), List.getElem?_take_of_lt e]
  · rw [if_neg e, List.getElem?_append_right (by omega), lt]
    by_cases e2 : j = k
    · subst e2
      rw [if_pos rfl, Nat.sub_self]
      try rfl
    · rw [if_neg e2]
      obtain ⟨d, hd⟩ : ∃ d, j - k = d + 1 := ⟨j - k - 1, by omega⟩
      rw [hd, List.getElem?_cons_succ, List.getElem?_drop, show k + d = j - 1 by omega]
theorem gSh_w {l : List Nat} {z : Nat → Int32} {k s : Nat} (hk : k ≤ l.length) : upd (gSh l z l.length k) k (nI s) = gRw (gIns l s k) z := by
  funext j
  unfold upd gRw gSh
  rw [gIns_len hk, gIns_D hk]
  by_cases e : j = k
  · rw [if_pos e, if_pos (by omega), if_neg (by omega), if_pos e]
  · rw [if_neg e]
    by_cases e1 : j < k
    · rw [if_pos e1, if_pos (by omega), if_pos e1]
    · rw [if_neg e1]
      by_cases e2 : j ≤ l.length
      · rw [if_pos (by omega), if_pos (by omega), if_neg e1, if_neg e]
      · rw [if_neg (by omega), if_neg (by omega), if_neg (by omega)]
theorem gIns_mem {l : List Nat} {s k x : Nat} : (x ∈ gIns l s k) = (x ∈ l ∨ x = s) := by
  unfold gIns
  rw [List.mem_append, List.mem_cons]
  have : x ∈ l ↔ x ∈ l.take k ∨ x ∈ l.drop k := by rw [← List.mem_append, List.take_append_drop]
  exact propext ⟨fun q => by
    rcases q with q | q | q
    · exact Or.inl (this.mpr (Or.inl q))
    · exact Or.inr q
    · exact Or.inl (this.mpr (Or.inr q)), fun q => by
    rcases q with q | q
    · rcases this.mp q with w | w
      · exact Or.inl w
      · exact Or.inr (Or.inr w)
    · exact Or.inr (Or.inl q)⟩
def gKs (l : List Nat) (s : Nat) : Nat → Nat
  | 0 => 0
  | k + 1 => if l.getD k 0 ≤ s then k + 1 else gKs l s k
theorem gKs_le {l : List Nat} {s : Nat} : ∀ {k : Nat}, gKs l s k ≤ k
  | 0 => Nat.le_refl _
  | k + 1 => by
    unfold gKs
    split
    · omega
    · have := gKs_le (l := l) (s := s) (k := k); omega
theorem gKs_hi {l : List Nat} {s : Nat} : ∀ {k j : Nat}, gKs l s k ≤ j → j < k → s < l.getD j 0
  | 0, j, _, h => by omega
  | k + 1, j, h1, h2 => by
    unfold gKs at h1
    split at h1
    · omega
    · rename_i e
      by_cases q : j = k
      · subst q; omega
      · exact gKs_hi (k := k) h1 (by omega)
theorem gKs_lo {l : List Nat} {s : Nat} : ∀ {k : Nat}, 0 < gKs l s k → l.getD (gKs l s k - 1) 0 ≤ s
  | 0, h => by unfold gKs at h; omega
  | k + 1, h => by
    unfold gKs at h ⊢
    split
    · rename_i e
      exact e
    · rename_i e
      rw [if_neg e] at h
      exact gKs_lo h
theorem gSo_ins {l : List Nat} {s : Nat} (hs : gSo l) (hn : ¬ (0 < gKs l s l.length ∧ l.getD (gKs l s l.length - 1) 0 = s)) : gSo (gIns l s (gKs l s l.length)) := by
  have l1 := gKs_le (l := l) (s := s) (k := l.length)
  have l2 : ∀ j, gKs l s l.length ≤ j → j < l.length → s < l.getD j 0 := fun j h1 h2 => gKs_hi h1 h2
  have l3 : ∀ j, j < gKs l s l.length → l.getD j 0 < s := fun j hj => by
    have h1 := gKs_lo (l := l) (s := s) (k := l.length) (by omega)
    by_cases q : j = gKs l s l.length - 1
    · have : l.getD (gKs l s l.length - 1) 0 ≠ s := fun e => hn ⟨by omega, e⟩
      rw [q]; omega
    · have := hs j (gKs l s l.length - 1) (by omega) (by omega)
      omega
  generalize gKs l s l.length = k at l1 l2 l3
  intro i j hij hj
  rw [gIns_len l1] at hj
  rw [gIns_D l1, gIns_D l1]
  by_cases e1 : j < k
  · rw [if_pos (by omega), if_pos e1]; exact hs i j hij (by omega)
  · rw [if_neg e1]
    by_cases e2 : j = k
    · rw [if_pos e2, if_pos (by omega)]; exact l3 i (by omega)
    · rw [if_neg e2]
      by_cases e3 : i < k
      · rw [if_pos e3]; exact hs i (j - 1) (by omega) (by omega)
      · rw [if_neg e3]
        by_cases e4 : i = k
        · rw [if_pos e4]; exact l2 (j - 1) (by omega) (by omega)
        · rw [if_neg e4]; exact hs (i - 1) (j - 1) (by omega) (by omega)
theorem gKs_mem {l : List Nat} {s : Nat} (hs : gSo l) : (s ∈ l) = (0 < gKs l s l.length ∧ l.getD (gKs l s l.length - 1) 0 = s) := by
  have l1 := gKs_le (l := l) (s := s) (k := l.length)
  refine propext ⟨fun q => ?_, fun q => ?_⟩
  · obtain ⟨j, hj, e⟩ := List.mem_iff_getElem.mp q
    have e2 : l.getD j 0 = s := by rw [List.getD_eq_getElem?_getD, List.getElem?_eq_getElem hj]; exact e
    have h1 : j < gKs l s l.length := by
      rcases Nat.lt_or_ge j (gKs l s l.length) with w | w
      · exact w
      · have := gKs_hi (l := l) (s := s) (k := l.length) w hj; omega
    refine ⟨by omega, ?_⟩
    have h2 := gKs_lo (l := l) (s := s) (k := l.length) (by omega)
    by_cases w : j = gKs l s l.length - 1
    · rw [← w]; exact e2
    · have := hs j (gKs l s l.length - 1) (by omega) (by omega)
      omega
  · rw [← q.2, List.getD_eq_getElem?_getD, List.getElem?_eq_getElem (by omega)]
    exact List.getElem_mem _
theorem c_ins {l : List Nat} {z : Nat → Int32} {s : Nat} {M : zMem} {H20 : Int32 → zMem → Option (Int32 × zMem)} (hl : l.length < 3) (hsm : gSm l) (hs : s < 256) : ∀ (k f : Nat), k ≤ l.length → k < f → mf_X6_readRow_l51 gR 44 1 H20 f (nI l.length) (nI s) (nI k) (zrowI M 45 (gSh l z l.length k)) = if 0 < gKs l s k ∧ l.getD (gKs l s k - 1) 0 = s then some (nI 0, zrowI M 45 (gSh l z l.length (gKs l s k))) else H20 (nI (l.length + 1)) (zrowI M 45 (gRw (gIns l s (gKs l s k)) z))
  | 0, f, hk, hf => by
    match f, hf with
    | f + 1, _ =>
      have e0 : gKs l s 0 = 0 := rfl
      rw [e0, if_neg (by omega)]
      simp (disch := omega) only [zlet_ok, zcl_ok, zl_lit, zl_m1, nI_add, zald_nI, nI_ltE, nI_leE, nI_eqE, zm1_lt', zm1_le', zm1_nlt', zm1_nle', zm1_ne, zm1_ne', zm1_add1, gwI, grI_rI, zrI_s, zrI_n, zrI_L, gwL, grL_rL, zrL_s, zrL_n, zrL_I, Nat.zero_add, ↓reduceIte, if_true, if_false, gB_0, gB_1, gB_01, zchk_t, gB_1e, eq_self, gcle, gcnle, gclt, gcnlt, gcne, not_true_eq_false, not_false_eq_true, true_or, or_true, false_or, or_false, true_and, and_true, false_and, and_false, mf_X6_readRow_l51, mf_X6_readRow_b91, mf_X6_readRow_b111, r44_5, gSh_w]
  | k + 1, f, hk, hf => by
    match f, hf with
    | f + 1, hf =>
      have b1 := hsm k
      have e9 : gSh l z l.length (k + 1) k = nI (l.getD k 0) := by
        unfold gSh
        try rw [if_pos (by omega)]
      by_cases e : l.getD k 0 ≤ s
      · have e0 : gKs l s (k + 1) = k + 1 := if_pos e
        rw [e0, Nat.add_sub_cancel]
        by_cases e2 : l.getD k 0 = s
        · rw [if_pos ⟨by omega, e2⟩]
          simp (disch := omega) only [zlet_ok, zcl_ok, zl_lit, zl_m1, nI_add, zald_nI, nI_ltE, nI_leE, nI_eqE, zm1_lt', zm1_le', zm1_nlt', zm1_nle', zm1_ne, zm1_ne', zm1_add1, gwI, grI_rI, zrI_s, zrI_n, zrI_L, gwL, grL_rL, zrL_s, zrL_n, zrL_I, Nat.zero_add, ↓reduceIte, if_true, if_false, gB_0, gB_1, gB_01, zchk_t, gB_1e, eq_self, gcle, gcnle, gclt, gcnlt, gcne, not_true_eq_false, not_false_eq_true, true_or, or_true, false_or, or_false, true_and, and_true, false_and, and_false, mf_X6_readRow_l51, mf_X6_readRow_b91, r44_5, nI_subE, Nat.add_sub_cancel, e9, e2, Nat.le_refl]
        · rw [if_neg (fun q => e2 q.2)]
          simp (disch := omega) only [zlet_ok, zcl_ok, zl_lit, zl_m1, nI_add, zald_nI, nI_ltE, nI_leE, nI_eqE, zm1_lt', zm1_le', zm1_nlt', zm1_nle', zm1_ne, zm1_ne', zm1_add1, gwI, grI_rI, zrI_s, zrI_n, zrI_L, gwL, grL_rL, zrL_s, zrL_n, zrL_I, Nat.zero_add, ↓reduceIte, if_true, if_false, gB_0, gB_1, gB_01, zchk_t, gB_1e, eq_self, gcle, gcnle, gclt, gcnlt, gcne, not_true_eq_false, not_false_eq_true, true_or, or_true, false_or, or_false, true_and, and_true, false_and, and_false, mf_X6_readRow_l51, mf_X6_readRow_b91, mf_X6_readRow_b111, r44_5, nI_subE, Nat.add_sub_cancel, e9, e2, e, gSh_w]
      · have e0 : gKs l s (k + 1) = gKs l s k := if_neg e
        rw [e0, ← c_ins (z := z) (M := M) (H20 := H20) hl hsm hs k f (by omega) (by omega)]
        rw [mf_X6_readRow_l51]
        simp only [zl_lit, zl_m1, zlet_ok]
        rw [if_neg (by rw [nI_leI (by omega) (by omega)]; omega), nI_subE (by omega), Nat.add_sub_cancel, zald_nI (by omega) (by omega), r44_5, zrI_s, e9, if_neg (by rw [nI_leI (by omega) (by omega)]; omega), zald_nI (by omega) (by omega), zald_nI (by omega) (by omega), gwI, grI_rI, zrI_s, e9, gSh_s (by omega), enI_dec, enI_s]
theorem cm_read {h a : zN} {t z zl : Nat → Int32} {tl : Nat} {tb : Nat → Nat} {Mr : zMem} (hH : gH h) (hA : gA h a) (ht : tl ≤ 3) (hb : ∀ j, j < tl → tb j < 256 ∧ Mr.1 90 j = nI (tb j)) : ∀ (m i f f2 : Nat) (l : List Nat) (M : zMem), i + m = tl → l.length = i → gSo l → gAll (fun v => v < h 2) l → m < f → m < f2 → gRC h M → M.1 17 = eC a zl → M.1 1 1 = nI tl → (∀ j, j < tl → M.1 2 j = nI (tb j)) → (∃ M1, mf_X6_readRow_l20 gR 44 1 f (nI i) (zrowI M 45 (gRw l z)) = some (nI 0, M1) ∧ gF [45] [] M M1 ∧ mf_X12_order_l25 gR 89 f2 (nI tl) (nI (gbN (fun j => decide (j ∈ l)) 8)) (nI i) (zrowI Mr 91 (encM h a t)) = some (zm1, zrowI Mr 91 (encM h a t))) ∨ (∃ L f3, L.length = tl ∧ gSo L ∧ gAll (fun v => v < h 2) L ∧ 0 < f3 ∧ mf_X6_readRow_l20 gR 44 1 f (nI i) (zrowI M 45 (gRw l z)) = some (nI 1, zwI (zrowI M 45 (gRw L z)) 44 7 (nI tl)) ∧ mf_X12_order_l25 gR 89 f2 (nI tl) (nI (gbN (fun j => decide (j ∈ l)) 8)) (nI i) (zrowI Mr 91 (encM h a t)) = mf_X12_order_l25 gR 89 f3 (nI tl) (nI (gbN (fun j => decide (j ∈ L)) 8)) (nI tl) (zrowI Mr 91 (encM h a t)))
  | 0, i, f, f2, l, M, hi, hl, hs, ha, hf, hf2, hr, hc, h1, h2 => by
    match f, hf with
    | f + 1, _ =>
      have : i = tl := by omega
      subst this
      refine Or.inr ⟨l, f2, hl, hs, ha, by omega, ?_, rfl⟩
      have e1 : (zrowI M 45 (gRw l z)).1 1 1 = nI i := by rw [zrI_n (by decide)]; exact h1
      rw [mf_X6_readRow_l20, e1, if_pos (by rw [nI_leI (by omega) (by omega)]; omega), zlet_ok]
      simp only [zl_lit]
  | m + 1, i, f, f2, l, M, hi, hl, hs, ha, hf, hf2, hr, hc, h1, h2 => by
    obtain ⟨k0, k1, k2, k3, k4, k5, kh, kl, ka, kp⟩ := id hH
    match f, hf, f2, hf2 with
    | f + 1, hf, f2 + 1, hf2 =>
      obtain ⟨b1, b2⟩ := hb i (by omega)
      have hr1 : gRC h (zrowI M 45 (gRw l z)) := gRC.row (by decide) hr
      have hc1 : (zrowI M 45 (gRw l z)).1 17 = eC a zl := by rw [zrI_n (by decide)]; exact hc
      have e1 : (zrowI M 45 (gRw l z)).1 1 1 = nI tl := by rw [zrI_n (by decide)]; exact h1
      have e2 : (zrowI M 45 (gRw l z)).1 2 i = nI (tb i) := by rw [zrI_n (by decide)]; exact h2 i (by omega)
      have e3 : (zrowI Mr 91 (encM h a t)).1 90 i = nI (tb i) := by rw [zrI_n (by decide)]; exact b2
      have hsm : gSm l := fun j => by
        by_cases e : j < l.length
        · have := ha j e
          have : l.getD j 0 < h 2 := this
          show l.getD j 0 < 100
          omega
        · rw [List.getD_eq_getElem?_getD, List.getElem?_eq_none (by omega)]
          show 0 < 100
          decide
      rw [mf_X6_readRow_l20, mf_X12_order_l25]
      simp only [zl_lit, zlet_ok, zl_m1]
      rw [e1, if_neg (by rw [nI_leI (by omega) (by omega)]; omega), zald_nI (by omega) (by omega), r1_0, e2, r44_0, if_neg (by rw [nI_leI (by omega) (by omega)]; omega), zald_nI (by omega) (by omega), r89_1, e3]
      by_cases hx : tb i < h 2
      · have p3 := (hA.2.2 (tb i) (by omega)).1
        rw [c_howIs gLab_l hr1 hc1 hH hx, zcl_ok, m_isSheet hH hx, zcl_ok]
        have e10 : ¬ nI 1 = nI 0 := by decide +kernel
        by_cases hw : a (8 + tb i) = 0
        · rw [hw, if_pos rfl, if_neg e10, zald_nI (by omega) (by omega), e3, m_isWaiting (by omega) (hA.2.2 (tb i) (by omega)), zcl_ok, decide_eq_true hw, gB_t, if_neg e10, zald_nI (by omega) (by omega), e3, m_has (by omega), zcl_ok]
          have ci := c_ins (z := z) (s := tb i) (M := M) (H20 := mf_X6_readRow_l20 gR 44 1 f) (by omega) hsm b1 l.length zF (Nat.le_refl _) (by show _ < 5000; omega)
          rw [← gSh_i, hl] at ci
          have gm := gKs_mem (l := l) (s := tb i) hs
          rw [hl] at gm
          rw [ci]
          by_cases hd : 0 < gKs l (tb i) i ∧ l.getD (gKs l (tb i) i - 1) 0 = tb i
          · have hmem : tb i ∈ l := by rw [gm]; exact hd
            rw [if_pos hd, decide_eq_true hmem, if_neg (by decide +kernel)]
            exact Or.inl ⟨_, rfl, gF.rI gF.r (by decide) (by decide), rfl⟩
          · have hmem : ¬ tb i ∈ l := by rw [gm]; exact hd
            have hso := gSo_ins (s := tb i) hs (by rw [hl]; exact hd)
            rw [hl] at hso
            have lk := gKs_le (l := l) (s := tb i) (k := i)
            have hlen : (gIns l (tb i) (gKs l (tb i) i)).length = i + 1 := by rw [gIns_len (by omega), hl]
            have ha2 : gAll (fun v => v < h 2) (gIns l (tb i) (gKs l (tb i) i)) := fun j hj => by
              rw [hlen] at hj
              show (gIns l (tb i) (gKs l (tb i) i)).getD j 0 < h 2
              rw [gIns_D (by omega)]
              split
              · exact ha j (by omega)
              · split
                · exact hx
                · exact ha (j - 1) (by omega)
            have eb : nI (gbN (fun j => decide (j ∈ l)) 8) ||| (nI 1 <<< (nI (tb i) &&& nI 31)) = nI (gbN (fun j => decide (j ∈ gIns l (tb i) (gKs l (tb i) i))) 8) := by
              rw [gset8 (tb i) (by omega) _ (gbN_256 (Nat.le_refl 8)), gbN_setb (q := fun j => decide (j ∈ gIns l (tb i) (gKs l (tb i) i))) (by omega) (fun k hk => by rw [← Bool.decide_or]; exact decide_eq_decide.mpr (by rw [gIns_mem]))]
            rw [if_neg hd, decide_eq_false hmem, if_pos gB_f, zald_nI (by omega) (by omega), e3, eb, nI_add]
            exact cm_read (z := z) hH hA ht hb m (i + 1) f f2 (gIns l (tb i) (gKs l (tb i) i)) M (by omega) hlen hso ha2 (by omega) (by omega) hr hc h1 h2
        · have e11 : ¬ nI (a (8 + tb i)) = nI 0 := by rw [nI_eq (by omega) (by omega)]; exact hw
          rw [if_neg e11, if_neg e10, zald_nI (by omega) (by omega), e3, m_isWaiting (by omega) (hA.2.2 (tb i) (by omega)), zcl_ok, decide_eq_false hw, if_pos gB_f]
          exact Or.inl ⟨_, rfl, gF.rI gF.r (by decide) (by decide), rfl⟩
      · have ho : gOut (h 2) (nI (tb i)) := Or.inr ((nI_leI (by omega) (by omega)).mpr (by omega))
        rw [c_howIs_n gLab_l hr1 ho, zcl_ok, if_neg (by decide +kernel), m_isSheet_n hH ho, zcl_ok, if_pos rfl]
        exact Or.inl ⟨_, rfl, gF.rI gF.r (by decide) (by decide), rfl⟩
