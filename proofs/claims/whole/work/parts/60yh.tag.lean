/-! TAG: what the class writes, what the reference writes -/
def gTold (h : zN) (j : Nat) : Prop := j < h 0 ∨ (6 ≤ j ∧ j < 6 + h 1) ∨ (11 ≤ j ∧ j < 11 + h 2)
def gNm (h : zN) (nu : Nat → List Nat) (M : zMem) : Prop := ∀ j, gTold h j → gWd (nu j) ∧ M.2 8 j = lN (gPk 32 (nu j) 0) ∧ M.2 98 j = lN (gPk 27 (nu j) 0)
theorem gNm.fr {h : zN} {nu : Nat → List Nat} {M M1 : zMem} {ids ks : List Nat} (hf : gF ids ks M M1) (hi : ∀ o ∈ [8, 98], o ∉ ids) (N : gNm h nu M) : gNm h nu M1 := fun j hj => by
  rw [hf.2.1 8 (hi 8 (by decide)), hf.2.1 98 (hi 98 (by decide))]
  exact N j hj
def gTI (M : zMem) : Prop := ∃ T, T.length ≤ 24 ∧ gLC T M ∧ gLM T M
theorem gLC.fr {T : List Nat} {M M1 : zMem} {ids ks : List Nat} (hf : gF ids ks M M1) (hi : ∀ o ∈ [60, 61], o ∉ ids) (L : gLC T M) : gLC T M1 := by
  unfold gLC at L ⊢
  rw [hf.1 60 (hi 60 (by decide)) (by decide), hf.1 61 (hi 61 (by decide)) (by decide)]
  exact L
theorem gLM.fr {T : List Nat} {M M1 : zMem} {ids ks : List Nat} (hf : gF ids ks M M1) (hi : 110 ∉ ids) (hk : 41 ∉ ks) (L : gLM T M) : gLM T M1 := by
  unfold gLM at L ⊢
  rw [hf.1 110 hi (by decide), hf.2.2 41 hk]
  exact L
theorem gTI.fr {M M1 : zMem} {ids ks : List Nat} (hf : gF ids ks M M1) (hi : ∀ o ∈ [60, 61, 110], o ∉ ids) (hk : 41 ∉ ks) (I : gTI M) : gTI M1 := by
  obtain ⟨T, h1, h2, h3⟩ := I
  exact ⟨T, h1, h2.fr hf (fun o ho => hi o ((by decide : ∀ o ∈ [60, 61], o ∈ [60, 61, 110]) o ho)), h3.fr hf (hi 110 (by decide)) hk⟩
def gStr : Nat → List Nat
  | 1 => [32, 119, 97, 105, 116, 115]
  | 2 => [32, 100, 111, 110, 101]
  | 3 => [32, 115, 112, 111, 105, 108, 116]
  | _ => [32, 105, 110, 32]
theorem gStr_l : ∀ i, i < 5 → 0 < i → zlenJS.getD i 0 = (gStr i).length := by decide +kernel
theorem gStr_c : ∀ i, i < 5 → 0 < i → ∀ j, j < (gStr i).length → zsch i j = nI ((gStr i).getD j 0) := by decide +kernel
theorem gStr_7 : ∀ i, i < 5 → (gStr i).length ≤ 7 := by decide +kernel
theorem c_textL {i : Nat} (hi : i < 5) (h0 : 0 < i) : ∀ (rest pre : List Nat) (f : Nat) (T : List Nat) (M : zMem), gStr i = pre ++ rest → rest.length < f → gLC (T ++ pre) M → T.length + pre.length + rest.length ≤ 24 → ∃ M1, mf_X9_addText_l2 gR 60 i f (nI pre.length) M = some ((), M1) ∧ gLC (T ++ (pre ++ rest)) M1 ∧ gF [60, 61] [] M M1
  | [], pre, f + 1, T, M, hs, hf, L, hT => by
    refine ⟨M, ?_, by rw [List.append_nil]; exact L, gF.r⟩
    have l := congrArg List.length hs
    rw [List.append_nil] at l
    have l7 := gStr_7 i hi
    rw [mf_X9_addText_l2, show zslen i = nI (gStr i).length from congrArg nI (gStr_l i hi h0), l, if_pos ((nI_leI (by omega) (by omega)).mpr (Nat.le_refl _))]
  | c :: rest, pre, f + 1, T, M, hs, hf, L, hT => by
    have l := congrArg List.length hs
    rw [List.length_append, show (c :: rest).length = rest.length + 1 from rfl] at l
    rw [show (c :: rest).length = rest.length + 1 from rfl] at hf hT
    have l7 := gStr_7 i hi
    have ec : zsch i pre.length = nI c := by
      rw [gStr_c i hi h0 _ (by omega), hs, List.getD_eq_getElem?_getD, List.getElem?_append_right (Nat.le_refl _), Nat.sub_self]
      try rfl
    obtain ⟨M1, a1, L1, f1⟩ := c_addB (c := c) (by rw [List.length_append]; omega) L
    rw [List.append_assoc] at L1
    obtain ⟨M2, a2, L2, f2⟩ := c_textL hi h0 rest (pre ++ [c]) f T M1 (by rw [List.append_assoc]; exact hs) (by omega) L1 (by rw [gTx_l]; omega)
    rw [gTx_l] at a2
    rw [List.append_assoc pre] at L2
    refine ⟨M2, ?_, L2, f1.trans f2⟩
    rw [mf_X9_addText_l2, show zslen i = nI (gStr i).length from congrArg nI (gStr_l i hi h0), if_neg (by rw [nI_leI (by omega) (by omega)]; omega), gStr_l i hi h0, zald_nI (by omega) (by omega), ec, a1, zcl_ok]
    simp only [zl_lit]
    rw [nI_add]
    exact a2
theorem c_addText {i : Nat} {T : List Nat} {M : zMem} (hi : i < 5) (h0 : 0 < i) (L : gLC T M) (hT : T.length + 7 ≤ 24) : ∃ M1, mf_X9_addText gR 60 i M = some ((), M1) ∧ gLC (T ++ gStr i) M1 ∧ gF [60, 61] [] M M1 := by
  have l7 := gStr_7 i hi
  obtain ⟨M1, a1, L1, f1⟩ := c_textL hi h0 (gStr i) [] 5000 T M rfl (by omega) (by rw [List.append_nil]; exact L) (by rw [show ([] : List Nat).length = 0 from rfl]; omega)
  exact ⟨M1, a1, L1, f1⟩
def gUp (w : List Nat) : List Nat := w.map (fun c => 96 + c)
theorem gUp_l {w : List Nat} : (gUp w).length = w.length := List.length_map _
def gDig (n : Nat) : List Nat := if n ≤ 9 then [48 + n] else [48 + n / 10, 48 + n % 10]
def gTag (a : zN) (nu : Nat → List Nat) (s : Nat) : List Nat := gUp (nu (11 + s)) ++ (if a (8 + s) = 0 then gStr 1 else if a (8 + s) = 1 then gStr 4 ++ (gUp (nu (a (16 + s) - 1)) ++ ([32] ++ gDig (a (24 + s)))) else if a (8 + s) = 2 then gStr 2 else gStr 3)
theorem c_write {h a : zN} {z : Nat → Int32} {nu : Nat → List Nat} {M : zMem} {s : Nat} (hr : gRC h M) (hc : M.1 17 = eC a z) (hH : gH h) (hA : gA h a) (N : gNm h nu M) (hs : s < h 2) : ∃ M1, mf_X9_write gR 60 4 16 (nI s) M = some ((), M1) ∧ gLC (gTag a nu s) M1 ∧ gF [60, 61] [] M M1 := by
  obtain ⟨k0, k1, k2, k3, k4, k5, kh, kl, ka, kp⟩ := id hH
  obtain ⟨p1, p2, p3, p4, p5, p6⟩ := hA.2.2 s (by omega)
  obtain ⟨n1, n2, n3⟩ := N (11 + s) (Or.inr (Or.inr ⟨by omega, by omega⟩))
  have f0 : gF [60, 61] [] M (zwI M 60 1 (nI 0)) := gF.wI gF.r (by decide) (by decide)
  have L0 : gLC [] (zwI M 60 1 (nI 0)) := ⟨by rw [zwI_s, upd_s]; rfl, fun j hj => absurd hj (by show ¬ j < 0; omega)⟩
  obtain ⟨M1, a1, L1, f1⟩ := c_addName n1 L0 (by show 0 + 7 ≤ 24; omega)
  rw [List.nil_append] at L1
  have l1 := n1.2.1
  have lu : (gUp (nu (11 + s))).length ≤ 7 := by rw [gUp_l]; exact l1
  have g1 := f0.trans f1
  have hr1 : gRC h M1 := gRC.fr g1 (by decide) hr
  have hc1 : M1.1 17 = eC a z := by rw [g1.1 17 (by decide) (by decide)]; exact hc
  have e1 : mf_X9_write gR 60 4 16 (nI s) M = (if nI (a (8 + s)) = nI 0 then zcl (mf_X9_addText gR 60 1 M1) fun _ M11 => some ((), M11) else if nI (a (8 + s)) = nI 1 then zcl (mf_X9_writeBath gR 60 4 16 (nI s) M1) fun _ M14 => some ((), M14) else if nI (a (8 + s)) = nI 2 then zcl (mf_X9_addText gR 60 2 M1) fun _ M17 => some ((), M17) else if nI (a (8 + s)) = nI 3 then zcl (mf_X9_addText gR 60 3 M1) fun _ M20 => some ((), M20) else zcl (mf_X9_writeBath gR 60 4 16 (nI s) M1) fun _ M22 => some ((), M22)) := by
    unfold mf_X9_write
    simp only [zl_lit, zlet_ok]
    rw [c_hasSheet (gRC.fr f0 (by decide) hr) hH hs, zcl_ok, if_neg (by decide +kernel), nI_add, zald_nI (by omega) (by omega), r4_9, show (zwI M 60 1 (nI 0)).2 8 (11 + s) = M.2 8 (11 + s) from rfl, n2, a1, zcl_ok, c_howIs gLab_l hr1 hc1 hH hs, zcl_ok]
  rw [e1]
  unfold gTag
  by_cases w0 : a (8 + s) = 0
  · rw [if_pos w0, w0, if_pos rfl]
    obtain ⟨M2, a2, L2, f2⟩ := c_addText (i := 1) (by omega) (by omega) L1 (by rw [show List.map (fun c => 96 + c) (nu (11 + s)) = gUp (nu (11 + s)) from rfl]; omega)
    rw [a2, zcl_ok]
    exact ⟨M2, rfl, L2, g1.trans f2⟩
  rw [if_neg w0, if_neg (by rw [nI_eq (by omega) (by omega)]; exact w0)]
  by_cases w1 : a (8 + s) = 1
  · rw [if_pos w1, w1, if_pos rfl]
    obtain ⟨b, hb⟩ : ∃ b, a (16 + s) = b + 1 := ⟨a (16 + s) - 1, by have := p3.mp w1; omega⟩
    obtain ⟨m1, m2, m3⟩ := N b (Or.inl (by omega))
    obtain ⟨M2, a2, L2, f2⟩ := c_addText (i := 4) (by omega) (by omega) L1 (by rw [show List.map (fun c => 96 + c) (nu (11 + s)) = gUp (nu (11 + s)) from rfl]; omega)
    have l2 : (gUp (nu (11 + s)) ++ gStr 4).length ≤ 11 := by rw [List.length_append, show (gStr 4).length = 4 from rfl]; omega
    obtain ⟨M3, a3, L3, f3⟩ := c_addName m1 L2 (by rw [show List.map (fun c => 96 + c) (nu (11 + s)) = gUp (nu (11 + s)) from rfl]; omega)
    have l3 : ((gUp (nu (11 + s)) ++ gStr 4) ++ gUp (nu b)).length ≤ 18 := by have := m1.2.1; rw [List.length_append, gUp_l (w := nu b)]; omega
    obtain ⟨M4, a4, L4, f4⟩ := c_addB (c := 32) (T := (gUp (nu (11 + s)) ++ gStr 4) ++ gUp (nu b)) (by omega) L3
    have l4 : (((gUp (nu (11 + s)) ++ gStr 4) ++ gUp (nu b)) ++ [32]).length ≤ 19 := by rw [gTx_l]; omega
    have g4 := g1.trans (f2.trans (f3.trans f4))
    have hr4 : gRC h M4 := gRC.fr g4 (by decide) hr
    have hc4 : M4.1 17 = encC a (gIn a) z := by rw [g4.1 17 (by decide) (by decide)]; exact hc
    have hc1' : M1.1 17 = encC a (gIn a) z := hc1
    have e2 : mf_X9_writeBath gR 60 4 16 (nI s) M1 = (if nI (a (24 + s)) ≤ nI 9 then mf_X9_writeBath_b68 gR 60 4 16 (nI (a (24 + s))) M4 else zcl (mf_X9_add gR 60 (nI 48 + nI (a (24 + s)) / nI 10) M4) fun _ M16 => mf_X9_writeBath_b68 gR 60 4 16 (nI (a (24 + s))) M16) := by
      unfold mf_X9_writeBath mf_X3_bathOf mf_X3_leftOf
      simp only [zl_lit, zl_m1]
      rw [gLab_l.1, gLab_l.2.1, c_hasSheet hr1 hH hs, zcl_ok, if_neg (by decide +kernel), nI_add, zald_nI (by omega) (by omega), hc1', eC_whe (by omega), hb, enI_s, zcl_ok, c_hasBath hr1 hH (by omega), zcl_ok, if_neg (by decide +kernel), a2, zcl_ok, nI_add, zald_nI (by omega) (by omega), Nat.zero_add, r4_9, (g1.trans f2).2.1 8 (by decide), m2, a3, zcl_ok, a4, zcl_ok, c_hasSheet hr4 hH hs, zcl_ok, if_neg (by decide +kernel), nI_add, zald_nI (by omega) (by omega), hc4, eC_left (by omega), zcl_ok]
    have e3 : ∀ M5 : zMem, mf_X9_writeBath_b68 gR 60 4 16 (nI (a (24 + s))) M5 = zcl (mf_X9_add gR 60 (nI (48 + a (24 + s) % 10)) M5) fun _ M18 => some ((), M18) := fun M5 => by
      unfold mf_X9_writeBath_b68
      simp only [zl_lit]
      rw [pk_rem (by omega) (by omega) (by omega), nI_add]
    rw [e2, show a (16 + s) - 1 = b by omega]
    by_cases w9 : a (24 + s) ≤ 9
    · obtain ⟨M5, a5, L5, f5⟩ := c_addB (c := 48 + a (24 + s) % 10) (by omega) L4
      rw [if_pos ((nI_leI (by omega) (by omega)).mpr w9), e3, a5, zcl_ok, zcl_ok]
      refine ⟨M5, rfl, ?_, g4.trans f5⟩
      rw [Nat.mod_eq_of_lt (by omega)] at L5
      unfold gDig
      rw [if_pos w9]
      simp only [List.append_assoc] at L5 ⊢
      exact L5
    · obtain ⟨M5, a5, L5, f5⟩ := c_addB (c := 48 + a (24 + s) / 10) (by omega) L4
      obtain ⟨M6, a6, L6, f6⟩ := c_addB (c := 48 + a (24 + s) % 10) (by rw [gTx_l]; omega) L5
      rw [if_neg (by rw [nI_leI (by omega) (by omega)]; exact w9), pk_div (by omega) (by omega) (by omega), nI_add, a5, zcl_ok, e3, a6, zcl_ok, zcl_ok]
      refine ⟨M6, rfl, ?_, g4.trans (f5.trans f6)⟩
      unfold gDig
      rw [if_neg w9]
      simp only [List.append_assoc] at L6 ⊢
      exact L6
  rw [if_neg w1, if_neg (by rw [nI_eq (by omega) (by omega)]; exact w1)]
  by_cases w2 : a (8 + s) = 2
  · rw [if_pos w2, w2, if_pos rfl]
    obtain ⟨M2, a2, L2, f2⟩ := c_addText (i := 2) (by omega) (by omega) L1 (by rw [show List.map (fun c => 96 + c) (nu (11 + s)) = gUp (nu (11 + s)) from rfl]; omega)
    rw [a2, zcl_ok]
    exact ⟨M2, rfl, L2, g1.trans f2⟩
  · rw [if_neg w2, show a (8 + s) = 3 by omega, if_neg (by decide +kernel), if_pos rfl]
    obtain ⟨M2, a2, L2, f2⟩ := c_addText (i := 3) (by omega) (by omega) L1 (by rw [show List.map (fun c => 96 + c) (nu (11 + s)) = gUp (nu (11 + s)) from rfl]; omega)
    rw [a2, zcl_ok]
    exact ⟨M2, rfl, L2, g1.trans f2⟩
theorem m_next {w T : List Nat} {M : zMem} (hw : gWd w) (L : gLM T M) (hT : T.length + 8 ≤ 48) : ∃ M1, mf_X12_writeNext gR 89 (lN (gPk 27 w 0)) M = some ((), M1) ∧ gLM (T ++ ([32] ++ gUp w)) M1 ∧ gF [110] [41] M M1 := by
  obtain ⟨M1, a1, L1, f1⟩ := m_writeB (c := 32) (by omega) L
  obtain ⟨M2, a2, L2, f2⟩ := m_word hw L1 (by rw [gTx_l]; omega)
  refine ⟨M2, ?_, ?_, f1.trans f2⟩
  · unfold mf_X12_writeNext
    simp only [zl_lit]
    rw [a1, zcl_ok, a2, zcl_ok]
  · rw [List.append_assoc] at L2; exact L2
theorem m_number {n : Nat} {T : List Nat} {M : zMem} (hn : n ≤ 39) (L : gLM T M) (hT : T.length + 2 ≤ 48) : ∃ M1, mr_X12_writeNumber zD gR 89 (nI n) M = some ((), M1) ∧ gLM (T ++ gDig n) M1 ∧ gF [110] [41] M M1 := by
  have e3 : ∀ (k d : Nat) (M5 : zMem), k ≤ 39 → mf_X12_writeNumber_b14 gR (mg_X12e d) 89 (nI k) M5 = zcl (mf_X12_write gR 89 (nI (48 + k % 10)) M5) fun _ M4 => some ((), M4) := fun k d M5 hk => by
    unfold mf_X12_writeNumber_b14
    simp only [zl_lit]
    rw [pk_rem (by omega) (by omega) (by omega), nI_add]
  have e4 : ∀ (k d : Nat) (M5 : zMem), k ≤ 39 → mg_X12e (d + 1) gR 89 (nI k) M5 = if k ≤ 9 then mf_X12_writeNumber_b14 gR (mg_X12e d) 89 (nI k) M5 else zcl (mg_X12e d gR 89 (nI (k / 10)) M5) fun _ M2 => mf_X12_writeNumber_b14 gR (mg_X12e d) 89 (nI k) M2 := fun k d M5 hk => by
    show mf_X12_writeNumber gR (mg_X12e d) 89 (nI k) M5 = _
    unfold mf_X12_writeNumber
    simp only [zl_lit]
    rw [pk_div (by omega) (by omega) (by omega)]
    simp only [nI_leE (show k < 2 ^ 31 by omega) (show 9 < 2 ^ 31 by omega)]
  unfold mr_X12_writeNumber gDig
  show ∃ M1, mg_X12e (62 + 1 + 1) gR 89 (nI n) M = some ((), M1) ∧ _
  rw [e4 _ _ _ hn]
  by_cases w : n ≤ 9
  · obtain ⟨M5, a5, L5, f5⟩ := m_writeB (c := 48 + n % 10) (by omega) L
    rw [if_pos w, if_pos w, e3 _ _ _ hn, a5, zcl_ok]
    rw [Nat.mod_eq_of_lt (by omega)] at L5
    exact ⟨M5, rfl, L5, f5⟩
  · obtain ⟨M5, a5, L5, f5⟩ := m_writeB (c := 48 + n / 10 % 10) (by omega) L
    obtain ⟨M6, a6, L6, f6⟩ := m_writeB (c := 48 + n % 10) (by rw [gTx_l]; omega) L5
    rw [if_neg w, if_neg w, e4 _ _ _ (by omega), if_pos (by omega), e3 _ _ _ (by omega), a5, zcl_ok, zcl_ok, e3 _ _ _ hn, a6, zcl_ok]
    refine ⟨M6, rfl, ?_, f5.trans f6⟩
    rw [List.append_assoc, Nat.mod_eq_of_lt (a := n / 10) (by omega)] at L6
    exact L6
theorem gKw_w : ∀ k, k < 24 → gWd (gKw k) := by
  intro k hk
  have : (List.range 24).all (fun k => decide (1 ≤ (gKw k).length ∧ (gKw k).length ≤ 7) && (gKw k).all (fun c => decide (1 ≤ c ∧ c ≤ 26))) = true := by decide +kernel
  have h := List.all_eq_true.mp this k (List.mem_range.mpr hk)
  rw [Bool.and_eq_true] at h
  have h1 := of_decide_eq_true h.1
  exact ⟨h1.1, h1.2, fun c hc => of_decide_eq_true (List.all_eq_true.mp h.2 c hc)⟩
theorem gWaits : gWd [23, 1, 9, 20, 19] := ⟨by decide, by decide, by decide⟩
theorem m_tag {h a : zN} {t : Nat → Int32} {nu : Nat → List Nat} {M : zMem} {s : Nat} (hm : M.1 91 = encM h a t) (hH : gH h) (hA : gA h a) (N : gNm h nu M) (hs : s < h 2) : ∃ M1, mf_X12_tag gR 89 (nI s) M = some (nI (gTag a nu s).length, M1) ∧ gLM (gTag a nu s) M1 ∧ gF [110] [0, 41] M M1 := by
  obtain ⟨k0, k1, k2, k3, k4, k5, kh, kl, ka, kp⟩ := id hH
  obtain ⟨p1, p2, p3, p4, p5, p6⟩ := hA.2.2 s (by omega)
  obtain ⟨n1, n2, n3⟩ := N (11 + s) (Or.inr (Or.inr ⟨by omega, by omega⟩))
  have f0 : gF [110] [0, 41] M (zwI (zwI M 89 0 (nI 0)) 89 41 (nI 0)) := gF.w9 (gF.w9 gF.r (by decide)) (by decide)
  have L0 : gLM [] (zwI (zwI M 89 0 (nI 0)) 89 41 (nI 0)) := ⟨by rw [zwI_s, upd_s]; rfl, fun j hj => absurd hj (by show ¬ j < 0; omega)⟩
  obtain ⟨M1, a1, L1, f1⟩ := m_word n1 L0 (by show 0 + 7 ≤ 48; omega)
  rw [List.nil_append] at L1
  have l1 := n1.2.1
  have lu : (gUp (nu (11 + s))).length ≤ 7 := by rw [gUp_l]; exact l1
  have g1 := f0.trans (f1.mono (ids' := [110]) (ks' := [0, 41]) (by decide) (by decide))
  have hm1 : M1.1 91 = encM h a t := by rw [g1.1 91 (by decide) (by decide)]; exact hm
  have hms : (zwI M 89 0 (nI 0)).1 91 = encM h a t := by rw [zwI_n (by decide)]; exact hm
  have hi := m_isSheet (a := a) (t := t) (M := zwI M 89 0 (nI 0)) hH hs
  rw [grI_id hms] at hi
  have hb := m_isBathed (h := h) (t := t) (M := M1) (s := s) (by omega) (hA.2.2 s (by omega))
  have hw := m_isWaiting (h := h) (t := t) (M := M1) (s := s) (by omega) (hA.2.2 s (by omega))
  rw [grI_id hm1] at hb hw
  have hn := gTag
  unfold mf_X12_tag
  simp only [zl_lit, zlet_ok]
  rw [hi, zcl_ok, if_neg (by decide +kernel), nI_add, zald_nI (by omega) (by omega), r89_21, show (zwI (zwI M 89 0 (nI 0)) 89 41 (nI 0)).2 98 (11 + s) = M.2 98 (11 + s) from rfl, n3, a1, zcl_ok, hb, zcl_ok, hw, nI_add, nI_add, nI_add, r89_14]
  have fin : ∀ (w : List Nat), gWd w → ∃ M2, mf_X12_tag_b94 gR 89 (lN (gPk 27 w 0)) M1 = some (nI (gUp (nu (11 + s)) ++ ([32] ++ gUp w)).length, M2) ∧ gLM (gUp (nu (11 + s)) ++ ([32] ++ gUp w)) M2 ∧ gF [110] [0, 41] M M2 := fun w hw => by
    obtain ⟨M2, a2, L2, f2⟩ := m_next hw L1 (by rw [show List.map (fun c => 96 + c) (nu (11 + s)) = gUp (nu (11 + s)) from rfl]; omega)
    refine ⟨M2, ?_, L2, g1.trans (f2.mono (by decide) (by decide))⟩
    unfold mf_X12_tag_b94
    rw [a2, zcl_ok, L2.1]
    try rfl
  unfold gTag
  by_cases w1 : a (8 + s) = 1
  · obtain ⟨b, hb⟩ : ∃ b, a (16 + s) = b + 1 := ⟨a (16 + s) - 1, by have := p3.mp w1; omega⟩
    obtain ⟨m1, m2, m3⟩ := N b (Or.inl (by omega))
    obtain ⟨M2, a2, L2, f2⟩ := m_next (gKw_w 18 (by omega)) L1 (by rw [show List.map (fun c => 96 + c) (nu (11 + s)) = gUp (nu (11 + s)) from rfl]; omega)
    have z3 : (([32] : List Nat) ++ gUp (gKw 18)).length = 3 := rfl
    have l2 : (gUp (nu (11 + s)) ++ ([32] ++ gUp (gKw 18))).length ≤ 10 := by rw [List.length_append, z3]; omega
    obtain ⟨M3, a3, L3, f3⟩ := m_next m1 L2 (by rw [show List.map (fun c => 96 + c) (nu (11 + s)) = gUp (nu (11 + s)) from rfl]; omega)
    have l3 : ((gUp (nu (11 + s)) ++ ([32] ++ gUp (gKw 18))) ++ ([32] ++ gUp (nu b))).length ≤ 18 := by have := m1.2.1; rw [List.length_append, List.length_append (as := [32]), gUp_l (w := nu b), show ([32] : List Nat).length = 1 from rfl]; omega
    obtain ⟨M4, a4, L4, f4⟩ := m_writeB (c := 32) (T := (gUp (nu (11 + s)) ++ ([32] ++ gUp (gKw 18))) ++ ([32] ++ gUp (nu b))) (by omega) L3
    obtain ⟨M5, a5, L5, f5⟩ := m_number p4 L4 (by rw [gTx_l]; omega)
    have hm2 : M2.1 91 = encM h a t := by rw [f2.1 91 (by decide) (by decide)]; exact hm1
    have hm4 : M4.1 91 = encM h a t := by rw [f4.1 91 (by decide) (by decide), f3.1 91 (by decide) (by decide)]; exact hm2
    have hN2 : M2.2 98 = M.2 98 := by rw [f2.2.1 98 (by decide), g1.2.1 98 (by decide)]
    have ez : ¬ gB (decide (a (8 + s) = 1)) = nI 0 := by rw [decide_eq_true w1]; decide +kernel
    have e5 : gUp (nu (11 + s)) ++ (if a (8 + s) = 0 then gStr 1 else if a (8 + s) = 1 then gStr 4 ++ (gUp (nu (a (16 + s) - 1)) ++ ([32] ++ gDig (a (24 + s)))) else if a (8 + s) = 2 then gStr 2 else gStr 3) = (((gUp (nu (11 + s)) ++ ([32] ++ gUp (gKw 18))) ++ ([32] ++ gUp (nu b))) ++ [32]) ++ gDig (a (24 + s)) := by
      rw [if_neg (by omega), if_pos w1, show a (16 + s) - 1 = b by omega, show gStr 4 = [32] ++ gUp (gKw 18) ++ [32] from rfl]
      simp only [List.append_assoc]
    rw [e5, if_neg ez, m_wordOf 18 _ (by omega), zcl_ok, a2, zcl_ok, zald_nI (by omega) (by omega), hm2, eM_in (by omega), hb, enI_s, zald_nI (by omega) (by omega), hN2, m3, a3, zcl_ok, a4, zcl_ok, zald_nI (by omega) (by omega), hm4, eM_left (by omega), a5, zcl_ok, L5.1]
    exact ⟨M5, rfl, L5, g1.trans ((f2.trans (f3.trans (f4.trans f5))).mono (by decide) (by decide))⟩
  · have ez : gB (decide (a (8 + s) = 1)) = nI 0 := by rw [decide_eq_false w1]; rfl
    rw [if_pos ez, zcl_ok, if_neg w1]
    by_cases w0 : a (8 + s) = 0
    · have ez2 : ¬ gB (decide (a (8 + s) = 0)) = nI 0 := by rw [decide_eq_true w0]; decide +kernel
      have esp : gSp1 (gSp1 (gSp1 (gSp1 (gSp1 (lN 27 * ((nI 119).toInt64 - lN 96) + (nI 97).toInt64 - lN 96) (nI 105)) (nI 116)) (nI 115)) (nI 0)) (nI 0) = lN (gPk 27 [23, 1, 9, 20, 19] 0) := by decide +kernel
      rw [if_neg ez2, if_pos w0, m_spelt, zcl_ok, esp]
      exact fin _ gWaits
    · have ez2 : gB (decide (a (8 + s) = 0)) = nI 0 := by rw [decide_eq_false w0]; rfl
      rw [if_pos ez2, if_neg w0, zald_nI (by omega) (by omega), hm1, eM_how (by omega)]
      by_cases w2 : a (8 + s) = 2
      · rw [if_pos w2, w2, if_pos rfl, m_wordOf 15 _ (by omega), zcl_ok]
        exact fin _ (gKw_w 15 (by omega))
      · rw [if_neg w2, if_neg (by rw [nI_eq (by omega) (by omega)]; exact w2), m_wordOf 16 _ (by omega), zcl_ok]
        exact fin _ (gKw_w 16 (by omega))
theorem q_tag {h a : zN} {t : Nat → Int32} {nu : Nat → List Nat} {M : zMem} (W : gW h a t M) (N : gNm h nu M) (I : gTI M) (x : Int32) : ∃ r M1 M2, mf_X11_tag gR 0 x M = some (r, M1) ∧ mf_X12_tag gR 89 x M1 = some (r, M2) ∧ gF [60, 61, 110] [0, 41] M M2 ∧ gTI M2 := by
  have W0 := W
  obtain ⟨hr, hc0, hm, hH, hA⟩ := W
  obtain ⟨z, hc⟩ : ∃ z, M.1 17 = eC a z := ⟨_, hc0⟩
  have hc' : M.1 17 = encC a (gIn a) z := hc
  obtain ⟨q0, q1, q2, q3, q4, q5, qh, ql, qp, qa⟩ := id hr
  obtain ⟨k0, k1, k2, k3, k4, k5, kh, kl, ka, kp⟩ := id hH
  have hm0 : (zwI M 89 0 (nI 0)).1 91 = encM h a t := by rw [zwI_n (by decide)]; exact hm
  rcases gcase (n := h 2) (by omega) x with ⟨s, hs, rfl⟩ | ho
  · obtain ⟨M1, a1, L1, f1⟩ := c_write hr hc hH hA N hs
    have f1' : gF [60, 61, 110] [0, 41] M M1 := f1.mono (by decide) (by decide)
    obtain ⟨M2, a2, L2, f2⟩ := m_tag (M := M1) (h := h) (t := t) (by rw [f1.1 91 (by decide) (by decide)]; exact hm) hH hA (N.fr f1 (by decide)) hs
    have hl : (gTag a nu s).length ≤ 24 := by
      obtain ⟨p1, p2, p3, p4, p5, p6⟩ := hA.2.2 s (by omega)
      obtain ⟨n1, n2, n3⟩ := N (11 + s) (Or.inr (Or.inr ⟨by omega, by omega⟩))
      have l1 := n1.2.1
      unfold gTag
      rw [List.length_append, gUp_l]
      split
      · show _ + 6 ≤ 24; omega
      split
      · rename_i w
        obtain ⟨m1, m2, m3⟩ := N (a (16 + s) - 1) (Or.inl (by have := p3.mp w; omega))
        have l2 := m1.2.1
        have l3 : (gDig (a (24 + s))).length ≤ 2 := by
          unfold gDig
          split
          · show 1 ≤ 2; omega
          · show 2 ≤ 2; omega
        rw [List.length_append, List.length_append, List.length_append, gUp_l]
        show _ + (4 + (_ + (1 + _))) ≤ 24
        omega
      split
      · show _ + 5 ≤ 24; omega
      · show _ + 7 ≤ 24; omega
    refine ⟨nI (gTag a nu s).length, M1, M2, ?_, a2, f1'.trans (f2.mono (by decide) (by decide)), gTag a nu s, hl, L1.fr f2 (by decide), L2⟩
    unfold mf_X11_tag
    rw [r0_1, c_hasSheet hr hH hs, zcl_ok]
    simp only [zl_lit]
    rw [if_neg (by decide +kernel), r0_12, r0_3, a1, zcl_ok, L1.1]
  · have f9 : gF [60, 61, 110] [0, 41] M (zwI M 89 0 (nI 0)) := gF.w9 gF.r (by decide)
    obtain ⟨T, t1, t2, t3⟩ := I
    refine ⟨zm1, M, zwI M 89 0 (nI 0), ?_, ?_, f9, T, t1, t2.fr (gF.w9 (ids := []) (ks := [0]) gF.r (by decide)) (by decide), t3.fr (gF.w9 (ids := []) (ks := [0]) gF.r (by decide)) (by decide) (by decide)⟩
    · unfold mf_X11_tag
      rw [r0_1, c_hasSheet_n hr ho, zcl_ok]
      simp only [zl_lit, zl_m1]
      rw [if_pos trivial]
    · have hi := m_isSheet_n (a := a) (t := t) (M := zwI M 89 0 (nI 0)) hH ho
      rw [grI_id hm0] at hi
      unfold mf_X12_tag
      simp only [zl_lit, zlet_ok, zl_m1]
      rw [hi, zcl_ok, if_pos rfl]
theorem q_byteAt {M : zMem} (I : gTI M) (x : Int32) : ∃ r, mf_X11_byteAt gR 0 x M = some (r, M) ∧ mf_X12_byteAt gR 89 x M = some (r, zwI M 89 0 (nI 0)) := by
  obtain ⟨T, t1, ⟨t2, t3⟩, t4, t5⟩ := I
  have e9 : (zwI M 89 0 (nI 0)).1 89 41 = nI T.length := by rw [zwI_s, upd_n (by decide)]; exact t4
  unfold mf_X11_byteAt mf_X12_byteAt
  simp only [zl_lit, zlet_ok, zl_m1]
  rw [r0_12, t2, e9]
  rcases gcase (n := T.length) (by omega) x with ⟨j, hj, rfl⟩ | ho
  · refine ⟨nI (T.getD j 0), ?_, ?_⟩
    · rw [if_neg (by rw [nI_ltI (by omega) (by omega)]; omega), if_neg (by rw [nI_leI (by omega) (by omega)]; omega), zald_nI (by omega) (by omega), r60_0, t3 j hj]
    · rw [m_isIn hj (by omega), zcl_ok, if_neg (by decide +kernel), zald_nI (by omega) (by omega), r89_40, zwI_n (by decide), t5 j hj]
  · refine ⟨zm1, ?_, ?_⟩
    · rcases ho with e | e
      · rw [if_pos e]
      · by_cases w : x < nI 0
        · rw [if_pos w]
        · rw [if_neg w, if_pos e]
    · rw [m_isIn_n (by omega) ho, zcl_ok, if_pos rfl]
