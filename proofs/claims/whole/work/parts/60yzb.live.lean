/-! BOOK: its LINES, lived by both -/
def gBw (h a : zN) (k x : Nat) : Nat := if k = 4 then (if a 0 + x ≤ 1000 then 0 else 41) else if gWhy h a k x = 0 then 0 else 10 * k + gWhy h a k x
def gBn (h a : zN) (k x : Nat) : zN := if k = 4 then (if a 0 + x ≤ 1000 then gPass h x a else a) else gDo h a k x
theorem gBw_le {h a : zN} {k x : Nat} (hk : k ≤ 4) : gBw h a k x ≤ 41 := by
  have := gWhy_le (h := h) (a := a) (k := k) (x := x)
  unfold gBw
  split
  · split <;> omega
  · split <;> omega
theorem gBn_ok {h a : zN} {c k x : Nat} (hH : gH h) (hA : gA h a) (hO : gO c a) (hB : gBK h k x) : gA h (gBn h a k x) ∧ gO (c + 1) (gBn h a k x) := by
  obtain ⟨b1, b2, b3⟩ := hB
  unfold gBn
  by_cases e : k = 4
  · rw [if_pos e]
    by_cases w : a 0 + x ≤ 1000
    · rw [if_pos w]; exact ⟨gA_pass hH hA, (gO_pass hH hO w).mono (by omega)⟩
    · rw [if_neg w]; exact ⟨hA, hO.mono (by omega)⟩
  · rw [if_neg e]
    have := gDo_ok hH hA hO (show k ≤ 3 by omega) (b3 (by omega))
    exact ⟨this.1, this.2.1⟩
theorem c_bstep {h a : zN} {z : Nat → Int32} {M : zMem} {k x : Nat} (hr : gRC h M) (hc : M.1 19 = eC a z) (hH : gH h) (hA : gA h a) (hB : gBK h k x) (hm : a 0 ≤ 1000) : mf_X0_liveLine gR 18 (nI (6 + k)) (nI x) M = some (nI (gBw h a k x), zrowI M 19 (eC (gBn h a k x) z)) := by
  have hx := gBK_x hH hB
  obtain ⟨b1, b2, b3⟩ := hB
  have w3 := gWhy_le (h := h) (a := a) (k := k) (x := x)
  have key : ∀ (r : Option (Int32 × zMem)) (n10 : Nat), k < 4 → n10 = 10 * k → r = (if gWhy h a k x = 0 then some (nI 0, zrowI M 19 (eC (gLive h a k x) z)) else some (nI (gWhy h a k x), M)) → (zcl r fun r6 M5 => zcl (mf_X0_moreThan gR (nI n10) r6 M5) fun r8 M7 => some (r8, M7)) = some (nI (gBw h a k x), zrowI M 19 (eC (gBn h a k x) z)) := by
    intro r n10 h4 h10 hr1
    subst h10
    unfold gBw gBn gDo mf_X0_moreThan
    simp only [zl_lit]
    rw [if_neg (show ¬ k = 4 by omega), if_neg (show ¬ k = 4 by omega), hr1]
    by_cases w : gWhy h a k x = 0
    · rw [if_pos w, if_pos w, if_pos w, zcl_ok, if_pos rfl, zcl_ok]
    · rw [if_neg w, if_neg w, if_neg w, zcl_ok, if_neg (by rw [nI_eq (by omega) (by omega)]; exact w), zcl_ok, nI_add, grI_id hc]
  have key0 : ∀ (r : Option (Int32 × zMem)), k = 0 → r = (if gWhy h a k x = 0 then some (nI 0, zrowI M 19 (eC (gLive h a k x) z)) else some (nI (gWhy h a k x), M)) → (zcl r fun r6 M5 => some (r6, M5)) = some (nI (gBw h a k x), zrowI M 19 (eC (gBn h a k x) z)) := by
    intro r h4 hr1
    unfold gBw gBn gDo
    rw [if_neg (show ¬ k = 4 by omega), if_neg (show ¬ k = 4 by omega), hr1]
    by_cases w : gWhy h a k x = 0
    · rw [if_pos w, if_pos w, if_pos w, zcl_ok]
    · rw [if_neg w, if_neg w, if_neg w, zcl_ok, grI_id hc, show 10 * k + gWhy h a k x = gWhy h a k x by omega]
  have ne : ∀ p q : Nat, p < 100 → q < 100 → p ≠ q → ¬ nI p = nI q := fun p q x y z => by rw [nI_eq (by omega) (by omega)]; exact z
  unfold mf_X0_liveLine
  simp only [zl_lit]
  have hk5 : k = 0 ∨ k = 1 ∨ k = 2 ∨ k = 3 ∨ k = 4 := by omega
  rcases hk5 with e | e | e | e | e
  · have hv : x < h 2 := by have := b3 (by omega); unfold gVal at this; rw [if_neg (by omega)] at this; exact this
    rw [if_pos (show nI (6 + k) = nI 6 from congrArg nI (by omega))]
    refine key0 _ e ?_
    rw [c_start gLab_t hr hc hH hA hv, e]
    try rfl
  · have hv : x < h 2 := by have := b3 (by omega); unfold gVal at this; rw [if_neg (by omega)] at this; exact this
    rw [if_neg (ne (6 + k) 6 (by omega) (by omega) (by omega)), if_pos (show nI (6 + k) = nI 7 from congrArg nI (by omega))]
    refine key _ 10 (by omega) (by omega) ?_
    rw [c_take gLab_t hr hc hH hA hv, e]
    unfold gWhy gLive
    by_cases e : a (8 + x) = 1 <;> simp [e]
  · have hv : x < h 2 := by have := b3 (by omega); unfold gVal at this; rw [if_neg (by omega)] at this; exact this
    rw [if_neg (ne (6 + k) 6 (by omega) (by omega) (by omega)), if_neg (ne (6 + k) 7 (by omega) (by omega) (by omega)), if_pos (show nI (6 + k) = nI 8 from congrArg nI (by omega))]
    refine key _ 20 (by omega) (by omega) ?_
    rw [c_again gLab_t hr hc hH hA hv, e]
    unfold gWhy gLive
    by_cases e : a (8 + x) = 3 <;> simp [e]
  · have hv : x < h 0 := by have := b3 (by omega); unfold gVal at this; rw [if_pos (by omega)] at this; exact this
    rw [if_neg (ne (6 + k) 6 (by omega) (by omega) (by omega)), if_neg (ne (6 + k) 7 (by omega) (by omega) (by omega)), if_neg (ne (6 + k) 8 (by omega) (by omega) (by omega)), if_pos (show nI (6 + k) = nI 9 from congrArg nI (by omega))]
    refine key _ 30 (by omega) (by omega) ?_
    rw [c_renew gLab_t hr hc hH hA hv, e]
    try rfl
  · rw [if_neg (ne (6 + k) 6 (by omega) (by omega) (by omega)), if_neg (ne (6 + k) 7 (by omega) (by omega) (by omega)), if_neg (ne (6 + k) 8 (by omega) (by omega) (by omega)), if_neg (ne (6 + k) 9 (by omega) (by omega) (by omega))]
    have emin : mf_X3_minute gR 18 M = some (nI (a 0), M) := by
      unfold mf_X3_minute
      rw [gLab_t.2.1, hc]
      simp (disch := omega) only [zlet_ok, zcl_ok, zl_lit, zl_m1, nI_add, zald_nI, nI_ltE, nI_leE, nI_eqE, zm1_lt', zm1_le', zm1_nlt', zm1_nle', zm1_ne, zm1_ne', zm1_add1, gwI, grI_rI, zrI_s, zrI_n, zrI_L, gwL, grL_rL, zrL_s, zrL_n, zrL_I, Nat.zero_add, ↓reduceIte, if_true, if_false, gB_0, gB_1, gB_01, zchk_t, gB_1e, eq_self, gcle, gcnle, gclt, gcnlt, gcne, not_true_eq_false, not_false_eq_true, true_or, or_true, false_or, or_false, true_and, and_true, false_and, and_false, eC, eC_min]
    have p1 := c_passes (n := x) (z := z) gLab_t hr hH hA (by omega)
    rw [grI_id hc] at p1
    unfold gBw gBn
    rw [emin, zcl_ok, nI_add, if_pos e, if_pos e]
    by_cases w : a 0 + x ≤ 1000
    · rw [if_pos (by rw [nI_leI (by omega) (by omega)]; exact w), if_pos w, if_pos w, p1, zcl_ok]
    · rw [if_neg (by rw [nI_leI (by omega) (by omega)]; exact w), if_neg w, if_neg w, grI_id hc]
theorem m_goBy {h a : zN} {t : Nat → Int32} {M : zMem} {k x i : Nat} (hH : gH h) (hA : gA h a) (hB : gBK h k x) (hm : a 0 ≤ 1000) (hi : i < 40) (e1 : M.1 111 (2 * i) = nI k) (e2 : M.1 111 (2 * i + 1) = nI x) : mf_X12_goBy gR 89 (nI (2 * i)) (zrowI M 91 (encM h a t)) = some (nI (gBw h a k x), zrowI M 91 (encM h (gBn h a k x) t)) := by
  have hx := gBK_x hH hB
  obtain ⟨b1, b2, b3⟩ := hB
  have w3 := gWhy_le (h := h) (a := a) (k := k) (x := x)
  unfold mf_X12_goBy
  simp only [zl_lit, zlet_ok, r89_43, r89_14, nI_add]
  rw [zald_nI (by omega) (by omega), zrI_n (by decide), e1, zald_nI (by omega) (by omega), e2]
  by_cases e : k = 4
  · subst e
    rw [if_pos rfl, zald_nI (by omega) (by omega), zrI_s, eM_min, nI_add]
    unfold gBw gBn
    rw [if_pos rfl, if_pos rfl]
    by_cases w : a 0 + x ≤ 1000
    · have eg : gMn x (a 0) = x := by unfold gMn; rw [if_neg (by omega)]
      rw [if_pos (by rw [nI_leI (by omega) (by omega)]; exact w), if_pos w, if_pos w]
      unfold mf_X12_passMinutes
      simp only [zl_lit]
      rw [zald_nI (by omega) (by omega), r89_14, zrI_s, eM_min, m_least (by omega) hm, eg, zcl_ok, m_goOn (n := x) hH hA (by omega), zcl_ok, zcl_ok]
    · rw [if_neg (by rw [nI_leI (by omega) (by omega)]; exact w), if_neg w, if_neg w]
  · rw [if_neg (by rw [nI_eq (by omega) (by omega)]; exact e), m_why hH hA (by omega) (b3 (by omega)), zcl_ok]
    unfold gBw gBn gDo
    rw [if_neg e, if_neg e]
    by_cases w : gWhy h a k x = 0
    · rw [w, if_pos rfl, if_pos rfl, if_pos rfl, m_live hH hA (by omega) (b3 (by omega)) w, zcl_ok]
    · rw [if_neg (by rw [nI_eq (by omega) (by omega)]; exact w), if_neg w, if_neg w, nI_mulE, nI_add]
theorem cm_blive {h K X : zN} {n : Nat} (hH : gH h) (hn : n ≤ 40) (V : ∀ i, i < n → gBK h (K i) (X i)) : ∀ (m i c fu : Nat) (a : zN) (z : Nat → Int32) (Mc : zMem), i + m = n → m < fu → gRC h Mc → Mc.1 19 = eC a z → gBC n K X Mc → Mc.1 30 5 = nI i → Mc.1 30 4 = nI 0 → gA h a → gO c a → ∃ (i' w : Nat) (a' : zN) (z' : Nat → Int32) (Mc' : zMem), i' ≤ n ∧ w ≤ 41 ∧ mf_X0_live_l10 gR 30 18 fu Mc = mf_X0_live_b79 gR 30 18 Mc' ∧ Mc'.1 19 = eC a' z' ∧ Mc'.1 30 4 = nI w ∧ Mc'.1 30 5 = nI i' ∧ gA h a' ∧ gO (c + m) a' ∧ gF [19, 30] [] Mc Mc' ∧ ∀ (Mr : zMem) (t : Nat → Int32) (l : Int32) (fv : Nat), m < fv → gBM n K X Mr → Mr.1 89 45 = nI n → mf_X12_book_l78 gR 89 fv l (nI i) (nI 0) (zrowI Mr 91 (encM h a t)) = mf_X12_book_b108 gR 89 l (nI i') (nI w) (zrowI Mr 91 (encM h a' t)) := by
  intro m
  induction m with
  | zero =>
    intro i c fu a z Mc hi hf hr hc B h5 h4 hA hO
    have e : i = n := by omega
    subst e
    refine ⟨i, 0, a, z, Mc, Nat.le_refl _, by omega, ?_, hc, h4, h5, hA, hO, gF.r, fun Mr t l fv hfv C h45 => ?_⟩
    · match fu, hf with
      | fu + 1, _ =>
        rw [mf_X0_live_l10, B.1, h5, if_pos (by rw [nI_leI (by omega) (by omega)]; omega)]
    · match fv, hfv with
      | fv + 1, _ =>
        have e45 : (zrowI Mr 91 (encM h a t)).1 89 45 = nI i := by rw [zrI_n (by decide)]; exact h45
        rw [mf_X12_book_l78, e45, if_pos (by rw [nI_leI (by omega) (by omega)]; omega)]
  | succ m ih =>
    intro i c fu a z Mc hi hf hr hc B h5 h4 hA hO
    have hlt : i < n := by omega
    have hBi := V i hlt
    have o1 := hO.1
    have st := c_bstep hr hc hH hA hBi o1
    have wl := gBw_le (h := h) (a := a) (x := X i) hBi.1
    obtain ⟨oA, oO⟩ := gBn_ok hH hA hO hBi
    have f1 : gF [19, 30] [] Mc (zwI (zrowI Mc 19 (eC (gBn h a (K i) (X i)) z)) 30 4 (nI (gBw h a (K i) (X i)))) := gF.wI (gF.rI gF.r (by decide) (by decide)) (by decide) (by decide)
    have h5' : (zwI (zrowI Mc 19 (eC (gBn h a (K i) (X i)) z)) 30 4 (nI (gBw h a (K i) (X i)))).1 30 5 = nI i := by rw [zwI_s, upd_n (by decide), zrI_n (by decide)]; exact h5
    have h4' : (zwI (zrowI Mc 19 (eC (gBn h a (K i) (X i)) z)) 30 4 (nI (gBw h a (K i) (X i)))).1 30 4 = nI (gBw h a (K i) (X i)) := by rw [zwI_s, upd_s]
    have h19' : (zwI (zrowI Mc 19 (eC (gBn h a (K i) (X i)) z)) 30 4 (nI (gBw h a (K i) (X i)))).1 19 = eC (gBn h a (K i) (X i)) z := by rw [zwI_n (by decide), zrI_s]
    have go : ∀ (Mr : zMem) (t : Nat → Int32) (l : Int32) (fv : Nat), gBM n K X Mr → Mr.1 89 45 = nI n → mf_X12_book_l78 gR 89 (fv + 1) l (nI i) (nI 0) (zrowI Mr 91 (encM h a t)) = if gBw h a (K i) (X i) = 0 then mf_X12_book_l78 gR 89 fv l (nI (i + 1)) (nI 0) (zrowI Mr 91 (encM h (gBn h a (K i) (X i)) t)) else mf_X12_book_l78 gR 89 fv l (nI i) (nI (gBw h a (K i) (X i))) (zrowI Mr 91 (encM h (gBn h a (K i) (X i)) t)) := by
      intro Mr t l fv C h45
      have e45 : (zrowI Mr 91 (encM h a t)).1 89 45 = nI n := by rw [zrI_n (by decide)]; exact h45
      rw [mf_X12_book_l78, e45]
      simp only [zl_lit]
      rw [if_neg (by rw [nI_leI (by omega) (by omega)]; omega), if_pos trivial, nI_mulE, m_goBy hH hA hBi o1 (by omega) (C i hlt).1 (C i hlt).2, zcl_ok]
      by_cases w : gBw h a (K i) (X i) = 0
      · rw [w, if_pos rfl, if_pos rfl, nI_add]
      · rw [if_neg (by rw [nI_eq (by omega) (by omega)]; exact w), if_neg w]
    match fu, hf with
    | fu + 1, hf =>
      have ec : mf_X0_live_l10 gR 30 18 (fu + 1) Mc = if gBw h a (K i) (X i) = 0 then mf_X0_live_l10 gR 30 18 fu (zwI (zwI (zrowI Mc 19 (eC (gBn h a (K i) (X i)) z)) 30 4 (nI (gBw h a (K i) (X i)))) 30 5 (nI (i + 1))) else mf_X0_live_b79 gR 30 18 (zwI (zrowI Mc 19 (eC (gBn h a (K i) (X i)) z)) 30 4 (nI (gBw h a (K i) (X i)))) := by
        rw [mf_X0_live_l10]
        simp only [zl_lit, r30_0, r30_1, zlet_ok]
        rw [B.1, h5, if_neg (by rw [nI_leI (by omega) (by omega)]; omega), if_neg (by rw [nI_leI (by omega) (by omega)]; omega), zald_nI (by omega) (by omega), zald_nI (by omega) (by omega), (B.2 i hlt).1, (B.2 i hlt).2, st, zcl_ok, h4', h5', nI_add]
        by_cases w : gBw h a (K i) (X i) = 0
        · rw [if_pos (show nI (gBw h a (K i) (X i)) = nI 0 by rw [w]), if_pos w]
        · rw [if_neg (by rw [nI_eq (by omega) (by omega)]; exact w), if_neg w]
      have h2' : (zwI (zrowI Mc 19 (eC (gBn h a (K i) (X i)) z)) 30 4 (nI (gBw h a (K i) (X i)))).1 30 2 = nI n := by rw [zwI_s, upd_n (by decide), zrI_n (by decide)]; exact B.1
      generalize (zwI (zrowI Mc 19 (eC (gBn h a (K i) (X i)) z)) 30 4 (nI (gBw h a (K i) (X i)))) = Mn at *
      by_cases w : gBw h a (K i) (X i) = 0
      · rw [if_pos w] at ec
        have f2 : gF [30] [] Mn (zwI Mn 30 5 (nI (i + 1))) := gF.wI gF.r (by decide) (by decide)
        obtain ⟨i', w', a', z', Mc', u1, u2, u3, u4, u5, u6, u7, u8, u9, u10⟩ := ih (i + 1) (c + 1) fu (gBn h a (K i) (X i)) z (zwI Mn 30 5 (nI (i + 1))) (by omega) (by omega) (gRC.fr f2 (by decide) (gRC.fr f1 (by decide) hr)) (by rw [f2.1 19 (by decide) (by decide)]; exact h19') ⟨by rw [zwI_s, upd_n (by decide)]; exact h2', fun j hj => by rw [f2.1 31 (by decide) (by decide), f2.1 32 (by decide) (by decide), f1.1 31 (by decide) (by decide), f1.1 32 (by decide) (by decide)]; exact B.2 j hj⟩ (by rw [zwI_s, upd_s]) (by rw [zwI_s, upd_n (by decide), h4', w]) oA oO
        refine ⟨i', w', a', z', Mc', u1, u2, by rw [ec]; exact u3, u4, u5, u6, u7, by rw [show c + (m + 1) = c + 1 + m by omega]; exact u8, f1.trans ((f2.mono (by decide) (by decide)).trans u9), fun Mr t l fv hfv C h45 => ?_⟩
        match fv, hfv with
        | fv + 1, hfv =>
          rw [go Mr t l fv C h45, if_pos w]
          exact u10 Mr t l fv (by omega) C h45
      · rw [if_neg w] at ec
        refine ⟨i, _, _, z, Mn, by omega, wl, ec, h19', h4', h5', oA, oO.mono (by omega), f1, fun Mr t l fv hfv C h45 => ?_⟩
        match fv, hfv with
        | fv + 1, hfv =>
          rw [go Mr t l fv C h45, if_neg w]
          obtain ⟨fw, rfl⟩ : ∃ fw, fv = fw + 1 := ⟨fv - 1, by omega⟩
          have e45 : ∀ E, (zrowI Mr 91 E).1 89 45 = nI n := fun E => by rw [zrI_n (by decide)]; exact h45
          rw [mf_X12_book_l78, e45]
          simp only [zl_lit]
          rw [if_neg (by rw [nI_leI (by omega) (by omega)]; omega), if_neg (by rw [nI_eq (by omega) (by omega)]; exact w)]
theorem gw_912 {M : zMem} {E : Nat → Int32} {k : Nat} {v : Int32} : zwI (zrowI M 91 E) 112 k v = zrowI (zwI M 112 k v) 91 E := by
  unfold zwI
  rw [zrI_n (by decide)]
  exact grI_comm (by decide)
abbrev gItb : List Nat := [1, 17, 19, 30, 33, 35, 36, 37, 38, 39, 40, 41, 42, 43]
/-- the class, once the LINES are read -/
def gBtail (l : Int32) (M : zMem) : Option (Int32 × zMem) := zlet (zwI M 1 1 (nI 0)) fun M5 => zcl (mf_X3_copyFrom gR 18 16 M5) fun _ M7 => zcl (mf_X0_live gR 30 18 M7) fun _ M9 => if l = nI 1 then (if M9.1 30 5 ≤ nI 0 then mf_X11_book_b118 gR 0 M9 else zcl (mf_X5_mark gR 33 16 M9) fun _ M13 => zcl (mf_X5_keepMarked gR 33 M13) fun _ M15 => zcl (mf_X3_copyFrom gR 16 18 M15) fun _ M17 => mf_X11_book_b118 gR 0 M17) else mf_X11_book_b118 gR 0 M9
theorem m_stay {h a a1 : zN} {t : Nat → Int32} {M : zMem} {sn : Nat → zN} {nn : Nat} {s : Nat} (hs : s ≤ 1) (P : gPM sn nn M) (hn : nn ≤ 8) (hv : ∀ k, k < 56 → M.1 97 (0 + k) = encM h a t (56 + k)) : ∃ M2, mf_X12_stay gR 89 (nI s) (zrowI M 91 (encM h a1 t)) = some ((), zrowI M2 91 (encM h (if s = 0 then a else a1) t)) ∧ gF [94, 95] [26] M M2 ∧ gPM (if s = 0 then sn else gPush a sn) (if s = 0 then nn else gN8 nn) M2 := by
  have f1 : gF [95] [] M (zrowI M 95 (gsv (encM h a1 t) (M.1 95) 0 56)) := gF.rI gF.r (by decide) (by decide)
  have hv1 : ∀ k, k < 56 → (zrowI M 95 (gsv (encM h a1 t) (M.1 95) 0 56)).1 97 (0 + k) = encM h a t (56 + k) := fun k hk => by rw [zrI_n (by decide)]; exact hv k hk
  have hw1 : ∀ k, k < 56 → (zrowI M 95 (gsv (encM h a1 t) (M.1 95) 0 56)).1 95 (0 + k) = encM h a1 t (56 + k) := fun k hk => by rw [zrI_s]; exact gsv_in hk
  have P1 : gPM sn nn (zrowI M 95 (gsv (encM h a1 t) (M.1 95) 0 56)) := gPM.fr f1 (by decide) (by decide) P
  unfold mf_X12_stay
  simp only [zl_lit, r89_18, r89_20]
  rw [m_save (by decide) (by decide) (by decide), zcl_ok]
  generalize (zrowI M 95 (gsv (encM h a1 t) (M.1 95) 0 56)) = Ma at *
  rw [m_backs (h := h) (a := a1) (t := t) (t' := t) (a0 := a) (A := 97) (n1 := 56) (off := 0) (by decide) (by decide) (by decide) hv1, zcl_ok]
  by_cases e : s = 0
  · subst e
    rw [if_pos rfl, if_pos rfl, if_pos rfl, if_pos rfl]
    exact ⟨Ma, rfl, f1.mono (by decide) (by decide), P1⟩
  · have es : s = 1 := by omega
    subst es
    rw [if_neg (by decide +kernel), if_neg (by decide), if_neg (by decide), if_neg (by decide)]
    obtain ⟨Mb, b1, b2, b3⟩ := m_snap (h := h) (a := a) (t := t) P1 hn
    have hw2 : ∀ k, k < 56 → Mb.1 95 (0 + k) = encM h a1 t (56 + k) := fun k hk => by rw [b2.1 95 (by decide) (by decide)]; exact hw1 k hk
    rw [b1, zcl_ok, m_backs (h := h) (a := a) (t := t) (t' := t) (a0 := a1) (A := 95) (n1 := 56) (off := 0) (by decide) (by decide) (by decide) hw2, zcl_ok]
    exact ⟨Mb, rfl, (f1.mono (by decide) (by decide)).trans (b2.mono (by decide) (by decide)), b3⟩
theorem m_b108 {h a a1 : zN} {t : Nat → Int32} {M : zMem} {sn : Nat → zN} {nn l i w : Nat} (hH : gH h) (hA1 : gA h a1) (hl : l ≤ 1) (hi : i ≤ 40) (hw : w ≤ 41) (P : gPM sn nn M) (hn : nn ≤ 8) (hv : ∀ k, k < 56 → M.1 97 (0 + k) = encM h a t (56 + k)) : ∃ M2, mf_X12_book_b108 gR 89 (nI l) (nI i) (nI w) (zrowI M 91 (encM h a1 t)) = some (if w = 0 then zm1 else nI i, M2) ∧ gF [91, 94, 95, 112] [26, 46] M M2 ∧ M2.1 91 = encM h (if l = 1 ∧ 0 < i then a1 else a) t ∧ gPM (if l = 1 ∧ 0 < i then gPush a sn else sn) (if l = 1 ∧ 0 < i then gN8 nn else nn) M2 ∧ M2.1 89 46 = nI 1 ∧ M2.1 112 0 = nI w ∧ M2.1 112 1 = nI i ∧ M2.1 112 2 = nI (a1 0) ∧ M2.1 112 3 = nI (gTh h a1 2) := by
  have fM : gF [112] [46] M (zwI (zwI (zwI (zwI (zwI M 112 0 (nI w)) 112 1 (nI i)) 112 2 (nI (a1 0))) 112 3 (nI (gTh h a1 2))) 89 46 (nI 1)) := gF.w9 (gF.wI (gF.wI (gF.wI (gF.wI gF.r (by decide) (by decide)) (by decide) (by decide)) (by decide) (by decide)) (by decide) (by decide)) (by decide)
  have v0 : (zwI (zwI (zwI (zwI (zwI M 112 0 (nI w)) 112 1 (nI i)) 112 2 (nI (a1 0))) 112 3 (nI (gTh h a1 2))) 89 46 (nI 1)).1 112 0 = nI w := by rw [zwI_n (by decide), zwI_s, upd_n (by decide), zwI_s, upd_n (by decide), zwI_s, upd_n (by decide), zwI_s, upd_s]
  have v1 : (zwI (zwI (zwI (zwI (zwI M 112 0 (nI w)) 112 1 (nI i)) 112 2 (nI (a1 0))) 112 3 (nI (gTh h a1 2))) 89 46 (nI 1)).1 112 1 = nI i := by rw [zwI_n (by decide), zwI_s, upd_n (by decide), zwI_s, upd_n (by decide), zwI_s, upd_s]
  have v2 : (zwI (zwI (zwI (zwI (zwI M 112 0 (nI w)) 112 1 (nI i)) 112 2 (nI (a1 0))) 112 3 (nI (gTh h a1 2))) 89 46 (nI 1)).1 112 2 = nI (a1 0) := by rw [zwI_n (by decide), zwI_s, upd_n (by decide), zwI_s, upd_s]
  have v3 : (zwI (zwI (zwI (zwI (zwI M 112 0 (nI w)) 112 1 (nI i)) 112 2 (nI (a1 0))) 112 3 (nI (gTh h a1 2))) 89 46 (nI 1)).1 112 3 = nI (gTh h a1 2) := by rw [zwI_n (by decide), zwI_s, upd_s]
  have v46 : (zwI (zwI (zwI (zwI (zwI M 112 0 (nI w)) 112 1 (nI i)) 112 2 (nI (a1 0))) 112 3 (nI (gTh h a1 2))) 89 46 (nI 1)).1 89 46 = nI 1 := by rw [zwI_s, upd_s]
  have P1 : gPM sn nn (zwI (zwI (zwI (zwI (zwI M 112 0 (nI w)) 112 1 (nI i)) 112 2 (nI (a1 0))) 112 3 (nI (gTh h a1 2))) 89 46 (nI 1)) := gPM.fr fM (by decide) (by decide) P
  have hv1 : ∀ k, k < 56 → (zwI (zwI (zwI (zwI (zwI M 112 0 (nI w)) 112 1 (nI i)) 112 2 (nI (a1 0))) 112 3 (nI (gTh h a1 2))) 89 46 (nI 1)).1 97 (0 + k) = encM h a t (56 + k) := fun k hk => by rw [fM.1 97 (by decide) (by decide)]; exact hv k hk
  unfold mf_X12_book_b108
  simp only [zl_lit, zlet_ok, r89_14, r89_44]
  rw [zald_nI (by omega) (by omega), gw_912, zald_nI (by omega) (by omega), gw_912, zald_nI (by omega) (by omega), zald_nI (by omega) (by omega), zrI_s, eM_min, gw_912, m_those hH hA1 (by omega), zcl_ok, zald_nI (by omega) (by omega), gw_912, gw_91]
  generalize (zwI (zwI (zwI (zwI (zwI M 112 0 (nI w)) 112 1 (nI i)) 112 2 (nI (a1 0))) 112 3 (nI (gTh h a1 2))) 89 46 (nI 1)) = Mb at *
  have fin : ∀ s, s ≤ 1 → (s = 0) = (¬ (l = 1 ∧ 0 < i)) → ∃ M2, mf_X12_book_b166 gR 89 (nI i) (nI w) (nI s) (zrowI Mb 91 (encM h a1 t)) = some (if w = 0 then zm1 else nI i, M2) ∧ gF [91, 94, 95, 112] [26, 46] M M2 ∧ M2.1 91 = encM h (if l = 1 ∧ 0 < i then a1 else a) t ∧ gPM (if l = 1 ∧ 0 < i then gPush a sn else sn) (if l = 1 ∧ 0 < i then gN8 nn else nn) M2 ∧ M2.1 89 46 = nI 1 ∧ M2.1 112 0 = nI w ∧ M2.1 112 1 = nI i ∧ M2.1 112 2 = nI (a1 0) ∧ M2.1 112 3 = nI (gTh h a1 2) := by
    intro s hs es
    obtain ⟨Mc, c1, c2, c3⟩ := m_stay (a1 := a1) hs P1 hn hv1
    have ea : (if s = 0 then a else a1) = if l = 1 ∧ 0 < i then a1 else a := by
      by_cases q : l = 1 ∧ 0 < i
      · rw [if_pos q, if_neg (by rw [es]; exact fun z => z q)]
      · rw [if_neg q, if_pos (by rw [es]; exact q)]
    have eb : (if s = 0 then sn else gPush a sn) = if l = 1 ∧ 0 < i then gPush a sn else sn := by
      by_cases q : l = 1 ∧ 0 < i
      · rw [if_pos q, if_neg (by rw [es]; exact fun z => z q)]
      · rw [if_neg q, if_pos (by rw [es]; exact q)]
    have ed : (if s = 0 then nn else gN8 nn) = if l = 1 ∧ 0 < i then gN8 nn else nn := by
      by_cases q : l = 1 ∧ 0 < i
      · rw [if_pos q, if_neg (by rw [es]; exact fun z => z q)]
      · rw [if_neg q, if_pos (by rw [es]; exact q)]
    rw [eb, ed] at c3
    rw [ea] at c1
    have fx : gF [94, 95, 91] [26] Mb (zrowI Mc 91 (encM h (if l = 1 ∧ 0 < i then a1 else a) t)) := gF.rI (c2.mono (by decide) (by decide)) (by decide) (by decide)
    refine ⟨_, ?_, (fM.mono (by decide) (by decide)).trans (fx.mono (by decide) (by decide)), zrI_s, ?_, ?_, ?_, ?_, ?_, ?_⟩
    · unfold mf_X12_book_b166
      simp only [zl_lit, zl_m1]
      rw [c1, zcl_ok]
      by_cases q : w = 0
      · rw [if_pos (show nI w = nI 0 by rw [q]), if_pos q]
      · rw [if_neg (by rw [nI_eq (by omega) (by omega)]; exact q), if_neg q]
    · exact gPM.fr (ids := [91]) (ks := []) (gF.rI gF.r (by decide) (by decide)) (by decide) (by decide) c3
    · rw [fx.2.2 46 (by decide)]; exact v46
    · rw [fx.1 112 (by decide) (by decide)]; exact v0
    · rw [fx.1 112 (by decide) (by decide)]; exact v1
    · rw [fx.1 112 (by decide) (by decide)]; exact v2
    · rw [fx.1 112 (by decide) (by decide)]; exact v3
  have e165 : ∀ M', mf_X12_book_b165 gR 89 (nI i) (nI w) M' = mf_X12_book_b166 gR 89 (nI i) (nI w) (nI 0) M' := fun M' => by
    unfold mf_X12_book_b165
    simp only [zl_lit]
  by_cases e1 : l = 1
  · subst e1
    rw [if_pos rfl]
    by_cases e2 : i = 0
    · rw [if_pos (by rw [nI_leI (by omega) (by omega)]; omega)]
      rw [e165]
      exact fin 0 (by omega) (by simp [e2])
    · rw [if_neg (by rw [nI_leI (by omega) (by omega)]; omega)]
      exact fin 1 (by omega) (by simp; omega)
  · rw [if_neg (by rw [nI_eq (by omega) (by omega)]; exact e1)]
    rw [e165]
    exact fin 0 (by omega) (by simp [e1])
