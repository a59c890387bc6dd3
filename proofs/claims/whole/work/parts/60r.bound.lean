/-! HOW LARGE NUMBERS GROW -/
def gO (c : Nat) (a : zN) : Prop := a 0 ≤ 1000 ∧ ∀ s, s < 8 → a (40 + s) ≤ 6 * a 0 ∧ a (48 + s) ≤ c
theorem gO.mono {c d : Nat} {a : zN} (h : gO c a) (hc : c ≤ d) : gO d a := ⟨h.1, fun s hs => ⟨(h.2 s hs).1, Nat.le_trans (h.2 s hs).2 hc⟩⟩
theorem gGo_hi {a : zN} {s how j : Nat} (hs : s < 8) (hj : j = 0 ∨ 40 ≤ j) : gGo a s how j = a j := gGo_n (by omega) (by omega) (by omega) (by omega)
theorem gEnt_hi {h a : zN} {s b j : Nat} (hs : s < 8) (hb : b < 6) (hj : j = 0 ∨ 40 ≤ j) : gEnt h a s b j = a j := gEnt_n (by omega) (by omega) (by omega) (by omega) (by omega)
theorem gO_live {h a : zN} {c k x : Nat} (hH : gH h) (hO : gO c a) (hk : k ≤ 3) (hv : gVal h k x) (hw : gWhy h a k x = 0) : gO (c + 1) (gLive h a k x) ∧ gLive h a k x 0 = a 0 := by
  obtain ⟨k0, k1, k2, k3, k4, k5, kh, kl, ka, kp⟩ := id hH
  obtain ⟨o1, o2⟩ := hO
  unfold gVal at hv
  unfold gLive
  by_cases e0 : k = 0
  · subst e0
    have hx : x < h 2 := hv
    have key : ∀ j, j = 0 ∨ 40 ≤ j → gSt h a x j = uN (uN a (40 + x) 0) (48 + x) (a (48 + x) + 1) j := fun j hj => by
      unfold gSt
      split
      · exact gGo_hi (by omega) hj
      · rename_i e
        have := gNx_lt (Nat.zero_le _) e
        exact gEnt_hi (by omega) (by omega) hj
    rw [if_pos rfl]
    refine ⟨⟨?_, fun s hs => ?_⟩, ?_⟩
    · rw [key 0 (by omega), uN_n (by omega), uN_n (by omega)]; exact o1
    · have := o2 s hs
      have := o2 x (by omega)
      rw [key (40 + s) (by omega), key (48 + s) (by omega), key 0 (by omega), uN_n (show 40 + s ≠ 48 + x by omega), uN_n (show 0 ≠ 48 + x by omega), uN_n (show 0 ≠ 40 + x by omega)]
      by_cases e : s = x
      · subst e
        rw [uN_s, uN_s]; omega
      · rw [uN_n (by omega), uN_n (by omega), uN_n (by omega)]; omega
    · rw [key 0 (by omega), uN_n (by omega), uN_n (by omega)]
  · rw [if_neg e0]
    by_cases e1 : k = 1
    · subst e1
      have hx : x < h 2 := hv
      rw [if_pos rfl]
      refine ⟨⟨?_, fun s hs => ?_⟩, ?_⟩
      · rw [gGo_hi (by omega) (by omega)]; exact o1
      · have := o2 s hs
        rw [gGo_hi (by omega) (by omega), gGo_hi (by omega) (by omega), gGo_hi (by omega) (by omega)]; omega
      · exact gGo_hi (by omega) (by omega)
    · rw [if_neg e1]
      by_cases e2 : k = 2
      · subst e2
        have hx : x < h 2 := hv
        rw [if_pos rfl]
        refine ⟨⟨?_, fun s hs => ?_⟩, ?_⟩
        · rw [gGo_hi (by omega) (by omega)]; exact o1
        · have := o2 s hs
          rw [gGo_hi (by omega) (by omega), gGo_hi (by omega) (by omega), gGo_hi (by omega) (by omega)]; omega
        · exact gGo_hi (by omega) (by omega)
      · rw [if_neg e2]
        rw [if_pos (show k = 3 by omega)] at hv
        unfold gRen
        refine ⟨⟨?_, fun s hs => ?_⟩, ?_⟩
        · rw [uN_n (by omega), uN_n (by omega)]; exact o1
        · have := o2 s hs
          rw [uN_n (by omega), uN_n (by omega), uN_n (by omega), uN_n (by omega), uN_n (by omega), uN_n (by omega)]; omega
        · rw [uN_n (by omega), uN_n (by omega)]
theorem gWk1_hi {h a : zN} {s b k : Nat} (hs : s < 8) (hb : b < h 0) (h6 : h 0 ≤ 6) (hk : k < 8) : gWk1 h a s b (48 + k) = a (48 + k) ∧ gWk1 h a s b (40 + k) ≤ a (40 + k) + (if k = s then 1 else 0) := by
  unfold gWk1
  split
  · split
    · rw [gGo_hi hs (by omega), gGo_hi hs (by omega)]
      exact ⟨rfl, by split <;> omega⟩
    · rename_i e
      have hn := gNx_lt (h := h) (s := s) (k := b + 1) (by omega) e
      split
      · split
        · rw [gGo_hi hs (by omega), gGo_hi hs (by omega)]
          exact ⟨rfl, by split <;> omega⟩
        · rw [uN_n (by omega), uN_n (by omega)]
          refine ⟨rfl, ?_⟩
          by_cases q : k = s
          · subst q
            rw [uN_s, if_pos rfl]; omega
          · rw [uN_n (by omega), uN_n (by omega)]; omega
      · rw [gEnt_hi hs (by omega) (by omega), gEnt_hi hs (by omega) (by omega)]
        exact ⟨rfl, by split <;> omega⟩
  · exact ⟨rfl, by split <;> omega⟩
theorem gMs_hi {h a : zN} {s b k : Nat} (hs : s < 8) (hb : b < h 0) (h6 : h 0 ≤ 6) (hk : k < 8) : gMs h b s a (48 + k) = a (48 + k) ∧ gMs h b s a (40 + k) ≤ a (40 + k) + (if k = s then 1 else 0) := by
  unfold gMs
  split
  · unfold gWk
    split
    · exact gWk1_hi hs hb h6 hk
    · have := gWk1_hi (h := h) (a := uN a (24 + s) (a (24 + s) - 1)) hs hb h6 hk
      rw [uN_n (by omega), uN_n (by omega)] at this
      exact this
  · exact ⟨rfl, by split <;> omega⟩
theorem gMb_hi {h a : zN} {b k : Nat} (hb : b < h 0) (h6 : h 0 ≤ 6) (hk : k < 8) : ∀ {n : Nat}, n ≤ 8 → gFo (gMs h b) n a (48 + k) = a (48 + k) ∧ gFo (gMs h b) n a (40 + k) ≤ a (40 + k) + (if k < n then 1 else 0)
  | 0, _ => ⟨rfl, by show a (40 + k) ≤ _; omega⟩
  | n + 1, hn => by
    obtain ⟨i1, i2⟩ := gMb_hi (a := a) hb h6 hk (n := n) (by omega)
    have g := gMs_hi (h := h) (a := gFo (gMs h b) n a) (s := n) (by omega) hb h6 hk
    show gMs h b n (gFo (gMs h b) n a) (48 + k) = _ ∧ gMs h b n (gFo (gMs h b) n a) (40 + k) ≤ _
    refine ⟨g.1.trans i1, ?_⟩
    have g2 := g.2
    by_cases q1 : k < n
    · rw [if_pos q1] at i2
      rw [if_neg (by omega)] at g2
      rw [if_pos (by omega)]; omega
    · rw [if_neg q1] at i2
      by_cases q2 : k = n
      · rw [if_pos q2] at g2
        rw [if_pos (by omega)]; omega
      · rw [if_neg q2] at g2
        rw [if_neg (by omega)]; omega
theorem gFd_hi {h : zN} {k : Nat} (h6 : h 0 ≤ 6) (h8 : h 2 ≤ 8) (hk : k < 8) : ∀ {n : Nat} {a : zN}, n ≤ h 0 → gFd (gMb h) n a (48 + k) = a (48 + k) ∧ gFd (gMb h) n a (40 + k) ≤ a (40 + k) + n
  | 0, a, _ => ⟨rfl, Nat.le_refl _⟩
  | n + 1, a, hn => by
    obtain ⟨g1, g2⟩ := gMb_hi (h := h) (a := a) (b := n) (k := k) (by omega) h6 hk h8
    obtain ⟨i1, i2⟩ := gFd_hi h6 h8 hk (n := n) (a := gMb h n a) (by omega)
    refine ⟨i1.trans g1, ?_⟩
    show gFd (gMb h) n (gMb h n a) (40 + k) ≤ _
    have g3 : gMb h n a (40 + k) ≤ a (40 + k) + 1 := by
      refine Nat.le_trans g2 ?_
      split <;> omega
    omega
theorem gPass_m {h : zN} {n : Nat} {a : zN} : gPass h n a 0 = a 0 + n := by
  have := gPass_0 (h := h) (n := n) (v := a 0) (a := a)
  rw [uN_id] at this
  rw [this, uN_s]
theorem gMin_m {h a : zN} : gMin h a 0 = a 0 + 1 := gPass_m (n := 1)
theorem gMin_hi {h a : zN} {k : Nat} (hH : gH h) (hk : k < 8) : gMin h a (48 + k) = a (48 + k) ∧ gMin h a (40 + k) ≤ a (40 + k) + 6 := by
  obtain ⟨k0, k1, k2, k3, k4, k5, kh, kl, ka, kp⟩ := id hH
  obtain ⟨g1, g2⟩ := gFd_hi (a := a) k0 k2 hk (Nat.le_refl _)
  unfold gMin
  rw [uN_n (by omega), uN_n (by omega)]
  exact ⟨g1, by omega⟩
theorem gO_min {h a : zN} {c : Nat} (hH : gH h) (hO : gO c a) (hm : a 0 < 1000) : gO c (gMin h a) := by
  refine ⟨by rw [gMin_m]; omega, fun s hs => ?_⟩
  have := gMin_hi (a := a) hH hs
  have := hO.2 s hs
  rw [gMin_m]
  omega
theorem gO_pass {h : zN} {c : Nat} (hH : gH h) : ∀ {n : Nat} {a : zN}, gO c a → a 0 + n ≤ 1000 → gO c (gPass h n a)
  | 0, _, hO, _ => hO
  | n + 1, a, hO, hm => gO_pass hH (n := n) (gO_min hH hO (by omega)) (by rw [gMin_m]; omega)
/-! draws -/
def gSd (x : Int32) : Int32 := x * nI 1103515245 + nI 12345
def gD24 (x : Int32) : Nat := x.toUInt32.toNat / 2 ^ 8
theorem gD24_lt (x : Int32) : gD24 x < 2 ^ 24 := by
  unfold gD24
  have : x.toUInt32.toNat < 2 ^ 32 := x.toUInt32.toNat_lt
  omega
theorem gD24_e (x : Int32) : (x.toUInt32 >>> ((nI 8).toUInt32 &&& Int32.toUInt32 (nI 31))).toInt32 = nI (gD24 x) := by
  have e : x = nI x.toUInt32.toNat := by
    apply Int32.toBitVec_inj.mp
    unfold nI
    show x.toBitVec = BitVec.ofNat 32 x.toBitVec.toNat
    rw [BitVec.ofNat_toNat, BitVec.setWidth_eq]
  have h1 : x.toUInt32.toNat < 2 ^ 32 := x.toUInt32.toNat_lt
  have h2 := pk_ushrN h1 (nI 8) 8 (by decide +kernel)
  rw [← e] at h2
  exact h2
theorem gw_59 {M : zMem} {E : Nat → Int32} {c : Nat} {v : Int32} (hc : c ≠ 59) : zwI (zrowI M c E) 59 0 v = zrowI (zwI M 59 0 v) c E := by
  rw [gwI, gwI, zrI_n (fun e => hc e.symm), grI_comm (fun e => hc e)]
theorem gw59_9 {M : zMem} {v w : Int32} : zwI (zwI M 59 0 v) 59 0 w = zwI M 59 0 w := by
  rw [gwI, gwI, gwI, grI_rI, zrI_s]
  congr 1
  funext j
  unfold upd
  split <;> rfl
theorem c_draw {M : zMem} {E : Nat → Int32} {c n : Nat} {x : Int32} (hc : c ≠ 59) (hn : 0 < n) (hn2 : n < 100) : mf_X1_draw gR 59 (nI n) (zrowI (zwI M 59 0 x) c E) = some (nI (gD24 (gSd x) % n), zrowI (zwI M 59 0 (gSd x)) c E) := by
  have l := gD24_lt (gSd x)
  have e1 : (zrowI (zwI M 59 0 x) c E).1 59 0 = x := by rw [zrI_n (fun e => hc e.symm), zwI_s, upd_s]
  have e2 : (zrowI (zwI M 59 0 (gSd x)) c E).1 59 0 = gSd x := by rw [zrI_n (fun e => hc e.symm), zwI_s, upd_s]
  unfold mf_X1_draw
  simp only [zlet_ok, zl_lit]
  rw [e1, gw_59 hc, gw59_9, show x * nI 1103515245 + nI 12345 = gSd x from rfl, if_pos (by rw [nI_leI (by omega) (by omega)]; omega), zchk_ok (by rw [nI_eq (by omega) (by omega)]; omega), e2, gD24_e, pk_rem (by omega) hn (by omega)]
theorem m_draw {M : zMem} {E : Nat → Int32} {n : Nat} {x : Int32} (hn : 0 < n) (hn2 : n < 100) : mf_X12_draw gR 89 (nI n) (zrowI (zwI M 89 42 x) 91 E) = some (nI (gD24 (gSd x) % n), zrowI (zwI M 89 42 (gSd x)) 91 E) := by
  have l := gD24_lt (gSd x)
  have e1 : (zrowI (zwI M 89 42 x) 91 E).1 89 42 = x := by rw [zrI_n (by decide), zwI_s, upd_s]
  have e2 : (zrowI (zwI M 89 42 (gSd x)) 91 E).1 89 42 = gSd x := by rw [zrI_n (by decide), zwI_s, upd_s]
  unfold mf_X12_draw
  simp only [zlet_ok, zl_lit]
  rw [e1, gw_91, gw9_9, show x * nI 1103515245 + nI 12345 = gSd x from rfl, zchk_ok (by rw [nI_eq (by omega) (by omega)]; omega), e2, gD24_e, pk_rem (by omega) hn (by omega)]
def gDo (h a : zN) (k x : Nat) : zN := if gWhy h a k x = 0 then gLive h a k x else a
theorem gDo_ok {h a : zN} {c k x : Nat} (hH : gH h) (hA : gA h a) (hO : gO c a) (hk : k ≤ 3) (hv : gVal h k x) : gA h (gDo h a k x) ∧ gO (c + 1) (gDo h a k x) ∧ gDo h a k x 0 = a 0 := by
  unfold gDo
  split
  · rename_i hw
    exact ⟨gA_live hH hA hv hk hw, gO_live hH hO hk hv hw⟩
  · exact ⟨hA, hO.mono (by omega), rfl⟩
theorem m_doIf {h a : zN} {t : Nat → Int32} {M : zMem} {k x : Nat} (hH : gH h) (hA : gA h a) (hk : k ≤ 3) (hv : gVal h k x) : mf_X12_doIf gR 89 (nI k) (nI x) (zrowI M 91 (encM h a t)) = some ((), zrowI M 91 (encM h (gDo h a k x) t)) := by
  have lw := gWhy_le (h := h) (a := a) (k := k) (x := x)
  unfold mf_X12_doIf gDo
  by_cases hw : gWhy h a k x = 0
  · simp (disch := omega) only [zlet_ok, zcl_ok, zl_lit, zl_m1, nI_add, zald_nI, nI_ltE, nI_leE, nI_eqE, zm1_lt', zm1_le', zm1_nlt', zm1_nle', zm1_ne, zm1_ne', zm1_add1, gwI, grI_rI, zrI_s, zrI_n, zrI_L, gwL, grL_rL, zrL_s, zrL_n, zrL_I, Nat.zero_add, ↓reduceIte, if_true, if_false, gB_0, gB_1, gB_01, zchk_t, gB_1e, eq_self, gcle, gcnle, gclt, gcnlt, gcne, not_true_eq_false, not_false_eq_true, true_or, or_true, false_or, or_false, true_and, and_true, false_and, and_false, m_why hH hA hk hv, hw, m_live hH hA hk hv hw]
  · simp (disch := omega) only [zlet_ok, zcl_ok, zl_lit, zl_m1, nI_add, zald_nI, nI_ltE, nI_leE, nI_eqE, zm1_lt', zm1_le', zm1_nlt', zm1_nle', zm1_ne, zm1_ne', zm1_add1, gwI, grI_rI, zrI_s, zrI_n, zrI_L, gwL, grL_rL, zrL_s, zrL_n, zrL_I, Nat.zero_add, ↓reduceIte, if_true, if_false, gB_0, gB_1, gB_01, zchk_t, gB_1e, eq_self, gcle, gcnle, gclt, gcnlt, gcne, not_true_eq_false, not_false_eq_true, true_or, or_true, false_or, or_false, true_and, and_true, false_and, and_false, m_why hH hA hk hv, hw]
theorem gDo_1 {h a : zN} {x : Nat} : gDo h a 1 x = if a (8 + x) = 1 then gGo a x 3 else a := by
  unfold gDo gWhy gLive
  by_cases e : a (8 + x) = 1 <;> simp [e]
theorem gDo_2 {h a : zN} {x : Nat} : gDo h a 2 x = if a (8 + x) = 3 then gGo a x 0 else a := by
  unfold gDo gWhy gLive
  by_cases e : a (8 + x) = 3 <;> simp [e]
theorem c_do0 {h a : zN} {z : Nat → Int32} {M : zMem} {a0 c x : Nat} (hR : gLab a0 c) (hr : gRC h M) (hH : gH h) (hA : gA h a) (hx : x < h 2) : (zcl (mf_X3_startSheet gR a0 (nI x) (zrowI M c (eC a z))) fun _ M1 => some ((), M1)) = some ((), zrowI M c (eC (gDo h a 0 x) z)) := by
  have e := c_start hR (gRC.row hR.2.2 hr) zrI_s hH hA (z := z) hx
  rw [e]
  unfold gDo
  show _ = some ((), zrowI M c (eC (if gWhyS h a x = 0 then gSt h a x else a) z))
  by_cases hw : gWhyS h a x = 0
  · rw [if_pos hw, if_pos hw, zcl_ok, grI_rI]
  · rw [if_neg hw, if_neg hw, zcl_ok]
theorem c_do1 {h a : zN} {z : Nat → Int32} {M : zMem} {a0 c x : Nat} (hR : gLab a0 c) (hr : gRC h M) (hH : gH h) (hA : gA h a) (hx : x < h 2) : (zcl (mf_X3_takeSheet gR a0 (nI x) (zrowI M c (eC a z))) fun _ M1 => some ((), M1)) = some ((), zrowI M c (eC (gDo h a 1 x) z)) := by
  have e := c_take hR (gRC.row hR.2.2 hr) zrI_s hH hA (z := z) hx
  rw [e]
  rw [gDo_1]
  by_cases hw : a (8 + x) = 1
  · rw [if_pos hw, if_pos hw, zcl_ok, grI_rI]
  · rw [if_neg hw, if_neg hw, zcl_ok]
theorem c_do2 {h a : zN} {z : Nat → Int32} {M : zMem} {a0 c x : Nat} (hR : gLab a0 c) (hr : gRC h M) (hH : gH h) (hA : gA h a) (hx : x < h 2) : (zcl (mf_X3_againSheet gR a0 (nI x) (zrowI M c (eC a z))) fun _ M1 => some ((), M1)) = some ((), zrowI M c (eC (gDo h a 2 x) z)) := by
  have e := c_again hR (gRC.row hR.2.2 hr) zrI_s hH hA (z := z) hx
  rw [e]
  rw [gDo_2]
  by_cases hw : a (8 + x) = 3
  · rw [if_pos hw, if_pos hw, zcl_ok, grI_rI]
  · rw [if_neg hw, if_neg hw, zcl_ok]
theorem c_do3 {h a : zN} {z : Nat → Int32} {M : zMem} {a0 c x : Nat} (hR : gLab a0 c) (hr : gRC h M) (hH : gH h) (hA : gA h a) (hx : x < h 0) : (zcl (mf_X3_renewBath gR a0 (nI x) (zrowI M c (eC a z))) fun _ M1 => some ((), M1)) = some ((), zrowI M c (eC (gDo h a 3 x) z)) := by
  have e := c_renew hR (gRC.row hR.2.2 hr) zrI_s hH hA (z := z) hx
  rw [e]
  unfold gDo
  show _ = some ((), zrowI M c (eC (if gWhyR a x = 0 then gRen a x else a) z))
  by_cases hw : gWhyR a x = 0
  · rw [if_pos hw, if_pos hw, zcl_ok, grI_rI]
  · rw [if_neg hw, if_neg hw, zcl_ok]
