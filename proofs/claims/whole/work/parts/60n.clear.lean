/-! LOAD, CLEAR -/
theorem uN_uN {a : zN} {k v w : Nat} : uN (uN a k v) k w = uN a k w := by
  funext j
  unfold uN
  split <;> rfl
theorem uN_id {a : zN} {k : Nat} : uN a k (a k) = a := by
  funext j
  unfold uN
  split
  · rename_i e; rw [e]
  · rfl
theorem uN_comm {a : zN} {k l v w : Nat} (h : k ≠ l) : uN (uN a k v) l w = uN (uN a l w) k v := by
  funext j
  unfold uN
  by_cases e1 : j = k
  · rw [if_pos e1, if_neg (by omega), if_pos e1]
  · rw [if_neg e1, if_neg e1]
theorem gGo_0 {a : zN} {s how v : Nat} : gGo (uN a 0 v) s how = uN (gGo a s how) 0 v := by
  unfold gGo
  rw [uN_comm (l := 8 + s) (by omega), uN_comm (l := 16 + s) (by omega), uN_comm (l := 24 + s) (by omega), uN_comm (l := 32 + s) (by omega)]
theorem gEnt_0 {h a : zN} {s b v : Nat} : gEnt h (uN a 0 v) s b = uN (gEnt h a s b) 0 v := by
  unfold gEnt
  rw [uN_n (show 2 + b ≠ 0 by omega), uN_comm (l := 8 + s) (by omega), uN_comm (l := 16 + s) (by omega), uN_comm (l := 24 + s) (by omega), uN_comm (l := 32 + s) (by omega), uN_comm (l := 2 + b) (by omega)]
theorem gOpen_0 {h a : zN} {b v : Nat} : gOpen h (uN a 0 v) b = gOpen h a b := gOpen_cong (fun s hs => uN_n (by omega)) (uN_n (by omega))
theorem gWk1_0 {h a : zN} {s b v : Nat} : gWk1 h (uN a 0 v) s b = uN (gWk1 h a s b) 0 v := by
  unfold gWk1
  rw [uN_n (show 24 + s ≠ 0 by omega), uN_n (show 32 + s ≠ 0 by omega), uN_n (show 40 + s ≠ 0 by omega), gOpen_0, gGo_0, gGo_0, gEnt_0]
  by_cases e1 : a (24 + s) = 0
  · rw [if_pos e1, if_pos e1]
    by_cases e2 : gNx h s (b + 1) = h 0
    · rw [if_pos e2, if_pos e2]
    · rw [if_neg e2, if_neg e2]
      by_cases e3 : gOpen h a (gNx h s (b + 1)) = false
      · rw [if_pos e3, if_pos e3]
        by_cases e4 : a (32 + s) = h 3
        · rw [if_pos e4, if_pos e4]
        · rw [if_neg e4, if_neg e4, uN_comm (l := 32 + s) (by omega), uN_comm (l := 40 + s) (by omega)]
      · rw [if_neg e3, if_neg e3]
  · rw [if_neg e1, if_neg e1]
theorem gWk_0 {h a : zN} {s b v : Nat} : gWk h (uN a 0 v) s b = uN (gWk h a s b) 0 v := by
  unfold gWk
  rw [uN_n (show 24 + s ≠ 0 by omega), uN_comm (l := 24 + s) (by omega), gWk1_0, gWk1_0]
  split <;> rfl
theorem gMs_0 {h a : zN} {s b v : Nat} : gMs h b s (uN a 0 v) = uN (gMs h b s a) 0 v := by
  unfold gMs
  rw [uN_n (show 16 + s ≠ 0 by omega), gWk_0]
  split <;> rfl
theorem gMb_0 {h : zN} {b v : Nat} {a : zN} : ∀ {n : Nat}, gFo (gMs h b) n (uN a 0 v) = uN (gFo (gMs h b) n a) 0 v
  | 0 => rfl
  | n + 1 => by
    show gMs h b n (gFo (gMs h b) n (uN a 0 v)) = uN (gMs h b n (gFo (gMs h b) n a)) 0 v
    rw [gMb_0, gMs_0]
theorem gFd_0 {h : zN} {v : Nat} : ∀ {n : Nat} {a : zN}, gFd (gMb h) n (uN a 0 v) = uN (gFd (gMb h) n a) 0 v
  | 0, _ => rfl
  | n + 1, a => by
    show gFd (gMb h) n (gMb h n (uN a 0 v)) = uN (gFd (gMb h) n (gMb h n a)) 0 v
    unfold gMb
    rw [gMb_0]
    exact gFd_0
theorem gMin_0 {h a : zN} {v : Nat} : gMin h (uN a 0 v) = uN (gMin h a) 0 (v + 1) := by
  unfold gMin
  rw [gFd_0, uN_s, uN_uN, uN_uN]
theorem gPass_0 {h : zN} : ∀ {n v : Nat} {a : zN}, gPass h n (uN a 0 v) = uN (gPass h n a) 0 (v + n)
  | 0, _, _ => rfl
  | n + 1, v, a => by
    show gPass h n (gMin h (uN a 0 v)) = uN (gPass h n (gMin h a)) 0 (v + (n + 1))
    rw [gMin_0, gPass_0, show v + 1 + n = v + (n + 1) by omega]
theorem gSt_0 {h a : zN} {s v : Nat} : gSt h (uN a 0 v) s = uN (gSt h a s) 0 v := by
  unfold gSt
  rw [uN_n (show 48 + s ≠ 0 by omega), uN_comm (l := 40 + s) (by omega), uN_comm (l := 48 + s) (by omega), gGo_0, gEnt_0]
  split <;> rfl
theorem gWhyS_0 {h a : zN} {s v : Nat} : gWhyS h (uN a 0 v) s = gWhyS h a s := by
  unfold gWhyS
  rw [uN_n (show 8 + s ≠ 0 by omega), gOpen_0]
theorem gTh_0 {h a : zN} {how v : Nat} : gTh h (uN a 0 v) how = gTh h a how := gbN_cong (fun k hk => by rw [uN_n (by omega)])
def gAn (x y : Nat) : Nat := x &&& (y ^^^ 4294967295)
theorem nI_an (x y : Nat) : nI x &&& (nI y ^^^ zm1) = nI (gAn x y) := by
  have e1 : zm1 = nI 4294967295 := by decide +kernel
  have e2 : nI y ^^^ nI 4294967295 = nI (y ^^^ 4294967295) := by
    unfold nI Int32.ofNat
    show Int32.ofBitVec (BitVec.ofNat 32 y ^^^ BitVec.ofNat 32 4294967295) = Int32.ofBitVec (BitVec.ofNat 32 (y ^^^ 4294967295))
    rw [BitVec.ofNat_xor]
  rw [e1, e2, nI_and]
  try rfl
theorem gAn_le (x y : Nat) : gAn x y ≤ x := Nat.and_le_left
def gClr (h a : zN) (s : Nat) : Bool := decide (gWhyS h a s = 0) && (decide (gPass h 200 (gSt h a s) (8 + s) = 2) && decide (gAn (gTh h (gPass h 200 (gSt h a s)) 3) (gTh h (gPass h 200 a) 3) = 0))
theorem gClr_0 {h a : zN} {s v : Nat} : gClr h (uN a 0 v) s = gClr h a s := by
  unfold gClr
  rw [gWhyS_0, gSt_0, gPass_0, gPass_0, gTh_0, gTh_0, uN_n (show 8 + s ≠ 0 by omega)]
theorem gTh_256 {h a : zN} {how : Nat} (h2 : h 2 ≤ 8) : gTh h a how < 256 := gbN_256 h2
theorem gbN_0 {p : Nat → Bool} {n k : Nat} (h : gbN p n = 0) (hk : k < n) : p k = false := by
  have := gbN_bit p n k
  rw [h, Nat.zero_testBit] at this
  simpa [hk] using this.symm
theorem gPass_idle {h a : zN} {q : Nat} (hH : gH h) (hA : gA h a) (hi : gTh h a 1 = 0) : gPass h q a = uN a 0 (a 0 + q) := by
  obtain ⟨k0, k1, k2, k3, k4, k5, kh, kl, ka, kp⟩ := id hH
  have hn : ∀ s, s < h 2 → a (8 + s) ≠ 1 := fun s hs => by
    have := gbN_0 (p := fun s => decide (a (8 + s) = 1)) hi hs
    simpa using this
  rw [gPass_q hH hA (fun s hs e => absurd e (hn s hs)), gSk_all k2]
  congr 1
  funext j
  unfold gDc
  rw [if_neg]
  rintro ⟨e1, e2, e3⟩
  simp only [Bool.and_eq_true, decide_eq_true_eq] at e3
  exact hn _ e3.1 e3.2
def gCA (h a : zN) (s : Nat) : Nat := gff (fun k => gClr h (gPass h k a) s) 61 0
theorem c_soon28 {h a : zN} {z1 z2 : Nat → Int32} {M : zMem} {a1 s : Nat} (hr : gRC h M) (hH : gH h) (hA : gA h a) (hs : s < h 2) : ∀ (n i f : Nat) (g : Nat → Int32), i + n = 61 → n < f → (∀ j, j < i → gClr h (gPass h j a) s = false) → ∃ M1, mf_X6_soonest_l28 gR 44 a1 f (nI s) (nI i) (zrowI (zrowI (zrowI M 50 (eC (gPass h i a) z1)) 52 (eC (gPass h 200 (gPass h i a)) z2)) 19 g) = some (enX 61 (gCA h a s), M1) ∧ gF [19, 50, 52] [] M M1
  | 0, i, f, g, hi, hf, hp => by
    match f, hf with
    | f + 1, hf =>
      have e : i = 61 := by omega
      subst e
      have e1 : gCA h a s = 61 := gff_eq (Nat.le_refl _) hp (Or.inl rfl)
      refine ⟨zrowI (zrowI (zrowI M 50 (eC (gPass h 61 a) z1)) 52 (eC (gPass h 200 (gPass h 61 a)) z2)) 19 g, ?_, ?_⟩
      · simp (disch := omega) only [zlet_ok, zcl_ok, zl_lit, zl_m1, nI_add, zald_nI, nI_ltE, nI_leE, nI_eqE, zm1_lt', zm1_le', zm1_nlt', zm1_nle', zm1_ne, zm1_ne', zm1_add1, gwI, grI_rI, zrI_s, zrI_n, zrI_L, gwL, grL_rL, zrL_s, zrL_n, zrL_I, Nat.zero_add, ↓reduceIte, if_true, if_false, gB_0, gB_1, gB_01, zchk_t, gB_1e, eq_self, gcle, gcnle, gclt, gcnlt, gcne, not_true_eq_false, not_false_eq_true, true_or, or_true, false_or, or_false, true_and, and_true, false_and, and_false, mf_X6_soonest_l28, e1]
        try rfl
      · exact gF.rI (gF.rI (gF.rI gF.r (by decide) (by decide)) (by decide) (by decide)) (by decide) (by decide)
  | n + 1, i, f, g, hi, hf, hp => by
    obtain ⟨k0, k1, k2, k3, k4, k5, kh, kl, ka, kp⟩ := id hH
    match f, hf with
    | f + 1, hf =>
      have hA1 := gA_pass hH (n := i) hA
      have hs8 : s < 8 := by omega
      have hb : gF [19, 50, 52] [] M (zrowI (zrowI M 50 (eC (gPass h i a) z1)) 52 (eC (gPass h 200 (gPass h i a)) z2)) := gF.rI (gF.rI gF.r (by decide) (by decide)) (by decide) (by decide)
      have hrb := gRC.fr hb (by decide) hr
      have e50 : (zrowI (zrowI M 50 (eC (gPass h i a) z1)) 52 (eC (gPass h 200 (gPass h i a)) z2)).1 50 = eC (gPass h i a) z1 := by rw [zrI_n (by decide), zrI_s]
      have e52 : (zrowI (zrowI M 50 (eC (gPass h i a) z1)) 52 (eC (gPass h 200 (gPass h i a)) z2)).1 52 = eC (gPass h 200 (gPass h i a)) z2 := zrI_s
      have key : ∀ g', ∃ M1, mf_X6_soonest_b106 gR 44 a1 (mf_X6_soonest_l28 gR 44 a1 f) (nI s) (nI i) (zrowI (zrowI (zrowI M 50 (eC (gPass h i a) z1)) 52 (eC (gPass h 200 (gPass h i a)) z2)) 19 g') = some (enX 61 (if gClr h (gPass h i a) s = true then 61 else gCA h a s), M1) ∧ gF [19, 50, 52] [] M M1 ∨ gClr h (gPass h i a) s = true := by
        intro g'
        by_cases hcl : gClr h (gPass h i a) s = true
        · exact ⟨M, Or.inr hcl⟩
        rw [if_neg hcl]
        have hr3 : gRC h (zrowI (zrowI (zrowI M 50 (eC (gPass h i a) z1)) 52 (eC (gPass h 200 (gPass h i a)) z2)) 19 g') := gRC.row (by decide) hrb
        have e3 : (zrowI (zrowI (zrowI M 50 (eC (gPass h i a) z1)) 52 (eC (gPass h 200 (gPass h i a)) z2)) 19 g').1 50 = eC (gPass h i a) z1 := by rw [zrI_n (by decide), e50]
        have l1 := gTh_256 (a := gPass h i a) (how := 1) k2
        by_cases hbz : gTh h (gPass h i a) 1 = 0
        · refine ⟨zrowI (zrowI (zrowI M 50 (eC (gPass h i a) z1)) 52 (eC (gPass h 200 (gPass h i a)) z2)) 19 g', Or.inl ⟨?_, gF.rI hb (by decide) (by decide)⟩⟩
          have e4 : gCA h a s = 61 := gff_eq (Nat.le_refl _) (fun j hj => by
            rcases Nat.lt_or_ge j i with q | q
            · exact hp j q
            · obtain ⟨d, rfl⟩ : ∃ d, j = i + d := ⟨j - i, by omega⟩
              rw [gPass_add, gPass_idle hH hA1 hbz, gClr_0]
              exact Bool.eq_false_iff.mpr hcl) (Or.inl rfl)
          simp (disch := omega) only [zlet_ok, zcl_ok, zl_lit, zl_m1, nI_add, zald_nI, nI_ltE, nI_leE, nI_eqE, zm1_lt', zm1_le', zm1_nlt', zm1_nle', zm1_ne, zm1_ne', zm1_add1, gwI, grI_rI, zrI_s, zrI_n, zrI_L, gwL, grL_rL, zrL_s, zrL_n, zrL_I, Nat.zero_add, ↓reduceIte, if_true, if_false, gB_0, gB_1, gB_01, zchk_t, gB_1e, eq_self, gcle, gcnle, gclt, gcnlt, gcne, not_true_eq_false, not_false_eq_true, true_or, or_true, false_or, or_false, true_and, and_true, false_and, and_false, mf_X6_soonest_b106, mf_X3_isBusy, r44_2, c_all gLab_n hr3 e3 hH hA1 (how := 1), hbz, e4]
          try rfl
        · have hp2 : ∀ j, j < i + 1 → gClr h (gPass h j a) s = false := fun j hj => by
            by_cases q : j = i
            · rw [q]; exact Bool.eq_false_iff.mpr hcl
            · exact hp j (by omega)
          obtain ⟨M1, f1, f2⟩ := c_soon28 (z1 := z1) (z2 := z2) (a1 := a1) hr hH hA hs n (i + 1) f g' (by omega) (by omega) hp2
          refine ⟨M1, Or.inl ⟨?_, f2⟩⟩
          rw [← f1]
          have e5 : zrowI (zrowI (zrowI M 50 (eC (gPass h i a) z1)) 52 (eC (gPass h 200 (gPass h i a)) z2)) 19 g' = zrowI (zrowI (zrowI M 19 g') 52 (eC (gPass h 200 (gPass h i a)) z2)) 50 (eC (gPass h i a) z1) := by
            rw [grI_comm (o := 50) (p := 52) (by decide), grI_comm (o := 50) (p := 19) (by decide), grI_comm (o := 52) (p := 19) (by decide)]
          have hr4 : gRC h (zrowI (zrowI M 19 g') 52 (eC (gPass h 200 (gPass h i a)) z2)) := gRC.row (by decide) (gRC.row (by decide) hr)
          have hr5 : gRC h (zrowI (zrowI M 19 g') 50 (eC (gMin h (gPass h i a)) z1)) := gRC.row (by decide) (gRC.row (by decide) hr)
          have p1 := c_passes (n := 1) (z := z1) gLab_n hr4 hH hA1 (by decide)
          have p2 := c_passes (n := 1) (z := z2) gLab_f hr5 hH (gA_pass hH (n := 200) hA1) (by decide)
          have e6 : zrowI (zrowI (zrowI M 19 g') 52 (eC (gPass h 200 (gPass h i a)) z2)) 50 (eC (gPass h 1 (gPass h i a)) z1) = zrowI (zrowI (zrowI M 19 g') 50 (eC (gMin h (gPass h i a)) z1)) 52 (eC (gPass h 200 (gPass h i a)) z2) := grI_comm (by decide)
          rw [e6] at p1
          have e7 : gPass h 1 (gPass h 200 (gPass h i a)) = gPass h 200 (gMin h (gPass h i a)) := by
            rw [← gPass_add (m := 200) (n := 1), show 200 + 1 = 1 + 200 from rfl, gPass_add (m := 1) (n := 200)]
            try rfl
          rw [e7] at p2
          have e8 : zrowI (zrowI (zrowI M 19 g') 50 (eC (gMin h (gPass h i a)) z1)) 52 (eC (gPass h 200 (gMin h (gPass h i a))) z2) = zrowI (zrowI (zrowI M 50 (eC (gPass h (i + 1) a) z1)) 52 (eC (gPass h 200 (gPass h (i + 1) a)) z2)) 19 g' := by
            rw [show gPass h (i + 1) a = gMin h (gPass h i a) from gPass_s, grI_comm (o := 19) (p := 50) (by decide), grI_comm (o := 19) (p := 52) (by decide)]
          rw [e8] at p2
          simp (disch := omega) only [zlet_ok, zcl_ok, zl_lit, zl_m1, nI_add, zald_nI, nI_ltE, nI_leE, nI_eqE, zm1_lt', zm1_le', zm1_nlt', zm1_nle', zm1_ne, zm1_ne', zm1_add1, gwI, grI_rI, zrI_s, zrI_n, zrI_L, gwL, grL_rL, zrL_s, zrL_n, zrL_I, Nat.zero_add, ↓reduceIte, if_true, if_false, gB_0, gB_1, gB_01, zchk_t, gB_1e, eq_self, gcle, gcnle, gclt, gcnlt, gcne, not_true_eq_false, not_false_eq_true, true_or, or_true, false_or, or_false, true_and, and_true, false_and, and_false, mf_X6_soonest_b106, mf_X3_isBusy, r44_2, r44_3, c_all gLab_n hr3 e3 hH hA1 (how := 1), hbz]
          rw [e5]
          simp (disch := omega) only [zlet_ok, zcl_ok, zl_lit, zl_m1, nI_add, zald_nI, nI_ltE, nI_leE, nI_eqE, zm1_lt', zm1_le', zm1_nlt', zm1_nle', zm1_ne, zm1_ne', zm1_add1, gwI, grI_rI, zrI_s, zrI_n, zrI_L, gwL, grL_rL, zrL_s, zrL_n, zrL_I, Nat.zero_add, ↓reduceIte, if_true, if_false, gB_0, gB_1, gB_01, zchk_t, gB_1e, eq_self, gcle, gcnle, gclt, gcnlt, gcne, not_true_eq_false, not_false_eq_true, true_or, or_true, false_or, or_false, true_and, and_true, false_and, and_false, p1, p2]
      by_cases hw : gWhyS h (gPass h i a) s = 0
      · have hA2 := (gA_st hH hA1 hs hw).1
        have hA3 := gA_pass hH (n := 200) hA2
        have hA4 := gA_pass hH (n := 200) hA1
        have l1 := gTh_256 (a := gPass h 200 (gSt h (gPass h i a) s)) (how := 3) k2
        have l2 := gAn_le (gTh h (gPass h 200 (gSt h (gPass h i a) s)) 3) (gTh h (gPass h 200 (gPass h i a)) 3)
        have l3 := (hA3.2.2 s hs8).1
        have c1 := c_copy (a0 := 18) (c := 19) (M := zrowI (zrowI (zrowI M 50 (eC (gPass h i a) z1)) 52 (eC (gPass h 200 (gPass h i a)) z2)) 19 g) gLab_t gLab_n (by rw [zrI_n (by decide), e50])
        rw [grI_rI, zrI_s] at c1
        have hr6 : gRC h (zrowI (zrowI (zrowI M 50 (eC (gPass h i a) z1)) 52 (eC (gPass h 200 (gPass h i a)) z2)) 19 (eC (gPass h i a) g)) := gRC.row (by decide) hrb
        have c2 := c_start gLab_t hr6 zrI_s hH hA1 hs
        rw [if_pos hw, grI_rI] at c2
        have c3 := c_passes (n := 200) (z := g) gLab_t hrb hH hA2 (by decide)
        have hr7 : gRC h (zrowI (zrowI (zrowI M 50 (eC (gPass h i a) z1)) 52 (eC (gPass h 200 (gPass h i a)) z2)) 19 (eC (gPass h 200 (gSt h (gPass h i a) s)) g)) := gRC.row (by decide) hrb
        have c4 := c_all (how := 3) gLab_t hr7 zrI_s hH hA3 (by decide)
        have c5 := c_all (how := 3) gLab_f hr7 (by rw [zrI_n (by decide), e52]) hH hA4 (by decide)
        have c6 := c_howIs gLab_t hr7 zrI_s hH hs
        by_cases hcl : gClr h (gPass h i a) s = true
        · have e4 : gCA h a s = i := gff_eq (by omega) hp (Or.inr hcl)
          have hcl2 := hcl
          unfold gClr at hcl2
          simp only [Bool.and_eq_true, decide_eq_true_eq] at hcl2
          obtain ⟨-, d1, d2⟩ := hcl2
          refine ⟨zrowI (zrowI (zrowI M 50 (eC (gPass h i a) z1)) 52 (eC (gPass h 200 (gPass h i a)) z2)) 19 (eC (gPass h 200 (gSt h (gPass h i a) s)) g), ?_, gF.rI hb (by decide) (by decide)⟩
          · simp (disch := omega) only [zlet_ok, zcl_ok, zl_lit, zl_m1, nI_add, zald_nI, nI_ltE, nI_leE, nI_eqE, zm1_lt', zm1_le', zm1_nlt', zm1_nle', zm1_ne, zm1_ne', zm1_add1, gwI, grI_rI, zrI_s, zrI_n, zrI_L, gwL, grL_rL, zrL_s, zrL_n, zrL_I, Nat.zero_add, ↓reduceIte, if_true, if_false, gB_0, gB_1, gB_01, zchk_t, gB_1e, eq_self, gcle, gcnle, gclt, gcnlt, gcne, not_true_eq_false, not_false_eq_true, true_or, or_true, false_or, or_false, true_and, and_true, false_and, and_false, mf_X6_soonest_l28, r44_1, r44_2, r44_3, c1, c2, c3, c4, c5, nI_an, c6, d1, d2, e4, enX_ne (show i ≠ 61 by omega)]
            try rfl
        · obtain ⟨M1, hk⟩ := key (eC (gPass h 200 (gSt h (gPass h i a) s)) g)
          rw [if_neg hcl] at hk
          rcases hk with ⟨k1, k2⟩ | k
          · refine ⟨M1, ?_, k2⟩
            rw [← k1]
            by_cases d1 : gPass h 200 (gSt h (gPass h i a) s) (8 + s) = 2
            · have d2 : gAn (gTh h (gPass h 200 (gSt h (gPass h i a) s)) 3) (gTh h (gPass h 200 (gPass h i a)) 3) ≠ 0 := fun q => hcl (by unfold gClr; simp [hw, d1, q])
              simp (disch := omega) only [zlet_ok, zcl_ok, zl_lit, zl_m1, nI_add, zald_nI, nI_ltE, nI_leE, nI_eqE, zm1_lt', zm1_le', zm1_nlt', zm1_nle', zm1_ne, zm1_ne', zm1_add1, gwI, grI_rI, zrI_s, zrI_n, zrI_L, gwL, grL_rL, zrL_s, zrL_n, zrL_I, Nat.zero_add, ↓reduceIte, if_true, if_false, gB_0, gB_1, gB_01, zchk_t, gB_1e, eq_self, gcle, gcnle, gclt, gcnlt, gcne, not_true_eq_false, not_false_eq_true, true_or, or_true, false_or, or_false, true_and, and_true, false_and, and_false, mf_X6_soonest_l28, r44_1, r44_2, r44_3, c1, c2, c3, c4, c5, nI_an, c6, d1, d2]
            · simp (disch := omega) only [zlet_ok, zcl_ok, zl_lit, zl_m1, nI_add, zald_nI, nI_ltE, nI_leE, nI_eqE, zm1_lt', zm1_le', zm1_nlt', zm1_nle', zm1_ne, zm1_ne', zm1_add1, gwI, grI_rI, zrI_s, zrI_n, zrI_L, gwL, grL_rL, zrL_s, zrL_n, zrL_I, Nat.zero_add, ↓reduceIte, if_true, if_false, gB_0, gB_1, gB_01, zchk_t, gB_1e, eq_self, gcle, gcnle, gclt, gcnlt, gcne, not_true_eq_false, not_false_eq_true, true_or, or_true, false_or, or_false, true_and, and_true, false_and, and_false, mf_X6_soonest_l28, r44_1, r44_2, r44_3, c1, c2, c3, c4, c5, nI_an, c6, d1]
          · exact absurd k hcl
      · have hcl : ¬ gClr h (gPass h i a) s = true := fun q => hw (by
          unfold gClr at q
          simp only [Bool.and_eq_true, decide_eq_true_eq] at q
          exact q.1)
        have c1 := c_copy (a0 := 18) (c := 19) (M := zrowI (zrowI (zrowI M 50 (eC (gPass h i a) z1)) 52 (eC (gPass h 200 (gPass h i a)) z2)) 19 g) gLab_t gLab_n (by rw [zrI_n (by decide), e50])
        rw [grI_rI, zrI_s] at c1
        have hr6 : gRC h (zrowI (zrowI (zrowI M 50 (eC (gPass h i a) z1)) 52 (eC (gPass h 200 (gPass h i a)) z2)) 19 (eC (gPass h i a) g)) := gRC.row (by decide) hrb
        have c2 := c_start gLab_t hr6 zrI_s hH hA1 hs
        rw [if_neg hw] at c2
        have l4 : gWhyS h (gPass h i a) s ≤ 2 := by
          unfold gWhyS
          split
          · split
            · omega
            · split <;> omega
          · omega
        obtain ⟨M1, hk⟩ := key (eC (gPass h i a) g)
        rw [if_neg hcl] at hk
        rcases hk with ⟨k1, k2⟩ | k
        · refine ⟨M1, ?_, k2⟩
          rw [← k1]
          simp (disch := omega) only [zlet_ok, zcl_ok, zl_lit, zl_m1, nI_add, zald_nI, nI_ltE, nI_leE, nI_eqE, zm1_lt', zm1_le', zm1_nlt', zm1_nle', zm1_ne, zm1_ne', zm1_add1, gwI, grI_rI, zrI_s, zrI_n, zrI_L, gwL, grL_rL, zrL_s, zrL_n, zrL_I, Nat.zero_add, ↓reduceIte, if_true, if_false, gB_0, gB_1, gB_01, zchk_t, gB_1e, eq_self, gcle, gcnle, gclt, gcnlt, gcne, not_true_eq_false, not_false_eq_true, true_or, or_true, false_or, or_false, true_and, and_true, false_and, and_false, mf_X6_soonest_l28, r44_1, r44_2, r44_3, c1, c2, hw]
        · exact absurd k hcl

theorem c_soonest {h a : zN} {z : Nat → Int32} {M : zMem} {a1 c1 s : Nat} (hR1 : gLab a1 c1) (hr : gRC h M) (hc : M.1 c1 = eC a z) (h1 : c1 ≠ 50) (hH : gH h) (hA : gA h a) (hs : s < h 2) : ∃ M1, mf_X6_soonest gR 44 a1 (nI s) M = some (enX 61 (gCA h a s), M1) ∧ gF [19, 50, 52] [] M M1 := by
  have c1' := c_copy (a0 := 49) gLab_n hR1 hc
  have hr2 : gRC h (zrowI M 50 (eC a (M.1 50))) := gRC.row (by decide) hr
  have c2 := c_copy (a0 := 51) (M := zrowI M 50 (eC a (M.1 50))) gLab_f hR1 (by rw [zrI_n h1]; exact hc)
  have z52 : (zrowI M 50 (eC a (M.1 50))).1 52 = M.1 52 := zrI_n (by decide)
  rw [z52] at c2
  have c3 := c_passes (n := 200) (z := M.1 52) gLab_f hr2 hH hA (by decide)
  obtain ⟨M1, f1, f2⟩ := c_soon28 (z1 := M.1 50) (z2 := M.1 52) (a1 := a1) hr hH hA hs 61 0 zF (M.1 19) (by omega) (by show 61 < 5000; omega) (fun j hj => by omega)
  refine ⟨M1, ?_, f2⟩
  rw [← f1]
  unfold mf_X6_soonest
  rw [r44_2, r44_3, c1', zcl_ok, c2]
  simp (disch := omega) only [zlet_ok, zcl_ok, zl_lit, zl_m1, nI_add, zald_nI, nI_ltE, nI_leE, nI_eqE, zm1_lt', zm1_le', zm1_nlt', zm1_nle', zm1_ne, zm1_ne', zm1_add1, gwI, grI_rI, zrI_s, zrI_n, zrI_L, gwL, grL_rL, zrL_s, zrL_n, zrL_I, Nat.zero_add, ↓reduceIte, if_true, if_false, gB_0, gB_1, gB_01, zchk_t, gB_1e, eq_self, gcle, gcnle, gclt, gcnlt, gcne, not_true_eq_false, not_false_eq_true, true_or, or_true, false_or, or_false, true_and, and_true, false_and, and_false, c3]
  rw [grI_id (M := zrowI (zrowI M 50 (eC (gPass h 0 a) (M.1 50))) 52 (eC (gPass h 200 (gPass h 0 a)) (M.1 52)))]
  · exact Eq.refl _
  · rw [zrI_n (by decide), zrI_n (by decide)]
theorem m_isClear {h a : zN} {t : Nat → Int32} {M : zMem} {s : Nat} (hH : gH h) (hA : gA h a) (hs : s < h 2) : ∃ g, mf_X12_isClear gR 89 (nI s) (zrowI M 91 (encM h a t)) = some (gB (gClr h a s), zrowI (zrowI M 95 g) 91 (encM h a t)) := by
  obtain ⟨k0, k1, k2, k3, k4, k5, kh, kl, ka, kp⟩ := id hH
  have hs8 : s < 8 := by omega
  have l0 : gWhyS h a s ≤ 2 := by
    unfold gWhyS
    split
    · split
      · omega
      · split <;> omega
    · omega
  by_cases hw : gWhyS h a s = 0
  · have hv : ∀ k, k < 56 → (zrowI M 95 (gsv (encM h a t) (M.1 95) 0 56)).1 95 (0 + k) = encM h a t (56 + k) := fun k hk => by rw [zrI_s]; exact gsv_in hk
    obtain ⟨hA2, hA2'⟩ := gA_st hH hA hs hw
    have hA3 := gA_pass hH (n := 200) hA2
    have hA4 := gA_pass hH (n := 200) hA
    have l1 := gTh_256 (a := gPass h 200 (gSt h a s)) (how := 3) k2
    have l2 := gAn_le (gTh h (gPass h 200 (gSt h a s)) 3) (gTh h (gPass h 200 a) 3)
    have l3 := (hA3.2.2 s hs8).1
    refine ⟨gsv (encM h a t) (M.1 95) 0 56, ?_⟩
    unfold mf_X12_isClear
    simp (disch := omega) only [zlet_ok, zcl_ok, zl_lit, zl_m1, nI_add, zald_nI, nI_ltE, nI_leE, nI_eqE, zm1_lt', zm1_le', zm1_nlt', zm1_nle', zm1_ne, zm1_ne', zm1_add1, gwI, grI_rI, zrI_s, zrI_n, zrI_L, gwL, grL_rL, zrL_s, zrL_n, zrL_I, Nat.zero_add, ↓reduceIte, if_true, if_false, gB_0, gB_1, gB_01, zchk_t, gB_1e, eq_self, gcle, gcnle, gclt, gcnlt, gcne, not_true_eq_false, not_false_eq_true, true_or, or_true, false_or, or_false, true_and, and_true, false_and, and_false, m_whyStart hH hA hs, hw, r89_18, m_save, mf_X12_spoiltLater, m_goOn hH hA, m_those hH hA4, m_backs (h := h) (A := 95) (n1 := 56) (off := 0) (by decide) (by decide) (by decide) hv, m_starts hH hA2' hs, m_goOn hH hA2, m_those hH hA3, r89_14, eM_how, nI_an]
    unfold gClr
    by_cases d1 : gPass h 200 (gSt h a s) (8 + s) = 2
    · by_cases d2 : gAn (gTh h (gPass h 200 (gSt h a s)) 3) (gTh h (gPass h 200 a) 3) = 0
      · simp (disch := omega) only [zlet_ok, zcl_ok, zl_lit, zl_m1, nI_add, zald_nI, nI_ltE, nI_leE, nI_eqE, zm1_lt', zm1_le', zm1_nlt', zm1_nle', zm1_ne, zm1_ne', zm1_add1, gwI, grI_rI, zrI_s, zrI_n, zrI_L, gwL, grL_rL, zrL_s, zrL_n, zrL_I, Nat.zero_add, ↓reduceIte, if_true, if_false, gB_0, gB_1, gB_01, zchk_t, gB_1e, eq_self, gcle, gcnle, gclt, gcnlt, gcne, not_true_eq_false, not_false_eq_true, true_or, or_true, false_or, or_false, true_and, and_true, false_and, and_false, mf_X12_isClear_b69, mf_X12_isClear_b68, r89_18, d1, d2, hw, m_backs (h := h) (A := 95) (n1 := 56) (off := 0) (by decide) (by decide) (by decide) hv, decide_true, Bool.and_self, gB_t]
      · simp (disch := omega) only [zlet_ok, zcl_ok, zl_lit, zl_m1, nI_add, zald_nI, nI_ltE, nI_leE, nI_eqE, zm1_lt', zm1_le', zm1_nlt', zm1_nle', zm1_ne, zm1_ne', zm1_add1, gwI, grI_rI, zrI_s, zrI_n, zrI_L, gwL, grL_rL, zrL_s, zrL_n, zrL_I, Nat.zero_add, ↓reduceIte, if_true, if_false, gB_0, gB_1, gB_01, zchk_t, gB_1e, eq_self, gcle, gcnle, gclt, gcnlt, gcne, not_true_eq_false, not_false_eq_true, true_or, or_true, false_or, or_false, true_and, and_true, false_and, and_false, mf_X12_isClear_b69, mf_X12_isClear_b68, r89_18, d1, d2, hw, m_backs (h := h) (A := 95) (n1 := 56) (off := 0) (by decide) (by decide) (by decide) hv, decide_true, decide_false, Bool.and_false, gB_f]
    · simp (disch := omega) only [zlet_ok, zcl_ok, zl_lit, zl_m1, nI_add, zald_nI, nI_ltE, nI_leE, nI_eqE, zm1_lt', zm1_le', zm1_nlt', zm1_nle', zm1_ne, zm1_ne', zm1_add1, gwI, grI_rI, zrI_s, zrI_n, zrI_L, gwL, grL_rL, zrL_s, zrL_n, zrL_I, Nat.zero_add, ↓reduceIte, if_true, if_false, gB_0, gB_1, gB_01, zchk_t, gB_1e, eq_self, gcle, gcnle, gclt, gcnlt, gcne, not_true_eq_false, not_false_eq_true, true_or, or_true, false_or, or_false, true_and, and_true, false_and, and_false, mf_X12_isClear_b69, mf_X12_isClear_b68, r89_18, d1, hw, m_backs (h := h) (A := 95) (n1 := 56) (off := 0) (by decide) (by decide) (by decide) hv, decide_true, decide_false, Bool.and_false, Bool.false_and, gB_f]
  · refine ⟨M.1 95, ?_⟩
    unfold mf_X12_isClear
    rw [grI_id (M := M) (o := 95) rfl]
    unfold gClr
    simp (disch := omega) only [zlet_ok, zcl_ok, zl_lit, zl_m1, nI_add, zald_nI, nI_ltE, nI_leE, nI_eqE, zm1_lt', zm1_le', zm1_nlt', zm1_nle', zm1_ne, zm1_ne', zm1_add1, gwI, grI_rI, zrI_s, zrI_n, zrI_L, gwL, grL_rL, zrL_s, zrL_n, zrL_I, Nat.zero_add, ↓reduceIte, if_true, if_false, gB_0, gB_1, gB_01, zchk_t, gB_1e, eq_self, gcle, gcnle, gclt, gcnlt, gcne, not_true_eq_false, not_false_eq_true, true_or, or_true, false_or, or_false, true_and, and_true, false_and, and_false, m_whyStart hH hA hs, hw, decide_false, Bool.false_and, gB_f]
theorem m_wait2 {h a : zN} {t : Nat → Int32} {s : Nat} (hH : gH h) (hA : gA h a) (hs : s < h 2) : ∀ (n i f : Nat) (M : zMem), i + n = 61 → n < f → (∀ j, j < i → gClr h (gPass h j a) s = false) → ∃ g, mf_X12_waitFor_l2 gR 89 f (nI s) (nI i) (zrowI M 91 (encM h (gPass h i a) t)) = some (enX 61 (gCA h a s), zrowI (zrowI M 95 g) 91 (encM h (gPass h (gCA h a s) a) t))
  | 0, i, f, M, hi, hf, hp => by
    match f, hf with
    | f + 1, hf =>
      have e : i = 61 := by omega
      subst e
      have e1 : gCA h a s = 61 := gff_eq (Nat.le_refl _) hp (Or.inl rfl)
      refine ⟨M.1 95, ?_⟩
      rw [grI_id (M := M) (o := 95) rfl, e1]
      simp (disch := omega) only [zlet_ok, zcl_ok, zl_lit, zl_m1, nI_add, zald_nI, nI_ltE, nI_leE, nI_eqE, zm1_lt', zm1_le', zm1_nlt', zm1_nle', zm1_ne, zm1_ne', zm1_add1, gwI, grI_rI, zrI_s, zrI_n, zrI_L, gwL, grL_rL, zrL_s, zrL_n, zrL_I, Nat.zero_add, ↓reduceIte, if_true, if_false, gB_0, gB_1, gB_01, zchk_t, gB_1e, eq_self, gcle, gcnle, gclt, gcnlt, gcne, not_true_eq_false, not_false_eq_true, true_or, or_true, false_or, or_false, true_and, and_true, false_and, and_false, mf_X12_waitFor_l2]
      try rfl
  | n + 1, i, f, M, hi, hf, hp => by
    match f, hf with
    | f + 1, hf =>
      have hA1 := gA_pass hH (n := i) hA
      obtain ⟨g, hg⟩ := m_isClear (t := t) (M := M) hH hA1 hs
      cases hcl : gClr h (gPass h i a) s
      · rw [hcl] at hg
        obtain ⟨g', hg'⟩ := m_wait2 (t := t) hH hA hs n (i + 1) f (zrowI M 95 g) (by omega) (by omega) (fun j hj => by
          by_cases q : j = i
          · rw [q]; exact hcl
          · exact hp j (by omega))
        rw [grI_rI] at hg'
        refine ⟨g', ?_⟩
        rw [← hg', gPass_s]
        simp (disch := omega) only [zlet_ok, zcl_ok, zl_lit, zl_m1, nI_add, zald_nI, nI_ltE, nI_leE, nI_eqE, zm1_lt', zm1_le', zm1_nlt', zm1_nle', zm1_ne, zm1_ne', zm1_add1, gwI, grI_rI, zrI_s, zrI_n, zrI_L, gwL, grL_rL, zrL_s, zrL_n, zrL_I, Nat.zero_add, ↓reduceIte, if_true, if_false, gB_0, gB_1, gB_01, zchk_t, gB_1e, eq_self, gcle, gcnle, gclt, gcnlt, gcne, not_true_eq_false, not_false_eq_true, true_or, or_true, false_or, or_false, true_and, and_true, false_and, and_false, mf_X12_waitFor_l2, hg, m_oneMinute hH hA1]
      · rw [hcl] at hg
        have e1 : gCA h a s = i := gff_eq (by omega) hp (Or.inr hcl)
        refine ⟨g, ?_⟩
        rw [e1, enX_ne (by omega)]
        simp (disch := omega) only [zlet_ok, zcl_ok, zl_lit, zl_m1, nI_add, zald_nI, nI_ltE, nI_leE, nI_eqE, zm1_lt', zm1_le', zm1_nlt', zm1_nle', zm1_ne, zm1_ne', zm1_add1, gwI, grI_rI, zrI_s, zrI_n, zrI_L, gwL, grL_rL, zrL_s, zrL_n, zrL_I, Nat.zero_add, ↓reduceIte, if_true, if_false, gB_0, gB_1, gB_01, zchk_t, gB_1e, eq_self, gcle, gcnle, gclt, gcnlt, gcne, not_true_eq_false, not_false_eq_true, true_or, or_true, false_or, or_false, true_and, and_true, false_and, and_false, mf_X12_waitFor_l2, hg, Bool.true_eq_false]
theorem m_waitFor {h a : zN} {t : Nat → Int32} {M : zMem} {s : Nat} (hH : gH h) (hA : gA h a) (hs : s < h 2) : ∃ g, mf_X12_waitFor gR 89 (nI s) (zrowI M 91 (encM h a t)) = some (enX 61 (gCA h a s), zrowI (zrowI M 95 g) 91 (encM h (gPass h (gCA h a s) a) t)) := m_wait2 hH hA hs 61 0 zF M (by omega) (by show 61 < 5000; omega) (fun j hj => by omega)
theorem q_clear {h a : zN} {t : Nat → Int32} {M : zMem} (W : gW h a t M) (x : Int32) : ∃ r M1 M2, mf_X11_clear gR 0 x M = some (r, M1) ∧ mf_X12_clear gR 89 x M1 = some (r, M2) ∧ gF [19, 50, 52, 95, 96] [0] M M2 := by
  have W0 := W
  obtain ⟨hr, hc0, hm, hH, hA⟩ := W
  obtain ⟨z, hc⟩ : ∃ z, M.1 17 = eC a z := ⟨_, hc0⟩
  have hc' : M.1 17 = encC a (gIn a) z := hc
  obtain ⟨q0, q1, q2, q3, q4, q5, qh, ql, qp, qa⟩ := id hr
  obtain ⟨k0, k1, k2, k3, k4, k5, kh, kl, ka, kp⟩ := id hH
  have hm0 : (zwI M 89 0 (nI 0)).1 91 = encM h a t := by rw [zwI_n (by decide)]; exact hm
  have fz : gF [19, 50, 52, 95, 96] [0] M (zwI M 89 0 (nI 0)) := gF.w9 gF.r (by decide)
  unfold mf_X11_clear mf_X12_clear
  simp only [zlet_ok, zl_lit]
  rcases gcase (n := h 2) (by omega) x with ⟨s, hs, rfl⟩ | ho
  · have hs8 : s < 8 := by omega
    have l3 := (hA.2.2 s hs8).1
    by_cases e0 : a (8 + s) = 0
    · obtain ⟨M1, e1, f1⟩ := c_soonest gLab_l hr hc (by decide) hH hA hs
      have f2 : gF [19, 50, 52, 95, 96] [0] M (zwI M1 89 0 (nI 0)) := gF.w9 (f1.mono (by decide) (by decide)) (by decide)
      have hm1 := (gW.fr f2 (by decide) W0).2.2.1
      generalize hM2 : zwI M1 89 0 (nI 0) = M2 at f2 hm1
      obtain ⟨g, hg⟩ := m_waitFor (t := t) (M := zrowI M2 96 (gsv (encM h a t) (M2.1 96) 0 56)) hH hA hs
      refine ⟨enX 61 (gCA h a s), M1, zrowI (zrowI (zrowI M2 96 (gsv (encM h a t) (M2.1 96) 0 56)) 95 g) 91 (encM h a t), ?_, ?_, ?_⟩
      · simp (disch := omega) only [zlet_ok, zcl_ok, zl_lit, zl_m1, nI_add, zald_nI, nI_ltE, nI_leE, nI_eqE, zm1_lt', zm1_le', zm1_nlt', zm1_nle', zm1_ne, zm1_ne', zm1_add1, gwI, grI_rI, zrI_s, zrI_n, zrI_L, gwL, grL_rL, zrL_s, zrL_n, zrL_I, Nat.zero_add, ↓reduceIte, if_true, if_false, gB_0, gB_1, gB_01, zchk_t, gB_1e, eq_self, gcle, gcnle, gclt, gcnlt, gcne, not_true_eq_false, not_false_eq_true, true_or, or_true, false_or, or_false, true_and, and_true, false_and, and_false, r0_3, r0_9, c_howIs gLab_l hr hc hH hs, e0, e1]
      · rw [hM2, ← grI_id hm1]
        simp (disch := omega) only [zlet_ok, zcl_ok, zl_lit, zl_m1, nI_add, zald_nI, nI_ltE, nI_leE, nI_eqE, zm1_lt', zm1_le', zm1_nlt', zm1_nle', zm1_ne, zm1_ne', zm1_add1, gwI, grI_rI, zrI_s, zrI_n, zrI_L, gwL, grL_rL, zrL_s, zrL_n, zrL_I, Nat.zero_add, ↓reduceIte, if_true, if_false, gB_0, gB_1, gB_01, zchk_t, gB_1e, eq_self, gcle, gcnle, gclt, gcnlt, gcne, not_true_eq_false, not_false_eq_true, true_or, or_true, false_or, or_false, true_and, and_true, false_and, and_false, m_isSheet hH hs, m_isWaiting hs8 (hA.2.2 s hs8), e0, decide_true, Bool.true_eq_false, r89_19, m_save]
        rw [grI_id hm1, hg]
        simp (disch := omega) only [zlet_ok, zcl_ok, zl_lit, zl_m1, nI_add, zald_nI, nI_ltE, nI_leE, nI_eqE, zm1_lt', zm1_le', zm1_nlt', zm1_nle', zm1_ne, zm1_ne', zm1_add1, gwI, grI_rI, zrI_s, zrI_n, zrI_L, gwL, grL_rL, zrL_s, zrL_n, zrL_I, Nat.zero_add, ↓reduceIte, if_true, if_false, gB_0, gB_1, gB_01, zchk_t, gB_1e, eq_self, gcle, gcnle, gclt, gcnlt, gcne, not_true_eq_false, not_false_eq_true, true_or, or_true, false_or, or_false, true_and, and_true, false_and, and_false]
        rw [m_backs (h := h) (t' := t) (a0 := a) (A := 96) (n1 := 56) (off := 0) (by decide) (by decide) (by decide) (fun k hk => by
          rw [zrI_n (by decide), zrI_s]; exact gsv_in hk)]
        try rfl
      · have f3 : gF [19, 50, 52, 95, 96] [0] M (zrowI (zrowI M2 96 (gsv (encM h a t) (M2.1 96) 0 56)) 95 g) := gF.rI (gF.rI f2 (by decide) (by decide)) (by decide) (by decide)
        rw [grI_id]
        · exact f3
        · rw [zrI_n (by decide), zrI_n (by decide)]; exact hm1
    · have hm1 := (gW.fr fz (by decide) W0).2.2.1
      generalize hM2 : zwI M 89 0 (nI 0) = M2 at fz hm1
      refine ⟨zm1, M, M2, ?_, ?_, fz⟩
      · simp (disch := omega) only [zlet_ok, zcl_ok, zl_lit, zl_m1, nI_add, zald_nI, nI_ltE, nI_leE, nI_eqE, zm1_lt', zm1_le', zm1_nlt', zm1_nle', zm1_ne, zm1_ne', zm1_add1, gwI, grI_rI, zrI_s, zrI_n, zrI_L, gwL, grL_rL, zrL_s, zrL_n, zrL_I, Nat.zero_add, ↓reduceIte, if_true, if_false, gB_0, gB_1, gB_01, zchk_t, gB_1e, eq_self, gcle, gcnle, gclt, gcnlt, gcne, not_true_eq_false, not_false_eq_true, true_or, or_true, false_or, or_false, true_and, and_true, false_and, and_false, r0_3, c_howIs gLab_l hr hc hH hs, e0]
      · rw [hM2, ← grI_id hm1]
        simp (disch := omega) only [zlet_ok, zcl_ok, zl_lit, zl_m1, nI_add, zald_nI, nI_ltE, nI_leE, nI_eqE, zm1_lt', zm1_le', zm1_nlt', zm1_nle', zm1_ne, zm1_ne', zm1_add1, gwI, grI_rI, zrI_s, zrI_n, zrI_L, gwL, grL_rL, zrL_s, zrL_n, zrL_I, Nat.zero_add, ↓reduceIte, if_true, if_false, gB_0, gB_1, gB_01, zchk_t, gB_1e, eq_self, gcle, gcnle, gclt, gcnlt, gcne, not_true_eq_false, not_false_eq_true, true_or, or_true, false_or, or_false, true_and, and_true, false_and, and_false, m_isSheet hH hs, m_isWaiting hs8 (hA.2.2 s hs8), e0, decide_false]
  · have hm1 := (gW.fr fz (by decide) W0).2.2.1
    generalize hM2 : zwI M 89 0 (nI 0) = M2 at fz hm1
    have e2 : ¬ zm1 = nI 0 := by decide +kernel
    refine ⟨zm1, M, M2, ?_, ?_, fz⟩
    · simp (disch := omega) only [zlet_ok, zcl_ok, zl_lit, zl_m1, nI_add, zald_nI, nI_ltE, nI_leE, nI_eqE, zm1_lt', zm1_le', zm1_nlt', zm1_nle', zm1_ne, zm1_ne', zm1_add1, gwI, grI_rI, zrI_s, zrI_n, zrI_L, gwL, grL_rL, zrL_s, zrL_n, zrL_I, Nat.zero_add, ↓reduceIte, if_true, if_false, gB_0, gB_1, gB_01, zchk_t, gB_1e, eq_self, gcle, gcnle, gclt, gcnlt, gcne, not_true_eq_false, not_false_eq_true, true_or, or_true, false_or, or_false, true_and, and_true, false_and, and_false, r0_3, c_howIs_n gLab_l hr ho, e2]
    · rw [hM2, ← grI_id hm1]
      simp (disch := omega) only [zlet_ok, zcl_ok, zl_lit, zl_m1, nI_add, zald_nI, nI_ltE, nI_leE, nI_eqE, zm1_lt', zm1_le', zm1_nlt', zm1_nle', zm1_ne, zm1_ne', zm1_add1, gwI, grI_rI, zrI_s, zrI_n, zrI_L, gwL, grL_rL, zrL_s, zrL_n, zrL_I, Nat.zero_add, ↓reduceIte, if_true, if_false, gB_0, gB_1, gB_01, zchk_t, gB_1e, eq_self, gcle, gcnle, gclt, gcnlt, gcne, not_true_eq_false, not_false_eq_true, true_or, or_true, false_or, or_false, true_and, and_true, false_and, and_false, m_isSheet_n hH ho]
theorem q_load {h a : zN} {t : Nat → Int32} {M : zMem} (W : gW h a t M) (x y : Int32) : ∃ r M1 M2, mf_X11_load gR 0 x y M = some (r, M1) ∧ mf_X12_load gR 89 x y M1 = some (r, M2) ∧ gF [19, 95] [0] M M2 := by
  have W0 := W
  obtain ⟨hr, hc0, hm, hH, hA⟩ := W
  obtain ⟨z, hc⟩ : ∃ z, M.1 17 = eC a z := ⟨_, hc0⟩
  have hc' : M.1 17 = encC a (gIn a) z := hc
  obtain ⟨q0, q1, q2, q3, q4, q5, qh, ql, qp, qa⟩ := id hr
  obtain ⟨k0, k1, k2, k3, k4, k5, kh, kl, ka, kp⟩ := id hH
  have hm0 : (zwI M 89 0 (nI 0)).1 91 = encM h a t := by rw [zwI_n (by decide)]; exact hm
  have fz : gF [19, 95] [0] M (zwI M 89 0 (nI 0)) := gF.w9 gF.r (by decide)
  unfold mf_X11_load mf_X12_load
  simp only [zlet_ok, zl_lit]
  rcases gcase (n := h 0) (by omega) x with ⟨b, hb, rfl⟩ | ho
  · rcases gcase (n := 201) (by omega) y with ⟨k, hk, rfl⟩ | ho
    · have hr1 : gRC h (zrowI M 19 (eC (gPass h k a) (M.1 19))) := gRC.row (by decide) hr
      have f2 : gF [19, 95] [0] M (zwI (zrowI M 19 (eC (gPass h k a) (M.1 19))) 89 0 (nI 0)) := gF.w9 (gF.rI gF.r (by decide) (by decide)) (by decide)
      have hm1 := (gW.fr f2 (by decide) W0).2.2.1
      have hA1 := gA_pass hH (n := k) hA
      generalize hM2 : zwI (zrowI M 19 (eC (gPass h k a) (M.1 19))) 89 0 (nI 0) = M2 at f2 hm1
      refine ⟨nI (gIn (gPass h k a) b), zrowI M 19 (eC (gPass h k a) (M.1 19)), zrowI (zrowI M2 95 (gsv (encM h a t) (M2.1 95) 0 56)) 91 (encM h a t), ?_, ?_, ?_⟩
      · rw [r0_1, r0_3, r0_4, c_hasBath hr hH hb]
        simp (disch := omega) only [zlet_ok, zcl_ok, zl_lit, zl_m1, nI_add, zald_nI, nI_ltE, nI_leE, nI_eqE, zm1_lt', zm1_le', zm1_nlt', zm1_nle', zm1_ne, zm1_ne', zm1_add1, gwI, grI_rI, zrI_s, zrI_n, zrI_L, gwL, grL_rL, zrL_s, zrL_n, zrL_I, Nat.zero_add, ↓reduceIte, if_true, if_false, gB_0, gB_1, gB_01, zchk_t, gB_1e, eq_self, gcle, gcnle, gclt, gcnlt, gcne, not_true_eq_false, not_false_eq_true, true_or, or_true, false_or, or_false, true_and, and_true, false_and, and_false, c_copy gLab_t gLab_l hc, c_passes gLab_t hr hH hA (n := k), mf_X3_insideOf, gLab_t.1, gLab_t.2.1, c_hasBath hr1 hH hb]
        simp (disch := omega) only [zlet_ok, zcl_ok, zl_lit, zl_m1, nI_add, zald_nI, nI_ltE, nI_leE, nI_eqE, zm1_lt', zm1_le', zm1_nlt', zm1_nle', zm1_ne, zm1_ne', zm1_add1, gwI, grI_rI, zrI_s, zrI_n, zrI_L, gwL, grL_rL, zrL_s, zrL_n, zrL_I, Nat.zero_add, ↓reduceIte, if_true, if_false, gB_0, gB_1, gB_01, zchk_t, gB_1e, eq_self, gcle, gcnle, gclt, gcnlt, gcne, not_true_eq_false, not_false_eq_true, true_or, or_true, false_or, or_false, true_and, and_true, false_and, and_false, eC, eC_ins]
      · rw [hM2, ← grI_id hm1]
        have hy : mf_X12_isIn gR (nI k) (nI 0) (nI 200) (zrowI M2 91 (encM h a t)) = some (nI 1, zrowI M2 91 (encM h a t)) := m_isIn (n := 201) hk (by decide)
        simp (disch := omega) only [zlet_ok, zcl_ok, zl_lit, zl_m1, nI_add, zald_nI, nI_ltE, nI_leE, nI_eqE, zm1_lt', zm1_le', zm1_nlt', zm1_nle', zm1_ne, zm1_ne', zm1_add1, gwI, grI_rI, zrI_s, zrI_n, zrI_L, gwL, grL_rL, zrL_s, zrL_n, zrL_I, Nat.zero_add, ↓reduceIte, if_true, if_false, gB_0, gB_1, gB_01, zchk_t, gB_1e, eq_self, gcle, gcnle, gclt, gcnlt, gcne, not_true_eq_false, not_false_eq_true, true_or, or_true, false_or, or_false, true_and, and_true, false_and, and_false, m_isBath hH hb, hy, r89_18, m_save, m_goOn hH hA (n := k), m_sheetsIn hH hA1]
        rw [m_backs (h := h) (t' := t) (a0 := a) (A := 95) (n1 := 56) (off := 0) (by decide) (by decide) (by decide) (fun k hk => by
          rw [zrI_s]; exact gsv_in hk)]
        simp (disch := omega) only [zlet_ok, zcl_ok, zl_lit, zl_m1, nI_add, zald_nI, nI_ltE, nI_leE, nI_eqE, zm1_lt', zm1_le', zm1_nlt', zm1_nle', zm1_ne, zm1_ne', zm1_add1, gwI, grI_rI, zrI_s, zrI_n, zrI_L, gwL, grL_rL, zrL_s, zrL_n, zrL_I, Nat.zero_add, ↓reduceIte, if_true, if_false, gB_0, gB_1, gB_01, zchk_t, gB_1e, eq_self, gcle, gcnle, gclt, gcnlt, gcne, not_true_eq_false, not_false_eq_true, true_or, or_true, false_or, or_false, true_and, and_true, false_and, and_false]
        rw [grI_id hm1]
      · rw [grI_comm (by decide), grI_id hm1]
        exact gF.rI f2 (by decide) (by decide)
    · have hm1 := (gW.fr fz (by decide) W0).2.2.1
      generalize hM2 : zwI M 89 0 (nI 0) = M2 at fz hm1
      refine ⟨zm1, M, M2, ?_, ?_, fz⟩
      · rcases ho with e | e
        · simp (disch := omega) only [zlet_ok, zcl_ok, zl_lit, zl_m1, nI_add, zald_nI, nI_ltE, nI_leE, nI_eqE, zm1_lt', zm1_le', zm1_nlt', zm1_nle', zm1_ne, zm1_ne', zm1_add1, gwI, grI_rI, zrI_s, zrI_n, zrI_L, gwL, grL_rL, zrL_s, zrL_n, zrL_I, Nat.zero_add, ↓reduceIte, if_true, if_false, gB_0, gB_1, gB_01, zchk_t, gB_1e, eq_self, gcle, gcnle, gclt, gcnlt, gcne, not_true_eq_false, not_false_eq_true, true_or, or_true, false_or, or_false, true_and, and_true, false_and, and_false, r0_1, c_hasBath hr hH hb, e]
        · have e2 : ¬ y < nI 0 := by
            rw [Int32.lt_iff_toInt_lt, nI_toInt (by omega)]
            rw [Int32.le_iff_toInt_le, nI_toInt (by omega)] at e
            omega
          have e3 : ¬ y ≤ nI 200 := by
            rw [Int32.le_iff_toInt_le, nI_toInt (by omega)]
            rw [Int32.le_iff_toInt_le, nI_toInt (by omega)] at e
            omega
          simp (disch := omega) only [zlet_ok, zcl_ok, zl_lit, zl_m1, nI_add, zald_nI, nI_ltE, nI_leE, nI_eqE, zm1_lt', zm1_le', zm1_nlt', zm1_nle', zm1_ne, zm1_ne', zm1_add1, gwI, grI_rI, zrI_s, zrI_n, zrI_L, gwL, grL_rL, zrL_s, zrL_n, zrL_I, Nat.zero_add, ↓reduceIte, if_true, if_false, gB_0, gB_1, gB_01, zchk_t, gB_1e, eq_self, gcle, gcnle, gclt, gcnlt, gcne, not_true_eq_false, not_false_eq_true, true_or, or_true, false_or, or_false, true_and, and_true, false_and, and_false, r0_1, c_hasBath hr hH hb, e2, e3]
      · rw [hM2, ← grI_id hm1]
        have hy : mf_X12_isIn gR y (nI 0) (nI 200) (zrowI M2 91 (encM h a t)) = some (nI 0, zrowI M2 91 (encM h a t)) := m_isIn_n (n := 201) (by decide) ho
        simp (disch := omega) only [zlet_ok, zcl_ok, zl_lit, zl_m1, nI_add, zald_nI, nI_ltE, nI_leE, nI_eqE, zm1_lt', zm1_le', zm1_nlt', zm1_nle', zm1_ne, zm1_ne', zm1_add1, gwI, grI_rI, zrI_s, zrI_n, zrI_L, gwL, grL_rL, zrL_s, zrL_n, zrL_I, Nat.zero_add, ↓reduceIte, if_true, if_false, gB_0, gB_1, gB_01, zchk_t, gB_1e, eq_self, gcle, gcnle, gclt, gcnlt, gcne, not_true_eq_false, not_false_eq_true, true_or, or_true, false_or, or_false, true_and, and_true, false_and, and_false, m_isBath hH hb, hy]
  · have hm1 := (gW.fr fz (by decide) W0).2.2.1
    generalize hM2 : zwI M 89 0 (nI 0) = M2 at fz hm1
    refine ⟨zm1, M, M2, ?_, ?_, fz⟩
    · simp (disch := omega) only [zlet_ok, zcl_ok, zl_lit, zl_m1, nI_add, zald_nI, nI_ltE, nI_leE, nI_eqE, zm1_lt', zm1_le', zm1_nlt', zm1_nle', zm1_ne, zm1_ne', zm1_add1, gwI, grI_rI, zrI_s, zrI_n, zrI_L, gwL, grL_rL, zrL_s, zrL_n, zrL_I, Nat.zero_add, ↓reduceIte, if_true, if_false, gB_0, gB_1, gB_01, zchk_t, gB_1e, eq_self, gcle, gcnle, gclt, gcnlt, gcne, not_true_eq_false, not_false_eq_true, true_or, or_true, false_or, or_false, true_and, and_true, false_and, and_false, r0_1, c_hasBath_n hr ho]
    · rw [hM2, ← grI_id hm1]
      simp (disch := omega) only [zlet_ok, zcl_ok, zl_lit, zl_m1, nI_add, zald_nI, nI_ltE, nI_leE, nI_eqE, zm1_lt', zm1_le', zm1_nlt', zm1_nle', zm1_ne, zm1_ne', zm1_add1, gwI, grI_rI, zrI_s, zrI_n, zrI_L, gwL, grL_rL, zrL_s, zrL_n, zrL_I, Nat.zero_add, ↓reduceIte, if_true, if_false, gB_0, gB_1, gB_01, zchk_t, gB_1e, eq_self, gcle, gcnle, gclt, gcnlt, gcne, not_true_eq_false, not_false_eq_true, true_or, or_true, false_or, or_false, true_and, and_true, false_and, and_false, m_isBath_n hH ho]
