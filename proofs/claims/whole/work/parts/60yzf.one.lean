/-! SENTENCE: a ONE, read by both -/
theorem mA_said {d : Nat} {M : zMem} : (mg_X12a (d + 1)).2.2.1 gR 89 M = zcl (mf_X12_isSign gR 89 (nI 40) M) fun r2 M1 => mf_X12_readSaid_l10 gR (mg_X12a d).1 (mg_X12a d).2.1 (mg_X12a d).2.2.1 (mg_X12a d).2.2.2.1 (mg_X12a d).2.2.2.2 89 zF r2 (nI 13) M1 := rfl
theorem mA_not {d : Nat} {M : zMem} : (mg_X12a (d + 1)).2.2.2.1 gR 89 M = zcl ((mg_X12a d).2.2.1 gR 89 M) fun r2 M1 => if r2 = nI 0 then some (nI 0, M1) else zcl (mf_X12_saysOne gR 89 (nI 1) (M1.1 89 51) (nI 0) (nI 0) M1) fun r5 M4 => zlet (zwI M4 89 51 r5) fun M6 => some (nI 1, M6) := rfl
theorem mA_br {d : Nat} {M : zMem} : (mg_X12a (d + 1)).2.2.2.2 gR 89 M = zcl ((mg_X12a d).1 gR 89 M) fun r2 M1 => if r2 = nI 0 then some (nI 0, M1) else zcl (mf_X12_isSign gR 89 (nI 41) M1) fun r5 M4 => if r5 = nI 0 then zcl (mf_X12_bad gR 89 (nI 1) M4) fun r10 M9 => zchk (r10 = nI 0 ∨ r10 = nI 1) (some (r10, M9)) else zcl (mf_X12_go gR 89 M4) fun _ M7 => some (nI 1, M7) := rfl
theorem m8_one {d : Nat} {x : Int32} {M : zMem} : (mg_X8 (d + 1)).2 gR 25 1 4 x M = mf_X8_readOne gR (mg_X8 d).1 (mg_X8 d).2 25 1 4 x M := rfl
def gYk (y : Nat) : Nat := if 13 ≤ y ∧ y ≤ 23 then y else 24
theorem m_rs10 {tl lim : Nat} {tb : Nat → Nat} {k : gTk} {Mc Mr : zMem} {f1 f2 f3 f4 f5 : zRR → Nat → zMem → Option (Int32 × zMem)} {r : Int32} (S : gTS tl lim tb k Mc Mr) : ∀ (m i f : Nat), i + m = 24 → 13 ≤ i → m < f → (∀ j, 13 ≤ j → j < i → gKy k ≠ j) → mf_X12_readSaid_l10 gR f1 f2 f3 f4 f5 89 f r (nI i) Mr = mf_X12_readSaid_b30 gR f1 f2 f3 f4 f5 89 r (nI (gYk (gKy k))) Mr
  | 0, i, f + 1, hi, h13, _, hno => by
    have lk := gKy_le (k := k)
    have e : i = 24 := by omega
    have e2 : gYk (gKy k) = 24 := by
      unfold gYk
      by_cases q : 13 ≤ gKy k ∧ gKy k ≤ 23
      · exact absurd rfl (hno (gKy k) q.1 (by omega))
      · rw [if_neg q]
    rw [mf_X12_readSaid_l10, e2, e]
    simp only [zl_lit]
    rw [if_pos ((nI_ltI (by omega) (by omega)).mpr (by omega))]
  | m + 1, i, f + 1, hi, h13, hf, hno => by
    rw [mf_X12_readSaid_l10]
    simp only [zl_lit]
    rw [if_neg (by rw [nI_ltI (by omega) (by omega)]; omega), m_isWd S (by omega), zcl_ok]
    by_cases e : gKy k = i
    · have e2 : gYk (gKy k) = i := by unfold gYk; rw [if_pos (by omega), e]
      rw [decide_eq_true e, if_neg gB_t0, e2]
    · rw [decide_eq_false e, if_pos gB_f0, nI_add]
      exact m_rs10 S m (i + 1) f (by omega) (by omega) (by omega) (fun j h1 h2 => by
        by_cases z : j = i
        · rw [z]; exact e
        · exact hno j h1 (by omega))
/-- a leaf is laid by both -/
theorem k_leafZ {tl lim : Nat} {tb : Nat → Nat} {h : zN} {n o w y x v n0 o0 : Nat} {st : List Nat} {K A B : zN} {k : gTk} {Mc Mr Mc0 Mr0 : zMem} {cf cs p1 p2 p3 : Int32} (S : gTS tl lim tb k Mc Mr) (Z : gZI h n o (w + 1) st K A B Mc Mr) (hy : 14 ≤ y) (hy2 : y ≤ 23) (h5 : y = 18 → x < h 0) (h6 : y = 19 → x < h 1) (h7 : 20 ≤ y → (x = 60 ∨ x = 61 ∨ x = 62) ∧ v ≤ 999) (g1 : cf = nI x) (g2 : cs = nI v) (hx : x < 2 ^ 20) (hv : v < 2 ^ 20) (g3 : (y = 18 ∨ y = 19) → p1 = nI x) (g4 : 20 ≤ y → p2 = nI v) (g5 : 20 ≤ y → p3 = nI x) (ho : o0 < o) (hs : n + 2 + st.length ≤ 2 * o) (hsl : n + 2 + 2 * o0 ≤ 2 * o + n0) (fc : gF gIz [] Mc0 Mc) (fm : gF gJz gFz Mr0 Mr) : gZO tl lim tb h n0 o0 w st Mc0 Mr0 (zcl (mf_X8_readSaying_b81 gR 25 1 4 (nI y) cf cs Mc) fun r16 M15 => zchk (r16 = nI 0 ∨ r16 = nI 1) (some (r16, M15))) (zcl (mf_X12_saysOne gR 89 (nI 50 + nI y) p1 p2 p3 Mr) fun r M4 => zlet (zwI M4 89 51 r) fun M6 => zlet (zwI M6 89 50 (M6.1 89 50 - nI 1)) fun M34 => zchk (nI 1 = nI 0 ∨ nI 1 = nI 1) (some (nI 1, M34))) := by
  have ho20 := Z.2.2.2.2.2.2.2.2.2.2
  have gy : gNk y = 50 + y := by unfold gNk; rw [if_neg (by omega), if_neg (by omega), if_neg (by omega)]
  have hl1 : (n :: st).length = st.length + 1 := rfl
  obtain ⟨Mc2, Mr2, c1, c2, c3, c4, c5⟩ := k_addZ (k := y) (x := x) (y := v) (cf := cf) (cs := cs) (p1 := p1) (p2 := p2) (p3 := p3) (st' := n :: st) Z (by omega) (by omega) hy2 (fun q => by omega) (fun q => by omega) h5 h6 h7 (fun _ => g1) (fun _ => g2) (fun q => g3 (by omega)) (fun q => g4 (by omega)) g5 (by rw [if_neg (by omega), if_neg (by omega)]) (by omega)
  rw [gy] at c2
  have S2 := S.fr c4 (by decide) c5 (by decide) (by decide)
  have f51 : gF [] [50, 51] Mr2 (zwI (zwI Mr2 89 51 (nI n)) 89 50 (nI w)) := gF.w9 (gF.w9 gF.r (by decide)) (by decide)
  have x50 : (zwI Mr2 89 51 (nI n)).1 89 50 = nI (w + 1) := by rw [zwI_s, upd_n (by decide)]; exact c3.2.2.2.2.2.1
  refine Or.inl ⟨n, o, uN K n y, uN A n x, uN B n v, k, Mc2, zwI (zwI Mr2 89 51 (nI n)) 89 50 (nI w), ?_, ?_, S2.fr (gF.r (ids := []) (ks := [])) (by decide) f51 (by decide) (by decide), ?_, ?_, ho, hsl, fc.trans (c4.mono (by decide) (by decide)), fm.trans ((c5.mono (by decide) (by decide)).trans (f51.mono (by decide) (by decide)))⟩
  · unfold mf_X8_readSaying_b81
    simp only [zl_lit, zl_m1]
    rw [if_neg (by rw [g1, zm1_ne (by omega)]; exact fun q => q), if_neg (by rw [g2, zm1_ne (by omega)]; exact fun q => q), c1, zcl_ok, if_neg (by decide +kernel), zcl_ok, zchk_ok (Or.inr rfl)]
  · rw [nI_add, c2, zcl_ok, zlet_ok, x50, nI_subE (by omega), Nat.add_sub_cancel, zlet_ok, zchk_ok (Or.inr rfl)]
  · obtain ⟨z1, z2, z3, z4, z5, z6, z7, z8, z9, z10, z11⟩ := c3
    refine ⟨z1, z2, z3, ?_, ?_, ?_, ?_, z8, z9, z10, z11⟩
    · rw [f51.2.2 48 (by decide)]; exact z4
    · rw [f51.2.2 49 (by decide)]; exact z5
    · rw [zwI_s, upd_s]
    · rw [f51.1 113 (by decide) (by decide)]; exact z7
  · rw [zwI_s, upd_n (by decide), zwI_s, upd_s]
/-- what ends every ONE of the reference -/
def gEn9 (r : Int32) (M : zMem) : Option (Int32 × zMem) := zlet (zwI M 89 50 (M.1 89 50 - nI 1)) fun M34 => zchk (r = nI 0 ∨ r = nI 1) (some (r, M34))
theorem gEn9_0 {M : zMem} : gEn9 (nI 0) M = some (nI 0, zwI M 89 50 (M.1 89 50 - nI 1)) := by
  unfold gEn9
  rw [zlet_ok, zchk_ok (Or.inl rfl)]
theorem gBad.f50 {Mc Mr : zMem} {v : Int32} (b : gBad Mc Mr) : gBad Mc (zwI Mr 89 50 v) := by
  unfold gBad at b ⊢
  rw [zwI_s, upd_n (show 10 ≠ 50 by decide), upd_n (show 11 ≠ 50 by decide)]
  exact b
theorem k_bad9 {tl lim : Nat} {tb : Nat → Nat} {h : zN} {n o w : Nat} {st : List Nat} {Mc Mr Mc1 Mr1 : zMem} {rc rm : Option (Int32 × zMem)} (e1 : rc = some (nI 0, Mc1)) (e2 : rm = gEn9 (nI 0) Mr1) (b : gBad Mc1 Mr1) (fc : gF gIz [] Mc Mc1) (fm : gF gJz gFz Mr Mr1) : gZO tl lim tb h n o w st Mc Mr rc rm := by
  rw [gEn9_0] at e2
  exact Or.inr ⟨Mc1, _, e1, e2, b.f50, fc, gF.w9 fm (by decide)⟩
theorem k_saying {tl lim : Nat} {tb : Nat → Nat} {h : zN} {nu : Nat → List Nat} {n o w y n0 o0 : Nat} {st : List Nat} {K A B : zN} {k : gTk} {Mc Mr Mc0 Mr0 : zMem} (hH : gH h) (S : gTS tl lim tb k Mc Mr) (Z : gZI h n o (w + 1) st K A B Mc Mr) (KC : gKC h nu Mc) (KM : gKM h nu Mr) (hy : 14 ≤ y) (hy2 : y ≤ 23) (ho : o0 < o) (hs : n + 2 + st.length ≤ 2 * o) (hsl : n + 2 + 2 * o0 ≤ 2 * o + n0) (fc : gF gIz [] Mc0 Mc) (fm : gF gJz gFz Mr0 Mr) : gZO tl lim tb h n0 o0 w st Mc0 Mr0 (zcl (mf_X8_readSaying gR 25 1 4 (nI y) Mc) fun r16 M15 => zchk (r16 = nI 0 ∨ r16 = nI 1) (some (r16, M15))) (if nI 18 ≤ nI y then (if nI 20 ≤ nI y then (zcl (mf_X12_readCompare gR 89 (nI y) Mr) fun r22 M21 => gEn9 r22 M21) else (zcl (mf_X12_readOf gR 89 (nI y) Mr) fun r24 M23 => gEn9 r24 M23)) else (zcl (mf_X12_saysOne gR 89 (nI 50 + nI y) (nI 0) (nI 0) (nI 0) Mr) fun r26 M25 => zlet (zwI M25 89 51 r26) fun M27 => gEn9 (nI 1) M27)) := by
  obtain ⟨k0, k1, k2, k3, k4, k5, kh, kl, ka, kp⟩ := id hH
  have ne : ∀ p q : Nat, p < 100 → q < 100 → p ≠ q → ¬ nI p = nI q := fun p q x y z => by rw [nI_eq (by omega) (by omega)]; exact z
  unfold mf_X8_readSaying
  simp only [zl_lit, zl_m1]
  by_cases y20 : 20 ≤ y
  · rw [if_neg (ne y 18 (by omega) (by omega) (by omega)), if_neg (ne y 19 (by omega) (by omega) (by omega)), if_neg (by rw [nI_ltI (by omega) (by omega)]; omega), if_pos (by rw [nI_leI (by omega) (by omega)]; omega), if_pos (by rw [nI_leI (by omega) (by omega)]; omega)]
    have sg : ∀ c, c < 1000 → mf_X10_isSign gR 1 (nI c) Mc = some (gB (decide (k.1 = 3 ∧ k.2.2.1 = c)), Mc) := fun c hc => c_isSg S hc
    have sm : ∀ c, c < 1000 → mf_X12_isSign gR 89 (nI c) Mr = some (gB (decide (k.1 = 3 ∧ k.2.2.1 = c)), Mr) := fun c hc => m_isSg S hc
    unfold mf_X10_passComparing mf_X12_readCompare
    simp only [zl_lit, zl_m1, zlet_ok]
    rw [sg 60 (by omega), sm 60 (by omega), zcl_ok, zcl_ok, sg 61 (by omega), sm 61 (by omega), zcl_ok, zcl_ok, sg 62 (by omega), sm 62 (by omega), zcl_ok, zcl_ok]
    by_cases e : k.1 = 3 ∧ (k.2.2.1 = 60 ∨ k.2.2.1 = 61 ∨ k.2.2.1 = 62)
    · obtain ⟨e3, e4⟩ := e
      have x6 : Mc.1 1 6 = nI k.2.2.1 := by
        rcases S.2.2.2.1 with ⟨z, _⟩ | ⟨z, _⟩ | ⟨z, _⟩ | ⟨_, _, _, _, z⟩ | ⟨z, _⟩
        · omega
        · omega
        · omega
        · exact z
        · omega
      have x9 : Mr.1 89 9 = nI k.2.2.1 := by
        rcases S.2.2.2.2.2.2.2.2.1 with ⟨z, _⟩ | ⟨z, _⟩ | ⟨z, _⟩ | ⟨_, _, _, z⟩ | ⟨z, _⟩
        · omega
        · omega
        · omega
        · exact z
        · omega
      have cc : ∀ X Y Z' U : Option (Int32 × zMem), (if gB (decide (k.1 = 3 ∧ k.2.2.1 = 60)) = nI 0 then (if gB (decide (k.1 = 3 ∧ k.2.2.1 = 61)) = nI 0 then (if gB (decide (k.1 = 3 ∧ k.2.2.1 = 62)) = nI 0 then X else Y) else Y) else Y) = Y := fun X Y Z' U => by
        rcases e4 with q | q | q
        · rw [if_neg (show ¬ gB (decide (k.1 = 3 ∧ k.2.2.1 = 60)) = nI 0 by rw [decide_eq_true ⟨e3, q⟩]; exact gB_t0)]
        · by_cases p : gB (decide (k.1 = 3 ∧ k.2.2.1 = 60)) = nI 0
          · rw [if_pos p, if_neg (show ¬ gB (decide (k.1 = 3 ∧ k.2.2.1 = 61)) = nI 0 by rw [decide_eq_true ⟨e3, q⟩]; exact gB_t0)]
          · rw [if_neg p]
        · by_cases p : gB (decide (k.1 = 3 ∧ k.2.2.1 = 60)) = nI 0
          · rw [if_pos p]
            by_cases p2 : gB (decide (k.1 = 3 ∧ k.2.2.1 = 61)) = nI 0
            · rw [if_pos p2, if_neg (show ¬ gB (decide (k.1 = 3 ∧ k.2.2.1 = 62)) = nI 0 by rw [decide_eq_true ⟨e3, q⟩]; exact gB_t0)]
            · rw [if_neg p2]
          · rw [if_neg p]
      rw [cc _ _ (some (nI 0, Mc)) (some (nI 0, Mc)), cc _ _ (some (nI 0, Mc)) (some (nI 0, Mc))]
      unfold mf_X10_passComparing_b40 mf_X12_readCompare_b33
      simp only [zl_lit, zl_m1, zlet_ok]
      obtain ⟨ka, Mca, Mra, a1, a2, a3, a4, a5, a6⟩ := k_adv S (by omega) (by omega)
      have hsm : k.2.2.1 < 100 := by omega
      rw [a1, a2, zcl_ok, zcl_ok, zcl_ok, x6, x9, if_neg (show ¬ nI k.2.2.1 = zm1 by rw [zm1_ne (by omega)]; exact fun q => q)]
      have gc := fc.trans (a5.mono (ids' := gIz) (ks' := []) (by decide) (by decide))
      have gm := fm.trans (a6.mono (ids' := gJz) (ks' := gFz) (by decide) (by decide))
      rcases k_num (lo := 0) (hi := 999) a3 (by omega) (by omega) with ⟨v, kb, Mcb, Mrb, u1, u2, u3, b1, b2, b3, b4, b5, b6, b7⟩ | ⟨Mcb, Mrb, b1, b2, b3, b4, b5⟩
      · rw [b1, b2, zcl_ok, zcl_ok, if_neg (by decide +kernel), b3]
        unfold mf_X8_readSaying_b79
        have fin := k_leafZ (y := y) (x := k.2.2.1) (v := v) (cf := nI k.2.2.1) (cs := nI v) (p1 := nI 0) (p2 := nI v) (p3 := nI k.2.2.1) b4 (Z.fr (a5.trans b6) (by decide) ((a6.mono (ids' := [89]) (ks' := [5, 6, 7, 8, 9, 13]) (by decide) (by decide)).trans b7) (by decide) (by decide)) hy hy2 (fun q => by omega) (fun q => by omega) (fun _ => ⟨e4, u3⟩) rfl rfl (by omega) (by omega) (fun q => by omega) (fun _ => rfl) (fun _ => rfl) ho hs hsl (gc.trans (b6.mono (by decide) (by decide))) (gm.trans (b7.mono (by decide) (by decide)))
        have eq9 : (zcl (zcl (mf_X12_saysOne gR 89 (nI 50 + nI y) (nI 0) (nI v) (nI k.2.2.1) Mrb) fun r19 M18 => some (nI 1, zwI M18 89 51 r19)) fun r22 M21 => gEn9 r22 M21) = (zcl (mf_X12_saysOne gR 89 (nI 50 + nI y) (nI 0) (nI v) (nI k.2.2.1) Mrb) fun r M4 => zlet (zwI M4 89 51 r) fun M6 => zlet (zwI M6 89 50 (M6.1 89 50 - nI 1)) fun M34 => zchk (nI 1 = nI 0 ∨ nI 1 = nI 1) (some (nI 1, M34))) := by
          cases mf_X12_saysOne gR 89 (nI 50 + nI y) (nI 0) (nI v) (nI k.2.2.1) Mrb with
          | none => rfl
          | some q => rfl
        rw [eq9]
        exact fin
      · rw [b1, b2, zcl_ok, zcl_ok, if_pos rfl, zcl_ok]
        unfold mf_X8_readSaying_b79 mf_X8_readSaying_b81
        simp only [zl_lit, zl_m1]
        rw [if_neg (show ¬ nI k.2.2.1 = zm1 by rw [zm1_ne (by omega)]; exact fun q => q), if_pos trivial, zcl_ok, zchk_ok (Or.inl rfl)]
        exact k_bad9 rfl rfl b3 (gc.trans (b4.mono (by decide) (by decide))) (gm.trans (b5.mono (by decide) (by decide)))
    · have q60 : ¬ (k.1 = 3 ∧ k.2.2.1 = 60) := fun q => e ⟨q.1, Or.inl q.2⟩
      have q61 : ¬ (k.1 = 3 ∧ k.2.2.1 = 61) := fun q => e ⟨q.1, Or.inr (Or.inl q.2)⟩
      have q62 : ¬ (k.1 = 3 ∧ k.2.2.1 = 62) := fun q => e ⟨q.1, Or.inr (Or.inr q.2)⟩
      obtain ⟨Mc1, Mr1, a1, a2, a3, a4, a5⟩ := k_fail (j := 1) S (fun _ => rfl) (by omega) (by omega)
      rw [decide_eq_false q60, decide_eq_false q61, decide_eq_false q62, if_pos gB_f0, if_pos gB_f0, if_pos gB_f0, if_pos gB_f0, if_pos gB_f0, if_pos gB_f0, a1, a2, zcl_ok, zcl_ok, zcl_ok, if_pos rfl, zchk_ok (Or.inl rfl), zcl_ok]
      unfold mf_X8_readSaying_b79 mf_X8_readSaying_b81
      simp only [zl_lit, zl_m1]
      rw [if_pos trivial, zcl_ok, zchk_ok (Or.inl rfl)]
      exact k_bad9 rfl rfl a3 (fc.trans (a4.mono (by decide) (by decide))) (fm.trans (a5.mono (by decide) (by decide)))
  · by_cases y18 : 18 ≤ y
    · rw [if_pos (show nI 18 ≤ nI y by rw [nI_leI (by omega) (by omega)]; exact y18), if_neg (show ¬ nI 20 ≤ nI y by rw [nI_leI (by omega) (by omega)]; exact y20)]
      have tail : ∀ (v : Nat) (kb : gTk) (Mcb Mrb : zMem), gTS tl lim tb kb Mcb Mrb → (y = 18 → v < h 0) → (y = 19 → v < h 1) → v < 100 → Mrb.1 89 13 = nI v → gF [1] [] Mc Mcb → gF [89] [5, 6, 7, 8, 9, 13] Mr Mrb → gZO tl lim tb h n0 o0 w st Mc0 Mr0 (zcl (mf_X8_readSaying_b81 gR 25 1 4 (nI y) (nI v) (nI 0) Mcb) fun r16 M15 => zchk (r16 = nI 0 ∨ r16 = nI 1) (some (r16, M15))) (zcl (zcl (mf_X12_saysOne gR 89 (nI 50 + nI y) (Mrb.1 89 13) (nI 0) (nI 0) Mrb) fun r5 M4 => zlet (zwI M4 89 51 r5) fun M6 => some (nI 1, M6)) fun r24 M23 => gEn9 r24 M23) := by
        intro v kb Mcb Mrb Sb v0 v1 v100 e13 fcb fmb
        have fin := k_leafZ (y := y) (x := v) (v := 0) (cf := nI v) (cs := nI 0) (p1 := nI v) (p2 := nI 0) (p3 := nI 0) Sb (Z.fr fcb (by decide) fmb (by decide) (by decide)) hy hy2 v0 v1 (fun q => by omega) rfl rfl (by omega) (by omega) (fun _ => rfl) (fun q => by omega) (fun q => by omega) ho hs hsl (fc.trans (fcb.mono (by decide) (by decide))) (fm.trans (fmb.mono (by decide) (by decide)))
        have eq9 : (zcl (zcl (mf_X12_saysOne gR 89 (nI 50 + nI y) (nI v) (nI 0) (nI 0) Mrb) fun r5 M4 => zlet (zwI M4 89 51 r5) fun M6 => some (nI 1, M6)) fun r24 M23 => gEn9 r24 M23) = (zcl (mf_X12_saysOne gR 89 (nI 50 + nI y) (nI v) (nI 0) (nI 0) Mrb) fun r M4 => zlet (zwI M4 89 51 r) fun M6 => zlet (zwI M6 89 50 (M6.1 89 50 - nI 1)) fun M34 => zchk (nI 1 = nI 0 ∨ nI 1 = nI 1) (some (nI 1, M34))) := by
          cases mf_X12_saysOne gR 89 (nI 50 + nI y) (nI v) (nI 0) (nI 0) Mrb with
          | none => rfl
          | some q => rfl
        rw [e13, eq9]
        exact fin
      have bads : ∀ Mcb Mrb, gBad Mcb Mrb → gF [1] [] Mc Mcb → gF [89] [10, 11, 13] Mr Mrb → gZO tl lim tb h n0 o0 w st Mc0 Mr0 (zcl (mf_X8_readSaying_b81 gR 25 1 4 (nI y) zm1 (nI 0) Mcb) fun r16 M15 => zchk (r16 = nI 0 ∨ r16 = nI 1) (some (r16, M15))) (gEn9 (nI 0) Mrb) := by
        intro Mcb Mrb b fcb fmb
        refine k_bad9 ?_ rfl b (fc.trans (fcb.mono (by decide) (by decide))) (fm.trans (fmb.mono (by decide) (by decide)))
        unfold mf_X8_readSaying_b81
        simp only [zl_lit, zl_m1]
        rw [if_pos trivial, zcl_ok, zchk_ok (Or.inl rfl)]
      unfold mf_X12_readOf mf_X12_readThat mf_X12_readBathName
      simp only [zl_lit]
      by_cases e18 : y = 18
      · have e18' : nI y = nI 18 := by rw [e18]
        rw [if_pos e18', if_pos e18', zald_nI (by omega) (by omega), r89_14, KC.1, KM.1]
        rcases k_known (h := h) (first := 0) (n := h 0) S (by omega) (fun i hi => KC.2.2.2 (0 + i) (Or.inl (by omega))) (fun i hi => KM.2.2.2 (0 + i) (Or.inl (by omega))) with ⟨v, kb, Mc2, Mr2, u1, u2, b1, b2, b3, b4, b5, b6, b7⟩ | ⟨Mc2, Mr2, b1, b2, b3, b4, b5⟩
        · rw [b1, b2, zcl_ok, zcl_ok, zchk_ok (Or.inr rfl), zcl_ok, zchk_ok (Or.inr rfl), zcl_ok, if_neg (by decide +kernel)]
          exact tail v kb Mc2 Mr2 b4 (fun _ => u2) (fun q => by omega) (by omega) b3 b6 b7
        · rw [b1, b2, zcl_ok, zcl_ok, zchk_ok (Or.inl rfl), zcl_ok, zchk_ok (Or.inl rfl), zcl_ok, if_pos rfl, zcl_ok]
          exact bads Mc2 Mr2 b3 b4 b5
      · have e19 : y = 19 := by omega
        have e18' : ¬ nI y = nI 18 := ne y 18 (by omega) (by omega) e18
        rw [if_neg e18', if_neg e18', if_pos (show nI y = nI 19 by rw [e19]), zald_nI (by omega) (by omega), r89_14, KC.2.1, KM.2.1]
        rcases k_known (h := h) (first := 6) (n := h 1) S (by omega) (fun i hi => KC.2.2.2 (6 + i) (Or.inr (Or.inl (by omega)))) (fun i hi => KM.2.2.2 (6 + i) (Or.inr (Or.inl (by omega)))) with ⟨v, kb, Mc2, Mr2, u1, u2, b1, b2, b3, b4, b5, b6, b7⟩ | ⟨Mc2, Mr2, b1, b2, b3, b4, b5⟩
        · rw [b1, b2, zcl_ok, zcl_ok, zchk_ok (Or.inr rfl), zcl_ok, if_neg (by decide +kernel)]
          exact tail v kb Mc2 Mr2 b4 (fun q => by omega) (fun _ => u2) (by omega) b3 b6 b7
        · rw [b1, b2, zcl_ok, zcl_ok, zchk_ok (Or.inl rfl), zcl_ok, if_pos rfl, zcl_ok]
          exact bads Mc2 Mr2 b3 b4 b5
    · rw [if_neg (show ¬ nI 18 ≤ nI y by rw [nI_leI (by omega) (by omega)]; exact y18), if_neg (ne y 18 (by omega) (by omega) (by omega)), if_neg (ne y 19 (by omega) (by omega) (by omega)), if_pos (show nI y < nI 20 by rw [nI_ltI (by omega) (by omega)]; omega)]
      exact k_leafZ (y := y) (x := 0) (v := 0) (cf := nI 0) (cs := nI 0) (p1 := nI 0) (p2 := nI 0) (p3 := nI 0) S Z hy hy2 (fun q => by omega) (fun q => by omega) (fun q => by omega) rfl rfl (by omega) (by omega) (fun q => by omega) (fun q => by omega) (fun q => by omega) ho hs hsl fc fm
