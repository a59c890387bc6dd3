/-! BOOK: its LINES, read by both -/
def gKC (h : zN) (nu : Nat → List Nat) (M : zMem) : Prop := M.1 4 0 = nI (h 0) ∧ M.1 4 1 = nI (h 1) ∧ M.1 4 2 = nI (h 2) ∧ ∀ j, gTold h j → gWd (nu j) ∧ M.2 8 j = lN (gPk 32 (nu j) 0)
def gKM (h : zN) (nu : Nat → List Nat) (M : zMem) : Prop := M.1 91 0 = nI (h 0) ∧ M.1 91 1 = nI (h 1) ∧ M.1 91 2 = nI (h 2) ∧ ∀ j, gTold h j → gWd (nu j) ∧ M.2 98 j = lN (gPk 27 (nu j) 0)
theorem gKC.fr {h : zN} {nu : Nat → List Nat} {M M1 : zMem} {ids ks : List Nat} (hf : gF ids ks M M1) (hi : ∀ o ∈ [4, 8], o ∉ ids) (K : gKC h nu M) : gKC h nu M1 := by
  obtain ⟨a, b, c, d⟩ := K
  unfold gKC
  rw [hf.1 4 (hi 4 (by decide)) (by decide), hf.2.1 8 (hi 8 (by decide))]
  exact ⟨a, b, c, d⟩
theorem gKM.fr {h : zN} {nu : Nat → List Nat} {M M1 : zMem} {ids ks : List Nat} (hf : gF ids ks M M1) (hi : ∀ o ∈ [91, 98], o ∉ ids) (K : gKM h nu M) : gKM h nu M1 := by
  obtain ⟨a, b, c, d⟩ := K
  unfold gKM
  rw [hf.1 91 (hi 91 (by decide)) (by decide), hf.2.1 98 (hi 98 (by decide))]
  exact ⟨a, b, c, d⟩
/-- what a LINE of a BOOK may say -/
def gBK (h : zN) (k x : Nat) : Prop := k ≤ 4 ∧ (k = 4 → 1 ≤ x ∧ x ≤ 60) ∧ (k < 4 → gVal h k x)
theorem gBK_x {h : zN} {k x : Nat} (hH : gH h) (B : gBK h k x) : x ≤ 60 := by
  obtain ⟨k0, k1, k2, k3, k4, k5, kh, kl, ka, kp⟩ := id hH
  obtain ⟨b1, b2, b3⟩ := B
  by_cases e : k = 4
  · exact (b2 e).2
  · have := b3 (by omega)
    unfold gVal at this
    split at this <;> omega
def gBC (n : Nat) (K X : zN) (M : zMem) : Prop := M.1 30 2 = nI n ∧ ∀ i, i < n → M.1 31 i = nI (6 + K i) ∧ M.1 32 i = nI (X i)
def gBM (n : Nat) (K X : zN) (M : zMem) : Prop := ∀ i, i < n → M.1 111 (2 * i) = nI (K i) ∧ M.1 111 (2 * i + 1) = nI (X i)
theorem gBC.fr {n : Nat} {K X : zN} {M M1 : zMem} {ids ks : List Nat} (hf : gF ids ks M M1) (hi : ∀ o ∈ [30, 31, 32], o ∉ ids) (B : gBC n K X M) : gBC n K X M1 := by
  unfold gBC
  rw [hf.1 30 (hi 30 (by decide)) (by decide), hf.1 31 (hi 31 (by decide)) (by decide), hf.1 32 (hi 32 (by decide)) (by decide)]
  exact B
theorem gBM.fr {n : Nat} {K X : zN} {M M1 : zMem} {ids ks : List Nat} (hf : gF ids ks M M1) (hi : 111 ∉ ids) (B : gBM n K X M) : gBM n K X M1 := by
  unfold gBM
  rw [hf.1 111 hi (by decide)]
  exact B
abbrev gIb : List Nat := [1, 30, 31, 32]
abbrev gJb : List Nat := [89, 111]
abbrev gFb : List Nat := [5, 6, 7, 8, 9, 10, 11, 13]
/-- the class's frame while a BOOK is read -/
def gG (M M1 : zMem) : Prop := gF gIb [] M M1 ∧ ∀ q, q ≠ 2 → M1.1 30 q = M.1 30 q
theorem gG.r {M : zMem} : gG M M := ⟨gF.r, fun _ _ => rfl⟩
theorem gG.trans {M M1 M2 : zMem} (h1 : gG M M1) (h2 : gG M1 M2) : gG M M2 := ⟨h1.1.trans h2.1, fun q hq => (h2.2 q hq).trans (h1.2 q hq)⟩
theorem gG.t1 {M M1 : zMem} (h : gF [1] [] M M1) : gG M M1 := ⟨h.mono (by decide) (by decide), fun q _ => by rw [h.1 30 (by decide) (by decide)]⟩
/-- how a LINE comes out -/
def gBL (tl lim : Nat) (tb : Nat → Nat) (h : zN) (n : Nat) (Mc0 Mr0 : zMem) (rc rm : Option (Int32 × zMem)) : Prop := (∃ (K X : zN) (k1 : gTk) (Mc1 Mc2 Mr1 : zMem), rc = some (nI 1, Mc1) ∧ mf_X10_passSign gR 1 (nI 59) Mc1 = some (nI 1, Mc2) ∧ rm = some (nI 1, Mr1) ∧ n < 40 ∧ gTS tl lim tb k1 Mc2 Mr1 ∧ gBC (n + 1) K X Mc2 ∧ gBM (n + 1) K X Mr1 ∧ (∀ i, i < n + 1 → gBK h (K i) (X i)) ∧ gG Mc0 Mc2 ∧ gF gJb gFb Mr0 Mr1) ∨ (∃ Mc1 Mr1, (rc = some (nI 0, Mc1) ∨ ∃ Mcx, rc = some (nI 1, Mcx) ∧ mf_X10_passSign gR 1 (nI 59) Mcx = some (nI 0, Mc1)) ∧ rm = some (nI 0, Mr1) ∧ gBad Mc1 Mr1 ∧ gG Mc0 Mc1 ∧ gF gJb gFb Mr0 Mr1)
/-- the reference, once a LINE's last word is read -/
def gBtl (n : Nat) (r : Int32) (M : zMem) : Option (Int32 × zMem) := zcl (mf_X12_keep gR 89 (nI (2 * n + 1)) r M) fun r16 M15 => if r16 = nI 0 then some (nI 0, M15) else zcl (mf_X12_readEnd gR 89 M15) fun r19 M18 => if r19 = nI 0 then some (nI 0, M18) else some (nI 1, M18)
theorem gBtl_0 {n : Nat} {M : zMem} : gBtl n (nI 0) M = some (nI 0, M) := by
  unfold gBtl mf_X12_keep
  simp only [zl_lit, if_true]
  rw [zchk_ok (Or.inl trivial), zcl_ok, if_pos rfl]
theorem c_b94_0 {i3 : Int32} {M : zMem} : mf_X0_readLine_b94 gR 30 1 4 i3 zm1 M = some (nI 0, M) := by
  unfold mf_X0_readLine_b94
  simp only [zl_lit, zl_m1, if_true]
theorem k_bfin {tl lim : Nat} {tb : Nat → Nat} {k : gTk} {Mc Mr Mc0 Mr0 : zMem} {h K X : zN} {n κ v : Nat} (S : gTS tl lim tb k Mc Mr) (hH : gH h) (hn : n < 40) (B : gBC n K X Mc) (C : gBM n K X Mr) (V : ∀ i, i < n → gBK h (K i) (X i)) (h13 : Mr.1 89 13 = nI v) (hv : gBK h κ v) (h0 : Mr.1 111 (2 * n) = nI κ) (fc : gG Mc0 Mc) (fm : gF gJb gFb Mr0 Mr) : gBL tl lim tb h n Mc0 Mr0 (mf_X0_readLine_b94 gR 30 1 4 (nI (6 + κ)) (nI v) Mc) (gBtl n (nI 1) Mr) := by
  have hx := gBK_x hH hv
  obtain ⟨b1, b2⟩ := B
  have b1' : (zwI Mc 31 n (nI (6 + κ))).1 30 2 = nI n := by rw [zwI_n (by decide)]; exact b1
  have b1'' : (zwI (zwI Mc 31 n (nI (6 + κ))) 32 n (nI v)).1 30 2 = nI n := by rw [zwI_n (by decide)]; exact b1'
  have ec : mf_X0_readLine_b94 gR 30 1 4 (nI (6 + κ)) (nI v) Mc = some (nI 1, zwI (zwI (zwI Mc 31 n (nI (6 + κ))) 32 n (nI v)) 30 2 (nI (n + 1))) := by
    unfold mf_X0_readLine_b94
    simp only [zl_lit, zl_m1, zlet_ok, r30_0, r30_1]
    rw [if_neg (by rw [zm1_ne (by omega)]; exact fun q => q), b1, zald_nI (by omega) (by omega), b1', zald_nI (by omega) (by omega), b1'', nI_add]
  have em : gBtl n (nI 1) Mr = zcl (mf_X12_readEnd gR 89 (zwI Mr 111 (2 * n + 1) (nI v))) fun r19 M18 => if r19 = nI 0 then some (nI 0, M18) else some (nI 1, M18) := by
    unfold gBtl mf_X12_keep
    simp only [zl_lit, zlet_ok, r89_43]
    rw [if_neg (by decide +kernel), zald_nI (by omega) (by omega), h13, zchk_ok (Or.inr trivial), zcl_ok, if_neg (by decide +kernel)]
  have fC : gF [30, 31, 32] [] Mc (zwI (zwI (zwI Mc 31 n (nI (6 + κ))) 32 n (nI v)) 30 2 (nI (n + 1))) := gF.wI (gF.wI (gF.wI gF.r (by decide) (by decide)) (by decide) (by decide)) (by decide) (by decide)
  have fG : gG Mc (zwI (zwI (zwI Mc 31 n (nI (6 + κ))) 32 n (nI v)) 30 2 (nI (n + 1))) := ⟨fC.mono (by decide) (by decide), fun q hq => by rw [zwI_s, upd_n hq, zwI_n (by decide), zwI_n (by decide)]⟩
  have fM : gF [111] [] Mr (zwI Mr 111 (2 * n + 1) (nI v)) := gF.wI gF.r (by decide) (by decide)
  have S1 := S.fr fC (by decide) fM (by decide) (by decide)
  have B1 : gBC (n + 1) (uN K n κ) (uN X n v) (zwI (zwI (zwI Mc 31 n (nI (6 + κ))) 32 n (nI v)) 30 2 (nI (n + 1))) := by
    refine ⟨by rw [zwI_s, upd_s], fun i hi => ?_⟩
    rw [zwI_n (by decide), zwI_n (by decide), zwI_s, zwI_n (by decide), zwI_s]
    by_cases e : i = n
    · subst e; rw [upd_s, upd_s, uN_s, uN_s]; exact ⟨rfl, rfl⟩
    · rw [upd_n e, upd_n e, uN_n e, uN_n e, zwI_n (by decide)]; exact b2 i (by omega)
  have C1 : gBM (n + 1) (uN K n κ) (uN X n v) (zwI Mr 111 (2 * n + 1) (nI v)) := by
    intro i hi
    rw [zwI_s, upd_n (show 2 * i ≠ 2 * n + 1 by omega)]
    by_cases e : i = n
    · subst e; rw [upd_s, uN_s, uN_s]; exact ⟨h0, rfl⟩
    · rw [upd_n (show 2 * i + 1 ≠ 2 * n + 1 by omega), uN_n e, uN_n e]; exact C i (by omega)
  have V1 : ∀ i, i < n + 1 → gBK h (uN K n κ i) (uN X n v i) := by
    intro i hi
    by_cases e : i = n
    · subst e; rw [uN_s, uN_s]; exact hv
    · rw [uN_n e, uN_n e]; exact V i (by omega)
  rw [ec, em]
  rcases k_semi S1 with ⟨k2, Mc2, Mr2, c1, c2, c3, c4, c5, c6⟩ | ⟨Mc2, Mr2, c1, c2, c3, c4, c5⟩
  · rw [c2, zcl_ok, if_neg (by decide +kernel)]
    exact Or.inl ⟨uN K n κ, uN X n v, k2, _, Mc2, Mr2, rfl, c1, rfl, hn, c3, B1.fr c5 (by decide), C1.fr c6 (by decide), V1, (fc.trans fG).trans (gG.t1 c5), (fm.trans (fM.mono (by decide) (by decide))).trans (c6.mono (by decide) (by decide))⟩
  · rw [c2, zcl_ok, if_pos rfl]
    exact Or.inr ⟨Mc2, Mr2, Or.inr ⟨_, rfl, c1⟩, rfl, c3, (fc.trans fG).trans (gG.t1 c4), (fm.trans (fM.mono (by decide) (by decide))).trans (c5.mono (by decide) (by decide))⟩
theorem m_bl1 {tl lim : Nat} {tb : Nat → Nat} {k : gTk} {Mc Mr : zMem} (S : gTS tl lim tb k Mc Mr) {j f : Nat} {i1 : Int32} (hj : j < 4) : mf_X12_readBookLine_l17 gR 89 (f + 1) i1 (nI j) Mr = mf_X12_readBookLine_l17 gR 89 f (if gKy k = 6 + j then nI j else i1) (nI (j + 1)) Mr := by
  rw [mf_X12_readBookLine_l17]
  simp only [zl_lit]
  rw [if_neg (by rw [nI_ltI (by omega) (by omega)]; omega), nI_add, m_isWd S (j := 6 + j) (by omega), zcl_ok]
  unfold mf_X12_readBookLine_b35
  simp only [zl_lit, nI_add]
  by_cases e : gKy k = 6 + j
  · rw [decide_eq_true e, if_neg gB_t0, if_pos e]
  · rw [decide_eq_false e, if_pos gB_f0, if_neg e]
def gBa (y : Nat) : Int32 := if y = 10 then nI 4 else if 6 ≤ y ∧ y ≤ 9 then nI (y - 6) else zm1
theorem m_bl {tl lim : Nat} {tb : Nat → Nat} {k : gTk} {Mc Mr : zMem} (S : gTS tl lim tb k Mc Mr) : ∃ f, mf_X12_readBookLine gR 89 Mr = mf_X12_readBookLine_l17 gR 89 (f + 1) (gBa (gKy k)) (nI 4) Mr := by
  refine ⟨4995, ?_⟩
  have key : ∀ s0 : Int32, mf_X12_readBookLine_b14 gR 89 s0 Mr = mf_X12_readBookLine_l17 gR 89 (4995 + 1) (if gKy k = 6 + 3 then nI 3 else if gKy k = 6 + 2 then nI 2 else if gKy k = 6 + 1 then nI 1 else if gKy k = 6 + 0 then nI 0 else s0) (nI 4) Mr := by
    intro s0
    unfold mf_X12_readBookLine_b14
    simp only [zl_lit]
    rw [show zF = 4995 + 1 + 1 + 1 + 1 + 1 from rfl, m_bl1 S (by omega), m_bl1 S (by omega), m_bl1 S (by omega), m_bl1 S (by omega)]
  unfold mf_X12_readBookLine
  simp only [zl_lit, zl_m1]
  rw [m_isWd S (by omega), zcl_ok]
  unfold gBa
  by_cases e : gKy k = 10
  · rw [decide_eq_true e, if_neg gB_t0, key, if_pos e, if_neg (by omega), if_neg (by omega), if_neg (by omega), if_neg (by omega)]
  · rw [decide_eq_false e, if_pos gB_f0, key, if_neg e]
    by_cases e9 : gKy k = 9
    · rw [if_pos e9, if_pos (by omega), e9]
    by_cases e8 : gKy k = 8
    · rw [if_neg e9, if_pos e8, if_pos (by omega), e8]
    by_cases e7 : gKy k = 7
    · rw [if_neg e9, if_neg e8, if_pos e7, if_pos (by omega), e7]
    by_cases e6 : gKy k = 6
    · rw [if_neg e9, if_neg e8, if_neg e7, if_pos e6, if_pos (by omega), e6]
    · rw [if_neg e9, if_neg e8, if_neg e7, if_neg e6, if_neg (by omega)]
theorem k_bline {tl lim : Nat} {tb : Nat → Nat} {k : gTk} {Mc Mr : zMem} {h K X : zN} {nu : Nat → List Nat} {n : Nat} (S : gTS tl lim tb k Mc Mr) (hH : gH h) (hn : n ≤ 40) (KC : gKC h nu Mc) (KM : gKM h nu Mr) (B : gBC n K X Mc) (h45 : Mr.1 89 45 = nI n) (C : gBM n K X Mr) (V : ∀ i, i < n → gBK h (K i) (X i)) : gBL tl lim tb h n Mc Mr (mf_X0_readLine gR 30 1 4 Mc) (mf_X12_readBookLine gR 89 Mr) := by
  obtain ⟨k0, k1, k2, k3, k4, k5, kh, kl, ka, kp⟩ := id hH
  have fc : gG Mc Mc := gG.r
  have gm : ∀ M1, gF gJb gFb Mr M1 → gF gJb gFb Mr M1 := fun _ q => q
  have hy := gKy_le (k := k)
  have ck := c_key S
  have k1 : gKy k < 24 → k.1 = 1 := fun q => by
    unfold gKy at q
    by_cases z : k.1 = 1
    · exact z
    · rw [if_neg z] at q; omega
  obtain ⟨f, ef⟩ := m_bl S
  rw [ef, mf_X12_readBookLine_l17]
  unfold mf_X0_readLine
  simp only [zl_lit, zl_m1, zlet_ok]
  rw [ck, if_pos (show nI 3 < nI 4 from (nI_ltI (by omega) (by omega)).mpr (by omega))]
  have fail1 : ¬ (6 ≤ gKy k ∧ gKy k ≤ 10) → gBL tl lim tb h n Mc Mr (mf_X0_readLine_b17 gR 30 1 4 Mc) (zcl (mf_X12_bad gR 89 (nI 1) Mr) fun r42 M41 => zchk (r42 = nI 0 ∨ r42 = nI 1) (some (r42, M41))) := fun _ => by
    obtain ⟨Mc1, Mr1, a1, a2, a3, a4, a5⟩ := k_fail (j := 1) S (fun _ => rfl) (by omega) (by omega)
    unfold mf_X0_readLine_b17
    simp only [zl_lit]
    rw [a1, a2, zcl_ok, zcl_ok, zchk_ok (Or.inl rfl), zchk_ok (Or.inl rfl)]
    exact Or.inr ⟨Mc1, Mr1, Or.inl rfl, rfl, a3, fc.trans (gG.t1 a4), gm _ (a5.mono (by decide) (by decide))⟩
  by_cases e24 : gKy k = 24
  · have q1 : gBa (gKy k) = zm1 := by unfold gBa; rw [if_neg (by omega), if_neg (by omega)]
    have q2 : enX 24 (gKy k) = zm1 := if_pos e24
    rw [q1, q2, if_pos (zm1_lt (by omega)), if_pos rfl]
    exact fail1 (by omega)
  rw [enX_ne e24]
  by_cases e6 : gKy k < 6
  · have q1 : gBa (gKy k) = zm1 := by unfold gBa; rw [if_neg (by omega), if_neg (by omega)]
    rw [q1, if_pos ((nI_ltI (by omega) (by omega)).mpr e6), if_pos rfl]
    exact fail1 (by omega)
  rw [if_neg (by rw [nI_ltI (by omega) (by omega)]; exact e6)]
  by_cases e10 : gKy k ≤ 10
  · obtain ⟨κ, hκ, eκ⟩ : ∃ κ, κ ≤ 4 ∧ gKy k = 6 + κ := ⟨gKy k - 6, by omega, by omega⟩
    have q1 : gBa (gKy k) = nI κ := by
      unfold gBa
      by_cases z : κ = 4
      · rw [if_pos (by omega), z]
      · rw [if_neg (by omega), if_pos (by omega), eκ, Nat.add_sub_cancel_left]
    rw [q1, eκ, if_pos (by rw [nI_leI (by omega) (by omega)]; omega), if_neg (show ¬ nI κ = zm1 by rw [zm1_ne (by omega)]; exact fun q => q), B.1, h45]
    by_cases e40 : n < 40
    · rw [if_pos ((nI_ltI (by omega) (by omega)).mpr e40), if_neg (by rw [nI_eq (by omega) (by omega)]; omega)]
      simp only [nI_mulE, nI_add]
      rw [zald_nI (by omega) (by omega), r89_43]
      have f1 : gF [111] [] Mr (zwI Mr 111 (2 * n) (nI κ)) := gF.wI gF.r (by decide) (by decide)
      obtain ⟨ka, Mc1, Mr1, a1, a2, a3, a4, a5, a6⟩ := k_adv (S.fr (gF.r (ids := []) (ks := [])) (by decide) f1 (by decide) (by decide)) (by rw [k1 (by omega)]; decide) (by rw [k1 (by omega)]; decide)
      rw [a1, a2, zcl_ok, zcl_ok]
      have fm1 : gF gJb gFb Mr Mr1 := (f1.mono (by decide) (by decide)).trans (a6.mono (by decide) (by decide))
      have fc1 : gG Mc Mc1 := fc.trans (gG.t1 a5)
      have B1 : gBC n K X Mc1 := B.fr a5 (by decide)
      have C1 : gBM n K X Mr1 := by
        refine gBM.fr a6 (by decide) (fun i hi => ?_)
        rw [zwI_s, upd_n (show 2 * i ≠ 2 * n by omega), upd_n (show 2 * i + 1 ≠ 2 * n by omega)]
        exact C i hi
      have h01 : Mr1.1 111 (2 * n) = nI κ := by rw [a6.1 111 (by decide) (by decide), zwI_s, upd_s]
      have KC1 : gKC h nu Mc1 := KC.fr a5 (by decide)
      have KM1 : gKM h nu Mr1 := (KM.fr f1 (by decide)).fr a6 (by decide)
      have nI_ne : ∀ a b : Nat, a < 100 → b < 100 → a ≠ b → ¬ nI a = nI b := fun a b x y z => by rw [nI_eq (by omega) (by omega)]; exact z
      have foldT : ∀ (r : Int32) (M : zMem), (zcl (mf_X12_keep gR 89 (nI (2 * n + 1)) r M) fun r16 M15 => if r16 = nI 0 then some (nI 0, M15) else zcl (mf_X12_readEnd gR 89 M15) fun r19 M18 => if r19 = nI 0 then some (nI 0, M18) else some (nI 1, M18)) = gBtl n r M := fun _ _ => rfl
      by_cases x4 : κ = 4
      · subst x4
        rw [if_pos rfl, if_neg (nI_ne 4 3 (by omega) (by omega) (by omega)), if_pos rfl]
        rcases k_num (lo := 1) (hi := 60) a3 (by omega) (by omega) with ⟨v, kb, Mc2, Mr2, u1, u2, u3, b1, b2, b3, b4, b5, b6, b7⟩ | ⟨Mc2, Mr2, b1, b2, b3, b4, b5⟩
        · rw [b1, b2, zcl_ok, zcl_ok, foldT]
          exact k_bfin b4 hH e40 (B1.fr b6 (by decide)) (C1.fr b7 (by decide)) V b3 ⟨by omega, fun _ => ⟨u2, u3⟩, fun q => absurd q (by omega)⟩ (by rw [b7.1 111 (by decide) (by decide)]; exact h01) (fc1.trans (gG.t1 b6)) (gm _ (fm1.trans (b7.mono (by decide) (by decide))))
        · rw [b1, b2, zcl_ok, zcl_ok, foldT, gBtl_0, c_b94_0]
          exact Or.inr ⟨Mc2, Mr2, Or.inl rfl, rfl, b3, fc1.trans (gG.t1 b4), gm _ (fm1.trans (b5.mono (by decide) (by decide)))⟩
      rw [if_neg (nI_ne (6 + κ) 10 (by omega) (by omega) (by omega))]
      by_cases x3 : κ = 3
      · subst x3
        rw [if_pos rfl, if_pos rfl]
        unfold mf_X12_readBathName
        simp only [zl_lit]
        rw [zald_nI (by omega) (by omega), r89_14, KC1.1, KM1.1]
        rcases k_known (h := h) (first := 0) (n := h 0) a3 (by omega) (fun i hi => KC1.2.2.2 (0 + i) (Or.inl (by omega))) (fun i hi => KM1.2.2.2 (0 + i) (Or.inl (by omega))) with ⟨v, kb, Mc2, Mr2, u1, u2, b1, b2, b3, b4, b5, b6, b7⟩ | ⟨Mc2, Mr2, b1, b2, b3, b4, b5⟩
        · rw [b1, b2, zcl_ok, zcl_ok, zchk_ok (Or.inr rfl), zcl_ok, foldT]
          exact k_bfin b4 hH e40 (B1.fr b6 (by decide)) (C1.fr b7 (by decide)) V b3 ⟨by omega, fun q => absurd q (by omega), fun _ => u2⟩ (by rw [b7.1 111 (by decide) (by decide)]; exact h01) (fc1.trans (gG.t1 b6)) (gm _ (fm1.trans (b7.mono (by decide) (by decide))))
        · rw [b1, b2, zcl_ok, zcl_ok, zchk_ok (Or.inl rfl), zcl_ok, foldT, gBtl_0, c_b94_0]
          exact Or.inr ⟨Mc2, Mr2, Or.inl rfl, rfl, b3, fc1.trans (gG.t1 b4), gm _ (fm1.trans (b5.mono (by decide) (by decide)))⟩
      · rw [if_neg (nI_ne (6 + κ) 9 (by omega) (by omega) (by omega)), if_neg (nI_ne κ 3 (by omega) (by omega) x3), if_neg (nI_ne κ 4 (by omega) (by omega) x4)]
        rw [zald_nI (by omega) (by omega), r89_14, KC1.2.2.1, KM1.2.2.1]
        rcases k_known (h := h) (first := 11) (n := h 2) a3 (by omega) (fun i hi => KC1.2.2.2 (11 + i) (Or.inr (Or.inr (by omega)))) (fun i hi => KM1.2.2.2 (11 + i) (Or.inr (Or.inr (by omega)))) with ⟨v, kb, Mc2, Mr2, u1, u2, b1, b2, b3, b4, b5, b6, b7⟩ | ⟨Mc2, Mr2, b1, b2, b3, b4, b5⟩
        · rw [b1, b2, zcl_ok, zcl_ok, foldT]
          exact k_bfin b4 hH e40 (B1.fr b6 (by decide)) (C1.fr b7 (by decide)) V b3 ⟨by omega, fun q => absurd q (by omega), fun _ => by unfold gVal; rw [if_neg x3]; exact u2⟩ (by rw [b7.1 111 (by decide) (by decide)]; exact h01) (fc1.trans (gG.t1 b6)) (gm _ (fm1.trans (b7.mono (by decide) (by decide))))
        · rw [b1, b2, zcl_ok, zcl_ok, foldT, gBtl_0, c_b94_0]
          exact Or.inr ⟨Mc2, Mr2, Or.inl rfl, rfl, b3, fc1.trans (gG.t1 b4), gm _ (fm1.trans (b5.mono (by decide) (by decide)))⟩
    · rw [if_neg (by rw [nI_ltI (by omega) (by omega)]; exact e40), if_pos (show nI n = nI 40 by rw [show n = 40 by omega])]
      obtain ⟨Mc1, Mr1, a1, a2, a3, a4, a5⟩ := k_fail (j := 4) S (fun q => by have := k1 (by omega); omega) (by omega) (by omega)
      rw [a1, a2, zcl_ok, zcl_ok, zchk_ok (Or.inl rfl), zchk_ok (Or.inl rfl)]
      exact Or.inr ⟨Mc1, Mr1, Or.inl rfl, rfl, a3, fc.trans (gG.t1 a4), gm _ (a5.mono (by decide) (by decide))⟩
  · have q1 : gBa (gKy k) = zm1 := by unfold gBa; rw [if_neg (by omega), if_neg (by omega)]
    rw [q1, if_neg (by rw [nI_leI (by omega) (by omega)]; exact e10), if_pos rfl]
    exact fail1 (by omega)
/-- a BOOK read by both -/
def gBR (h : zN) (l : Int32) (Mc0 Mr0 : zMem) (rc rm : Option (Int32 × zMem)) : Prop := (∃ (n : Nat) (K X : zN) (Mc1 Mr1 : zMem), n ≤ 40 ∧ rc = some (nI 1, Mc1) ∧ rm = (zcl (mf_X12_save gR 89 97 56 (nI 0) Mr1) fun _ M9 => mf_X12_book_l78 gR 89 zF l (nI 0) (nI 0) M9) ∧ gBC n K X Mc1 ∧ gBM n K X Mr1 ∧ Mr1.1 89 45 = nI n ∧ (∀ i, i < n → gBK h (K i) (X i)) ∧ Mc1.1 1 2 = nI 0 ∧ Mr1.1 89 10 = nI 0 ∧ gG Mc0 Mc1 ∧ gF gJb (45 :: gFb) Mr0 Mr1) ∨ (∃ Mc1 Mr1, rc = some (nI 0, Mc1) ∧ rm = some (-(nI 2) - Mr1.1 89 11, Mr1) ∧ gBad Mc1 Mr1 ∧ gG Mc0 Mc1 ∧ gF gJb (45 :: gFb) Mr0 Mr1)
theorem k_blines {tl lim : Nat} {tb : Nat → Nat} {h : zN} {nu : Nat → List Nat} {l : Int32} {Mc0 Mr0 : zMem} (hH : gH h) : ∀ (m n fu fv : Nat) (K X : zN) (k : gTk) (Mc Mr : zMem), n + m = 41 → n ≤ 40 → m < fu → m < fv → gTS tl lim tb k Mc Mr → gKC h nu Mc → gKM h nu Mr → gBC n K X Mc → Mr.1 89 45 = nI n → gBM n K X Mr → (∀ i, i < n → gBK h (K i) (X i)) → gG Mc0 Mc → gF gJb (45 :: gFb) Mr0 Mr → gBR h l Mc0 Mr0 (mf_X0_readLines_l14 gR 30 1 4 fu (nI n) Mc) (mf_X12_book_l30 gR 89 fv l Mr) := by
  intro m
  induction m with
  | zero =>
    intro n fu fv K X k Mc Mr hi hn
    omega
  | succ m ih =>
    intro n fu fv K X k Mc Mr hi hn hf hf2 S KC KM B h45 C V fc fm
    match fu, hf, fv, hf2 with
    | fu + 1, hf, fv + 1, hf2 =>
      rw [mf_X0_readLines_l14, mf_X12_book_l30]
      simp only [zl_lit, r89_20]
      rw [if_neg (by rw [nI_ltI (by omega) (by omega)]; omega), c_isEnd S, zcl_ok]
      by_cases k0 : k.1 = 0
      · rw [decide_eq_true k0, if_neg gB_t0, if_pos (by rw [m_isEnd S]; exact k0)]
        exact Or.inl ⟨n, K, X, Mc, Mr, hn, rfl, rfl, B, C, h45, V, S.2.2.2.2.2.2.1, S.2.2.2.2.2.2.2.2.2.2.2, fc, fm⟩
      · rw [decide_eq_false k0, if_pos gB_f0, if_neg (by rw [m_isEnd S]; exact k0)]
        rcases k_bline S hH hn KC KM B h45 C V with ⟨K1, X1, k1, Mc1, Mc2, Mr1, a1, a2, a3, a4, a5, a6, a7, a8, a9, a10⟩ | ⟨Mc1, Mr1, a1, a2, a3, a4, a5⟩
        · have e45 : Mr1.1 89 45 = nI n := by rw [a10.2.2 45 (by decide)]; exact h45
          have f45 : gF [] [45] Mr1 (zwI Mr1 89 45 (nI (n + 1))) := gF.w9 gF.r (by decide)
          rw [a1, a3, zcl_ok, zcl_ok, if_neg (by decide +kernel), if_neg (by decide +kernel), a2, zcl_ok, if_neg (by decide +kernel), zlet_ok, e45]
          simp only [nI_add]
          exact ih (n + 1) fu fv K1 X1 k1 Mc2 (zwI Mr1 89 45 (nI (n + 1))) (by omega) (by omega) (by omega) (by omega) (a5.fr (gF.r (ids := []) (ks := [])) (by decide) f45 (by decide) (by decide)) (KC.fr a9.1 (by decide)) ((KM.fr a10 (by decide)).fr f45 (by decide)) a6 (by rw [zwI_s, upd_s]) (a7.fr f45 (by decide)) a8 (fc.trans a9) ((fm.trans (a10.mono (by decide) (by decide))).trans (f45.mono (by decide) (by decide)))
        · rw [a2, zcl_ok, if_pos rfl]
          refine Or.inr ⟨Mc1, Mr1, ?_, rfl, a3, fc.trans a4, fm.trans (a5.mono (by decide) (by decide))⟩
          rcases a1 with a1 | ⟨Mcx, a1, b1⟩
          · rw [a1, zcl_ok, if_pos rfl]
          · rw [a1, zcl_ok, if_neg (by decide +kernel), b1, zcl_ok, if_pos rfl]
theorem k_book {tl : Nat} {tb : Nat → Nat} {Mc Mr : zMem} {h : zN} {nu : Nat → List Nat} {l : Int32} (hH : gH h) (hl : tl ≤ 940) (c1 : Mc.1 1 1 = nI tl) (cb : ∀ j, j < tl → tb j < 256 ∧ Mc.1 2 j = nI (tb j)) (ck : ∀ k, k < 24 → Mc.2 3 k = lN (gPk 32 (gKw k) 0)) (m2 : Mr.1 89 2 = nI tl) (mb : ∀ j, j < tl → Mr.1 90 j = nI (tb j)) (KC : gKC h nu Mc) (KM : gKM h nu Mr) : ∃ Mr2, Mr2.1 89 2 = nI 0 ∧ gF gJb (0 :: 2 :: 3 :: 4 :: 45 :: gFb) Mr Mr2 ∧ gBR h l Mc Mr2 (mf_X0_readLines gR 30 1 4 Mc) (zcl (mf_X12_begin gR 89 (nI 400) Mr) fun _ M5 => zlet (zwI M5 89 45 (nI 0)) fun M7 => mf_X12_book_l30 gR 89 zF l M7) := by
  have f0 : gF [30] [] Mc (zwI Mc 30 2 (nI 0)) := gF.wI gF.r (by decide) (by decide)
  obtain ⟨k, Mc1, Mr1, a1, a2, a3, a4, a5, a6⟩ := k_begin (lim := 400) (Mc := zwI Mc 30 2 (nI 0)) hl (by omega) (by rw [zwI_n (by decide)]; exact c1) (fun j hj => by rw [zwI_n (by decide)]; exact cb j hj) (fun k hk => by rw [zwI_L]; exact ck k hk) m2 mb
  have f45 : gF [] [45] Mr1 (zwI Mr1 89 45 (nI 0)) := gF.w9 gF.r (by decide)
  have ec : mf_X0_readLines gR 30 1 4 Mc = mf_X0_readLines_l14 gR 30 1 4 5000 (nI 0) Mc1 := by
    unfold mf_X0_readLines
    simp only [zl_lit, zlet_ok]
    rw [a1, zcl_ok]
    exact rfl
  rw [ec, a2, zcl_ok, zlet_ok]
  refine ⟨zwI Mr1 89 45 (nI 0), ?_, ?_, ?_⟩
  · rw [f45.2.2 2 (by decide)]; exact a6
  · exact (a5.mono (by decide) (by decide)).trans (f45.mono (by decide) (by decide))
  · refine k_blines (tl := tl) (lim := 400) (tb := tb) (nu := nu) hH 41 0 5000 5000 (fun _ => 0) (fun _ => 0) k Mc1 _ (by omega) (by omega) (by omega) (by omega) (a3.fr (gF.r (ids := []) (ks := [])) (by decide) f45 (by decide) (by decide)) ((KC.fr f0 (by decide)).fr a4 (by decide)) ((KM.fr a5 (by decide)).fr f45 (by decide)) ⟨?_, fun i hi => absurd hi (by omega)⟩ (by rw [zwI_s, upd_s]) (fun i hi => absurd hi (by omega)) (fun i hi => absurd hi (by omega)) (gG.trans ⟨f0.mono (by decide) (by decide), fun q hq => by rw [zwI_s, upd_n hq]⟩ (gG.t1 a4)) gF.r
    rw [a4.1 30 (by decide) (by decide), zwI_s, upd_s]
