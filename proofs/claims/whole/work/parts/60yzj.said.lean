/-! SENTENCE: the class's pile, the reference's tree, the call -/
def gPl (h : zN) (E : Nat → Nat → Bool) : List Nat → (Nat → Int32) → Prop
  | [], _ => True
  | c :: r, z => z r.length = nI (gbN (E c) (h 2)) ∧ gPl h E r z
theorem gPl_upd {h : zN} {E : Nat → Nat → Bool} : ∀ {r : List Nat} {z : Nat → Int32} {k : Nat} {v : Int32}, r.length ≤ k → gPl h E r z → gPl h E r (upd z k v)
  | [], _, _, _, _, _ => trivial
  | c :: r, z, k, v, hk, hp => by
    have hl : (c :: r).length = r.length + 1 := rfl
    exact ⟨by rw [upd_n (by omega)]; exact hp.1, gPl_upd (by omega) hp.2⟩
theorem gStk_len {K : zN} : ∀ i, (gStk K i).length ≤ i
  | 0 => Nat.le_refl _
  | i + 1 => by
    have ih := gStk_len (K := K) i
    unfold gStk
    split
    · simp only [List.length_cons, List.length_tail]; omega
    · split
      · simp only [List.length_cons, List.length_tail]; omega
      · simp only [List.length_cons]; omega
theorem gAn_not {p : Nat → Bool} {n : Nat} (hn : n ≤ 8) : gAn (2 ^ n - 1) (gbN p n) = gbN (fun s => !p s) n := by
  have b32 : ∀ k, k < 8 → (4294967295 : Nat).testBit k = true := by decide +kernel
  rw [← gbN_all]
  unfold gAn
  apply Nat.eq_of_testBit_eq
  intro k
  rw [Nat.testBit_and, Nat.testBit_xor, gbN_bit, gbN_bit, gbN_bit]
  by_cases hk : k < n
  · rw [b32 k (by omega)]; simp [hk]
  · simp [hk]
theorem gbN_orE {p q : Nat → Bool} {n : Nat} : gbN p n ||| gbN q n = gbN (fun s => p s || q s) n := by
  apply Nat.eq_of_testBit_eq
  intro k
  rw [Nat.testBit_or, gbN_bit, gbN_bit, gbN_bit]
  by_cases hk : k < n <;> simp [hk]
theorem c_pile {c : Nat} {h a K A B : zN} {z : Nat → Int32} {M : zMem} {n : Nat} {E : Nat → Nat → Bool} (hr : gRC h M) (hc : M.1 17 = eC a z) (hH : gH h) (hA : gA h a) (hO : gO c a) (hcc : c < 2 ^ 20) (hn : n < 40) (Q1 : M.1 20 1 = nI (n + 1)) (Q : gSC (n + 1) K A B (M.1 21) (M.1 22) (M.1 23)) (hw : ∀ i, i < n + 1 → gWf h K A B i) (hs : gStk K (n + 1) = [n]) (hE : ∀ i p, i < n + 1 → gEq h a K A B E i p) : ∀ (m i f : Nat) (z' : Nat → Int32), i + m = n + 1 → m < f → gPl h E (gStk K i) z' → ∃ zz, mf_X8_sheetsOf_l22 gR 20 4 16 f (nI (2 ^ h 2 - 1)) (nI (gStk K i).length) (nI i) (zrowI M 24 z') = some (nI (gbN (E n) (h 2)), zrowI M 24 zz)
  | 0, i, f + 1, z', hi, _, P => by
    have e : i = n + 1 := by omega
    subst e
    rw [hs] at P
    have e1 : (zrowI M 24 z').1 20 1 = nI (n + 1) := by rw [zrI_n (by decide)]; exact Q1
    have e0 : z' 0 = nI (gbN (E n) (h 2)) := P.1
    refine ⟨z', ?_⟩
    rw [mf_X8_sheetsOf_l22, e1, if_pos (by rw [nI_leI (by omega) (by omega)]; omega)]
    unfold mf_X8_sheetsOf_b198
    simp only [zl_lit, r20_5]
    rw [zald_nI (by omega) (by omega), zrI_s, e0]
  | m + 1, i, f + 1, z', hi, hf, P => by
    obtain ⟨k0, k1, k2, k3, k4, k5, kh, kl, ka, kp⟩ := id hH
    have hi2 : i < n + 1 := by omega
    have w := hw i hi2
    have W0 := w
    have ln := gStk_len (K := K) i
    obtain ⟨w1, w2, w3, w4, w5, w6, w7⟩ := w
    have s1 : (zrowI M 24 z').1 21 i = nI (K i) := by rw [zrI_n (by decide)]; exact (Q i hi2).1
    have e1 : (zrowI M 24 z').1 20 1 = nI (n + 1) := by rw [zrI_n (by decide)]; exact Q1
    have eq := fun p => hE i p hi2
    have ne : ∀ p : Nat, p < 100 → K i ≠ p → ¬ nI (K i) = nI p := fun p x y => by rw [nI_eq (by omega) (by omega)]; exact y
    have ps : ∀ p : Nat, K i = p → nI (K i) = nI p := fun p x => by rw [x]
    have wr : ∀ k v, zwI (zrowI M 24 z') 24 k v = zrowI M 24 (upd z' k v) := fun k v => by
      unfold zwI
      rw [zrI_s, grI_rI]
    rw [mf_X8_sheetsOf_l22]
    simp only [zl_lit, zl_m1, zlet_ok, r20_2, r20_5]
    rw [e1, if_neg (show ¬ nI (n + 1) ≤ nI i by rw [nI_leI (by omega) (by omega)]; omega), if_neg (show ¬ nI 40 ≤ nI i by rw [nI_leI (by omega) (by omega)]; omega), zald_nI (by omega) (by omega), s1]
    by_cases c13 : K i = 13
    · obtain ⟨r, er⟩ := w3 c13
      have hst : gStk K (i + 1) = i :: r := by rw [gStk, if_pos c13, er]; rfl
      rw [er] at P ln ⊢
      have hl : (A i :: r).length = r.length + 1 := rfl
      have hl2 : (i :: r).length = r.length + 1 := rfl
      have ev : ∀ p, E i p = !E (A i) p := fun p => by have := eq p; unfold gEq at this; rw [if_pos c13] at this; exact this
      rw [hl] at ln ⊢
      rw [if_pos (ps 13 c13), if_neg (show ¬ nI (r.length + 1) < nI 1 by rw [nI_ltI (by omega) (by omega)]; omega), nI_subE (by omega), Nat.add_sub_cancel, zald_nI (by omega) (by omega), zald_nI (by omega) (by omega), zrI_s, P.1, nI_an, gAn_not (by omega), wr]
      unfold mf_X8_sheetsOf_b192
      rw [zl_lit, nI_add]
      have ih := c_pile hr hc hH hA hO hcc hn Q1 Q hw hs hE m (i + 1) f (upd z' r.length (nI (gbN (fun s => !E (A i) s) (h 2)))) (by omega) (by omega) (by rw [hst]; exact ⟨by rw [upd_s]; exact congrArg nI (gbN_cong (fun k _ => (ev k).symm)), gPl_upd (Nat.le_refl _) P.2⟩)
      rw [hst, hl2] at ih
      exact ih
    rw [if_neg (ne 13 (by omega) c13)]
    unfold mf_X8_sheetsOf_b81
    simp only [zl_lit, zl_m1, zlet_ok, r20_2, r20_5]
    rw [zald_nI (by omega) (by omega), s1]
    by_cases c12 : K i = 12
    · obtain ⟨r, er⟩ := w4 (Or.inr c12)
      have hst : gStk K (i + 1) = i :: r := by rw [gStk, if_neg c13, if_pos (Or.inr c12), er]; rfl
      rw [er] at P ln ⊢
      have hl : (B i :: A i :: r).length = r.length + 2 := rfl
      have hl1 : (A i :: r).length = r.length + 1 := rfl
      have hl2 : (i :: r).length = r.length + 1 := rfl
      have d1 : nI (r.length + 2) + zm1 = nI (r.length + 1) := by rw [enI_dec, enI_s]
      have ev : ∀ p, E i p = (E (A i) p && E (B i) p) := fun p => by have := eq p; unfold gEq at this; rw [if_neg c13, if_pos c12] at this; exact this
      rw [hl] at ln ⊢
      have p1 := P.1
      rw [hl1] at p1
      rw [if_pos (ps 12 c12), if_neg (show ¬ nI (r.length + 2) < nI 2 by rw [nI_ltI (by omega) (by omega)]; omega), d1, nI_subE (by omega), Nat.add_sub_cancel, zald_nI (by omega) (by omega), zald_nI (by omega) (by omega), zald_nI (by omega) (by omega), zrI_s, P.2.1, p1, nI_and, gbN_and, wr]
      unfold mf_X8_sheetsOf_b192
      rw [zl_lit, nI_add]
      have ih := c_pile hr hc hH hA hO hcc hn Q1 Q hw hs hE m (i + 1) f (upd z' r.length (nI (gbN (fun s => E (A i) s && E (B i) s) (h 2)))) (by omega) (by omega) (by rw [hst]; exact ⟨by rw [upd_s]; exact congrArg nI (gbN_cong (fun k _ => (ev k).symm)), gPl_upd (Nat.le_refl _) P.2.2⟩)
      rw [hst, hl2] at ih
      exact ih
    rw [if_neg (ne 12 (by omega) c12)]
    unfold mf_X8_sheetsOf_b124
    simp only [zl_lit, zl_m1, zlet_ok, r20_2, r20_5]
    rw [zald_nI (by omega) (by omega), s1]
    by_cases c11 : K i = 11
    · obtain ⟨r, er⟩ := w4 (Or.inl c11)
      have hst : gStk K (i + 1) = i :: r := by rw [gStk, if_neg c13, if_pos (Or.inl c11), er]; rfl
      rw [er] at P ln ⊢
      have hl : (B i :: A i :: r).length = r.length + 2 := rfl
      have hl1 : (A i :: r).length = r.length + 1 := rfl
      have hl2 : (i :: r).length = r.length + 1 := rfl
      have d1 : nI (r.length + 2) + zm1 = nI (r.length + 1) := by rw [enI_dec, enI_s]
      have ev : ∀ p, E i p = (E (A i) p || E (B i) p) := fun p => by have := eq p; unfold gEq at this; rw [if_neg c13, if_neg c12, if_pos c11] at this; exact this
      rw [hl] at ln ⊢
      have p1 := P.1
      rw [hl1] at p1
      rw [if_pos (ps 11 c11), if_neg (show ¬ nI (r.length + 2) < nI 2 by rw [nI_ltI (by omega) (by omega)]; omega), d1, nI_subE (by omega), Nat.add_sub_cancel, zald_nI (by omega) (by omega), zald_nI (by omega) (by omega), zald_nI (by omega) (by omega), zrI_s, P.2.1, p1, nI_or, gbN_orE, wr]
      unfold mf_X8_sheetsOf_b192
      rw [zl_lit, nI_add]
      have ih := c_pile hr hc hH hA hO hcc hn Q1 Q hw hs hE m (i + 1) f (upd z' r.length (nI (gbN (fun s => E (A i) s || E (B i) s) (h 2)))) (by omega) (by omega) (by rw [hst]; exact ⟨by rw [upd_s]; exact congrArg nI (gbN_cong (fun k _ => (ev k).symm)), gPl_upd (Nat.le_refl _) P.2.2⟩)
      rw [hst, hl2] at ih
      exact ih
    rw [if_neg (ne 11 (by omega) c11)]
    unfold mf_X8_sheetsOf_b167 mf_X8_sheetsOf_b192
    simp only [zl_lit, zlet_ok, r20_5, nI_add]
    have hst : gStk K (i + 1) = i :: gStk K i := by rw [gStk, if_neg c13, if_neg (by omega)]
    have hl2 : (i :: gStk K i).length = (gStk K i).length + 1 := rfl
    have ev : ∀ p, E i p = gLf h a (K i) (A i) (B i) p := fun p => by have := eq p; unfold gEq at this; rw [if_neg c13, if_neg c12, if_neg c11] at this; exact this
    have f24 : gF [24] [] M (zrowI M 24 z') := gF.rI gF.r (by decide) (by decide)
    have lf := c_leaf (M := zrowI M 24 z') (gRC.fr f24 (by decide) hr) (by rw [zrI_n (by decide)]; exact hc) hH hA hO hcc hi2 (by omega) (by rw [f24.1 21 (by decide) (by decide), f24.1 22 (by decide) (by decide), f24.1 23 (by decide) (by decide)]; exact Q) W0 (by omega)
    rw [if_neg (show ¬ nI 40 ≤ nI (gStk K i).length by rw [nI_leI (by omega) (by omega)]; omega), lf, zcl_ok, zald_nI (by omega) (by omega), wr]
    have ih := c_pile hr hc hH hA hO hcc hn Q1 Q hw hs hE m (i + 1) f (upd z' (gStk K i).length (nI (gbN (fun p => gLf h a (K i) (A i) (B i) p) (h 2)))) (by omega) (by omega) (by rw [hst]; exact ⟨by rw [upd_s]; exact congrArg nI (gbN_cong (fun k _ => (ev k).symm)), gPl_upd (Nat.le_refl _) P⟩)
    rw [hst, hl2] at ih
    exact ih
theorem c_sheetsOf {c : Nat} {h a K A B : zN} {z : Nat → Int32} {M : zMem} {n : Nat} {E : Nat → Nat → Bool} (hr : gRC h M) (hc : M.1 17 = eC a z) (hH : gH h) (hA : gA h a) (hO : gO c a) (hcc : c < 2 ^ 20) (hn : n < 40) (Q1 : M.1 20 1 = nI (n + 1)) (Q : gSC (n + 1) K A B (M.1 21) (M.1 22) (M.1 23)) (hw : ∀ i, i < n + 1 → gWf h K A B i) (hs : gStk K (n + 1) = [n]) (hE : ∀ i p, i < n + 1 → gEq h a K A B E i p) : ∃ zz, mf_X8_sheetsOf gR 20 4 16 M = some (nI (gbN (E n) (h 2)), zrowI M 24 zz) := by
  have k2 : h 2 ≤ 8 := hH.2.2.1
  have q2 : M.1 4 2 = nI (h 2) := hr.2.2.1
  obtain ⟨zz, e⟩ := c_pile hr hc hH hA hO hcc hn Q1 Q hw hs hE (n + 1) 0 zF (upd (M.1 24) 0 (nI 0)) (by omega) (by show _ < 5000; omega) trivial
  refine ⟨zz, ?_⟩
  rw [← e]
  unfold mf_X8_sheetsOf
  simp only [zl_lit, zlet_ok, r20_5]
  rw [zald_nI (by omega) (by omega), q2, nI_shl (h 2) (by omega), nI_subE Nat.one_le_two_pow]
  try rfl
theorem eM_t {h a : zN} {t : Nat → Int32} {j : Nat} (hj : 112 ≤ j) : encM h a t j = t j := by
  unfold encM
  rw [if_neg (by omega), if_neg (by omega), if_neg (by omega), if_neg (by omega)]
theorem m_cmp {F : zRR → Nat → Int32 → Int32 → zMem → Option (Int32 × zMem)} {h a : zN} {t : Nat → Int32} {M : zMem} {i x v y : Nat} (hm : M.1 91 = encM h a t) (hi : i < 40) (hx : x = 60 ∨ x = 61 ∨ x = 62) (hv : v < 2 ^ 30) (hy : y < 2 ^ 30) (e3 : t (114 + 4 * i + 3) = nI x) : mf_X12_holds_b343 gR F 89 (nI (114 + 4 * i)) (nI y) (nI v) M = some (gB (gCmp x v y), M) := by
  unfold mf_X12_holds_b343 gCmp
  simp only [zl_lit, r89_14, nI_add]
  rw [zald_nI (by omega) (by omega), zald_nI (by omega) (by omega), hm, eM_t (by omega), e3]
  by_cases c60 : x = 60
  · rw [if_pos (show nI x = nI 60 by rw [c60]), if_pos c60]
    by_cases q : v < y
    · rw [if_neg (by rw [nI_leI (by omega) (by omega)]; omega), decide_eq_true q]; rfl
    · rw [if_pos (by rw [nI_leI (by omega) (by omega)]; omega), decide_eq_false q]; rfl
  · rw [if_neg (show ¬ nI x = nI 60 by rw [nI_eq (by omega) (by omega)]; exact c60), if_neg c60]
    by_cases c61 : x = 61
    · rw [if_pos (show nI x = nI 61 by rw [c61]), if_neg (show ¬ x = 62 by omega)]
      by_cases q : v = y
      · rw [if_pos (show nI v = nI y by rw [q]), decide_eq_true q]; rfl
      · rw [if_neg (by rw [nI_eq (by omega) (by omega)]; exact q), decide_eq_false q]; rfl
    · rw [if_neg (show ¬ nI x = nI 61 by rw [nI_eq (by omega) (by omega)]; exact c61), if_pos (show x = 62 by omega)]
      by_cases q : y < v
      · rw [if_neg (by rw [nI_leI (by omega) (by omega)]; omega), decide_eq_true q]; rfl
      · rw [if_pos (by rw [nI_leI (by omega) (by omega)]; omega), decide_eq_false q]; rfl
