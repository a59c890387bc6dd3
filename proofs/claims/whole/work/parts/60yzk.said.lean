/-! SENTENCE: the reference's tree, the call SAID -/
theorem m_holds {c : Nat} {h a K A B : zN} {t : Nat → Int32} {M : zMem} {n : Nat} {E : Nat → Nat → Bool} (hm : M.1 91 = encM h a t) (hH : gH h) (hA : gA h a) (hO : gO c a) (hcc : c < 2 ^ 20) (hn : n < 40) (Q : gSM (n + 1) K A B (fun j => t (114 + j))) (hw : ∀ i, i < n + 1 → gWf h K A B i) (hE : ∀ i p, i < n + 1 → gEq h a K A B E i p) : ∀ (d i p : Nat), i < d → i < n + 1 → p < h 2 → mg_X12f d gR 89 (nI i) (nI p) M = some (gB (E i p), M)
  | 0, i, p, hd, _, _ => absurd hd (by omega)
  | d + 1, i, p, hd, hi, hp => by
    obtain ⟨k0, k1, k2, k3, k4, k5, kh, kl, ka, kp⟩ := id hH
    have w := hw i hi
    have wc := gWf_ch w
    have eq := hE i p hi
    obtain ⟨w1, w2, w3, w4, w5, w6, w7⟩ := w
    obtain ⟨s1, s2, s3, s4⟩ := Q i hi
    have s1 : t (114 + 4 * i) = nI (gNk (K i)) := s1
    have s2 : (K i ≤ 13 ∨ K i = 18 ∨ K i = 19) → t (114 + 4 * i + 1) = nI (A i) := s2
    have s3 : (K i ≤ 12 ∨ 20 ≤ K i) → t (114 + 4 * i + 2) = nI (B i) := s3
    have s4 : 20 ≤ K i → t (114 + 4 * i + 3) = nI (A i) := s4
    have hM : zrowI M 91 (encM h a t) = M := grI_id hm
    have hp8 : p < 8 := by omega
    have as := hA.2.2 p hp8
    have gk50 : gNk (K i) ≤ 73 := by
      unfold gNk
      split
      · omega
      · split
        · omega
        · split <;> omega
    have ne : ∀ q : Nat, q < 100 → gNk (K i) ≠ q → ¬ nI (gNk (K i)) = nI q := fun q _ y => by rw [nI_eq (by omega) (by omega)]; exact y
    show mf_X12_holds gR (mg_X12f d) 89 (nI i) (nI p) M = some (gB (E i p), M)
    unfold mf_X12_holds
    simp only [zl_lit, zlet_ok, r89_14, nI_mulE, nI_add]
    rw [zald_nI (by omega) (by omega), zald_nI (by omega) (by omega), zald_nI (by omega) (by omega), hm, eM_t (by omega), eM_t (by omega), eM_t (by omega), s1]
    by_cases c13 : K i = 13
    · have gk : gNk (K i) = 1 := by unfold gNk; rw [if_pos c13]
      have ev : E i p = !E (A i) p := by unfold gEq at eq; rw [if_pos c13] at eq; exact eq
      have ih := m_holds hm hH hA hO hcc hn Q hw hE d (A i) p (by have := wc.1 c13; omega) (by have := wc.1 c13; omega) hp
      rw [gk, if_pos rfl, s2 (Or.inl (by omega)), ih, zcl_ok, ev]
      cases E (A i) p
      · rw [if_pos gB_f0]; rfl
      · rw [if_neg gB_t0]; rfl
    by_cases c12 : K i = 12
    · have gk : gNk (K i) = 2 := by unfold gNk; rw [if_neg c13, if_pos c12]
      have ev : E i p = (E (A i) p && E (B i) p) := by unfold gEq at eq; rw [if_neg c13, if_pos c12] at eq; exact eq
      have wd := wc.2 (Or.inr c12)
      have ih := m_holds hm hH hA hO hcc hn Q hw hE d (A i) p (by omega) (by omega) hp
      have ih2 := m_holds hm hH hA hO hcc hn Q hw hE d (B i) p (by omega) (by omega) hp
      rw [gk, if_neg (show ¬ nI 2 = nI 1 by decide +kernel), if_pos rfl, s2 (Or.inl (by omega)), s3 (Or.inl (by omega)), ih, zcl_ok, ev]
      cases E (A i) p
      · rw [if_pos gB_f0]; rfl
      · rw [if_neg gB_t0, ih2, zcl_ok]
        cases E (B i) p
        · rw [if_pos gB_f0]; rfl
        · rw [if_neg gB_t0]; rfl
    by_cases c11 : K i = 11
    · have gk : gNk (K i) = 3 := by unfold gNk; rw [if_neg c13, if_neg c12, if_pos c11]
      have ev : E i p = (E (A i) p || E (B i) p) := by unfold gEq at eq; rw [if_neg c13, if_neg c12, if_pos c11] at eq; exact eq
      have wd := wc.2 (Or.inl c11)
      have ih := m_holds hm hH hA hO hcc hn Q hw hE d (A i) p (by omega) (by omega) hp
      have ih2 := m_holds hm hH hA hO hcc hn Q hw hE d (B i) p (by omega) (by omega) hp
      rw [gk, if_neg (show ¬ nI 3 = nI 1 by decide +kernel), if_neg (show ¬ nI 3 = nI 2 by decide +kernel), if_pos rfl, s2 (Or.inl (by omega)), s3 (Or.inl (by omega)), ih, zcl_ok, ev]
      cases E (A i) p
      · rw [if_pos gB_f0, ih2, zcl_ok]
        cases E (B i) p
        · rw [if_pos gB_f0]; rfl
        · rw [if_neg gB_t0]; rfl
      · rw [if_neg gB_t0]; rfl
    have gk : gNk (K i) = 50 + K i := by unfold gNk; rw [if_neg c13, if_neg c12, if_neg c11]
    have ev : E i p = gLf h a (K i) (A i) (B i) p := by unfold gEq at eq; rw [if_neg c13, if_neg c12, if_neg c11] at eq; exact eq
    have cB : ∀ {b : Bool} {q : Prop} [Decidable q], (q ↔ b = true) → (if q then some (nI 1, M) else some (nI 0, M)) = some (gB b, M) := fun {b} {q} _ hq => by
      cases b
      · rw [if_neg (by intro x; exact absurd (hq.mp x) (by decide))]; rfl
      · rw [if_pos (hq.mpr rfl)]; rfl
    rw [if_neg (ne 1 (by omega) (by omega)), if_neg (ne 2 (by omega) (by omega)), if_neg (ne 3 (by omega) (by omega)), ev]
    unfold gLf
    by_cases c14 : K i = 14
    · have iw := m_isWaiting (h := h) (t := t) (M := M) hp8 as
      rw [hM] at iw
      rw [if_pos (show nI (gNk (K i)) = nI 64 by rw [gk, c14]), iw, zcl_ok, if_pos c14]
      simp only [gB_01, zchk_t]
    rw [if_neg (ne 64 (by omega) (by omega)), if_neg c14]
    by_cases c15 : K i = 15
    · rw [if_pos (show nI (gNk (K i)) = nI 65 by rw [gk, c15]), zald_nI (by omega) (by omega), eM_how hp8, if_pos c15]
      have wb := as.1
      exact cB (by rw [nI_eq (by omega) (by omega), decide_eq_true_iff])
    rw [if_neg (ne 65 (by omega) (by omega)), if_neg c15]
    by_cases c16 : K i = 16
    · rw [if_pos (show nI (gNk (K i)) = nI 66 by rw [gk, c16]), zald_nI (by omega) (by omega), eM_how hp8, if_pos c16]
      have wb := as.1
      exact cB (by rw [nI_eq (by omega) (by omega), decide_eq_true_iff])
    rw [if_neg (ne 66 (by omega) (by omega)), if_neg c16]
    by_cases c17 : K i = 17
    · have iw := m_isHeld (h := h) (t := t) (M := M) hp8 as
      rw [hM] at iw
      rw [if_pos (show nI (gNk (K i)) = nI 67 by rw [gk, c17]), iw, zcl_ok, if_pos c17]
      simp only [gB_01, zchk_t]
    rw [if_neg (ne 67 (by omega) (by omega)), if_neg c17]
    by_cases c18 : K i = 18
    · have wa := w5 c18
      have wb := as.2.1
      rw [if_pos (show nI (gNk (K i)) = nI 68 by rw [gk, c18]), zald_nI (by omega) (by omega), eM_in hp8, if_pos c18, s2 (Or.inr (Or.inl c18))]
      exact cB (by rw [enI_eq (by omega) (by omega), decide_eq_true_iff])
    rw [if_neg (ne 68 (by omega) (by omega)), if_neg c18]
    by_cases c19 : K i = 19
    · have wa := w6 c19
      have wb := kp p hp
      rw [if_pos (show nI (gNk (K i)) = nI 69 by rw [gk, c19]), zald_nI (by omega) (by omega), eM_h (by omega), if_pos c19, s2 (Or.inr (Or.inr c19))]
      exact cB (by rw [nI_eq (by omega) (by omega), decide_eq_true_iff])
    have h20 : 20 ≤ K i := by omega
    have q7 := w7 h20
    have lt := gLv_lt (k := K i) hA hO hcc hp8
    rw [if_neg (ne 69 (by omega) (by omega)), if_neg c19, zald_nI (by omega) (by omega), eM_t (by omega), s1, gk, nI_subE (by omega), Nat.add_sub_cancel_left, s3 (Or.inr h20)]
    have cm := m_cmp (F := mg_X12f d) (v := gLv a (K i) p) (y := B i) hm (show i < 40 by omega) q7.1 lt (by omega) (s4 h20)
    rw [← cm]
    unfold gLv
    by_cases c20 : K i = 20
    · rw [if_pos (show nI (K i) = nI 20 by rw [c20]), zald_nI (by omega) (by omega), eM_left hp8, if_pos c20]
    rw [if_neg (by rw [nI_eq (by omega) (by omega)]; exact c20), if_neg c20]
    by_cases c21 : K i = 21
    · rw [if_pos (show nI (K i) = nI 21 by rw [c21]), zald_nI (by omega) (by omega), eM_over hp8, if_pos c21]
    rw [if_neg (by rw [nI_eq (by omega) (by omega)]; exact c21), if_neg c21]
    by_cases c22 : K i = 22
    · rw [if_pos (show nI (K i) = nI 22 by rw [c22]), zald_nI (by omega) (by omega), eM_tries hp8, if_pos c22]
    rw [if_neg (by rw [nI_eq (by omega) (by omega)]; exact c22), if_neg c22]
/-- none is the x-th -/
theorem m_ls {P : Nat → Bool} {M : zMem} {l q : Nat} {x : Int32} (hl : l ≤ 8) (h2 : M.1 91 2 = nI l) (h3 : M.1 91 113 = nI q) (hk : ∀ p, p < l → mr_X12_holds zD gR 89 (nI q) (nI p) M = some (gB (P p), M)) (hx : ∀ k, k ≤ 8 → ¬ nI k = x) : mf_X12_said_l21 gR 89 zF x (nI 0) (nI 0) M = some (if x = zm1 then nI (gct P l) else zm1, M) := by
  refine gfor (G := fun f i => mf_X12_said_l21 gR 89 f x (nI (gct P i)) (nI i) M) (n := l) (fun f i hi => ?_) (fun f => ?_) _ (by show _ < 5000; omega)
  · show mf_X12_said_l21 gR 89 (f + 1) x (nI (gct P i)) (nI i) M = mf_X12_said_l21 gR 89 f x (nI (gct P (i + 1))) (nI (i + 1)) M
    have gl := gct_le (p := P) (n := i)
    rw [mf_X12_said_l21]
    unfold mf_X12_said_b59
    simp only [zl_lit, r89_14, nI_add]
    rw [zald_nI (by omega) (by omega), zald_nI (by omega) (by omega), h2, h3, if_neg (by rw [nI_leI (by omega) (by omega)]; omega), hk i hi, zcl_ok]
    have gs : gct P (i + 1) = gct P i + (if P i then 1 else 0) := rfl
    rw [gs]
    cases P i
    · rw [if_pos gB_f0]; rfl
    · rw [if_neg gB_t0, if_neg (hx _ (by omega))]; rfl
  · show mf_X12_said_l21 gR 89 (f + 1) x (nI (gct P l)) (nI l) M = _
    rw [mf_X12_said_l21]
    simp only [zl_lit, zl_m1, r89_14]
    rw [zald_nI (by omega) (by omega), h2, if_pos (by rw [nI_leI (by omega) (by omega)]; omega)]
    by_cases e : x = zm1
    · rw [if_pos e, if_pos e]
    · rw [if_neg e, if_neg e]
theorem c_bitEnd {P : Nat → Bool} {M : zMem} {l : Nat} {x k : Int32} (hP : ∀ j, l ≤ j → P j = false) : ∀ (m i f : Nat), i + m = 8 → m < f → l ≤ i → mf_X11_bitAt_l4 gR f (nI (gbN P 8)) x k (nI i) M = some (zm1, M)
  | 0, i, f + 1, hi, _, _ => by
    rw [mf_X11_bitAt_l4]
    simp only [zl_lit, zl_m1]
    rw [if_pos (by rw [nI_leI (by omega) (by omega)]; omega)]
  | m + 1, i, f + 1, hi, hf, hli => by
    have b := gbN_256 (p := P) (n := 8) (Nat.le_refl _)
    have dv := gbN_div (p := P) (n := 8) (s := i) (by omega)
    rw [hP i hli, if_neg (by decide)] at dv
    rw [mf_X11_bitAt_l4]
    unfold mf_X11_bitAt_b28
    simp only [zl_lit, zl_m1]
    rw [if_neg (by rw [nI_leI (by omega) (by omega)]; omega), nI_shr8 i (by omega) _ b, nI_and, Nat.and_one_is_mod, dv, if_pos rfl, nI_add]
    exact c_bitEnd hP m (i + 1) f (by omega) (by omega) (by omega)
theorem k_bitAt0 {P : Nat → Bool} {M1 M2 : zMem} {l : Nat} {x : Int32} (hP : ∀ j, l ≤ j → P j = false) (hx : ¬ x = zm1) (h2 : M2.1 91 2 = nI l) {m i k f g : Nat} (hi : i + m = 8) (hf : m < f) (hl : l ≤ 8) (hli : l ≤ i) : ∃ r, mf_X11_bitAt_l4 gR f (nI (gbN P 8)) x (nI k) (nI i) M1 = some (r, M1) ∧ mf_X12_said_l21 gR 89 (g + 1) x (nI k) (nI i) M2 = some (r, M2) := by
  refine ⟨zm1, c_bitEnd hP m i f hi hf hli, ?_⟩
  rw [mf_X12_said_l21]
  simp only [zl_lit, zl_m1, r89_14]
  rw [zald_nI (by omega) (by omega), h2, if_pos (by rw [nI_leI (by omega) (by omega)]; omega), if_neg hx]
theorem k_bitAt {P : Nat → Bool} {M1 M2 : zMem} {l q : Nat} {x : Int32} (hl : l ≤ 8) (hP : ∀ j, l ≤ j → P j = false) (hx : ¬ x = zm1) (h2 : M2.1 91 2 = nI l) (h3 : M2.1 91 113 = nI q) (hk : ∀ p, p < l → mr_X12_holds zD gR 89 (nI q) (nI p) M2 = some (gB (P p), M2)) : ∀ (m i k f g : Nat), i + m = 8 → m < f → m < g → ∃ r, mf_X11_bitAt_l4 gR f (nI (gbN P 8)) x (nI k) (nI i) M1 = some (r, M1) ∧ mf_X12_said_l21 gR 89 g x (nI k) (nI i) M2 = some (r, M2)
  | 0, i, k, f, g + 1, hi, hf, _ => k_bitAt0 hP hx h2 hi hf hl (by omega)
  | m + 1, i, k, f + 1, g + 1, hi, hf, hg => by
    by_cases hli : l ≤ i
    · exact k_bitAt0 hP hx h2 hi hf hl hli
    · have b := gbN_256 (p := P) (n := 8) (Nat.le_refl _)
      have dv := gbN_div (p := P) (n := 8) (s := i) (by omega)
      rw [mf_X11_bitAt_l4, mf_X12_said_l21]
      unfold mf_X11_bitAt_b28 mf_X12_said_b59
      simp only [zl_lit, zl_m1, r89_14]
      rw [if_neg (show ¬ nI 8 ≤ nI i by rw [nI_leI (by omega) (by omega)]; omega), nI_shr8 i (by omega) _ b, nI_and, Nat.and_one_is_mod, dv, zald_nI (by omega) (by omega), zald_nI (by omega) (by omega), h2, h3, if_neg (show ¬ nI l ≤ nI i by rw [nI_leI (by omega) (by omega)]; omega), hk i (by omega), zcl_ok, nI_add, nI_add]
      cases P i
      · rw [if_neg (show ¬ (false = true) by decide), if_pos rfl, if_pos gB_f0]
        exact k_bitAt hl hP hx h2 h3 hk m (i + 1) k f g (by omega) (by omega) (by omega)
      · rw [if_pos (show true = true from rfl), if_neg (show ¬ nI 1 = nI 0 by decide +kernel), if_neg gB_t0]
        by_cases e : nI k = x
        · rw [if_pos e, if_pos e]
          exact ⟨_, rfl, rfl⟩
        · rw [if_neg e, if_neg e]
          exact k_bitAt hl hP hx h2 h3 hk m (i + 1) (k + 1) f g (by omega) (by omega) (by omega)
theorem q_said {c : Nat} {h a : zN} {t : Nat → Int32} {sn : Nat → zN} {n : Nat} {M : zMem} (X : gX c h a t sn n M) (hcc : c < 2 ^ 20) (I : gSI 20 21 22 23 h t M) (x : Int32) : ∃ r M1 M2, mf_X11_said gR 0 x M = some (r, M1) ∧ mf_X12_said gR 89 x M1 = some (r, M2) ∧ gF [24] [0] M M2 := by
  obtain ⟨W, P1, P2, hn, hO, hS⟩ := X
  obtain ⟨hr, hc0, hm, hH, hA⟩ := W
  rcases I with ⟨i1, i2⟩ | ⟨n', o, K, A, B, D, Q, S⟩
  · refine ⟨zm1, M, zwI M 89 0 (nI 0), ?_, ?_, gF.w9 gF.r (by decide)⟩
    · unfold mf_X11_said
      simp only [zl_lit, zl_m1, r0_5]
      rw [i1, if_pos rfl]
    · have e : (zwI M 89 0 (nI 0)).1 91 = encM h a t := by rw [zwI_n (by decide)]; exact hm
      unfold mf_X12_said
      simp only [zl_lit, zl_m1, zlet_ok, r89_14]
      rw [zald_nI (by omega) (by omega), e, eM_t (by omega), i2, if_pos rfl]
  · obtain ⟨d0, d1, d2, d3, d4⟩ := D
    obtain ⟨qa, qb, qc⟩ := Q
    obtain ⟨sa, sb, sc⟩ := S
    obtain ⟨k0, k1, k2, k3, k4, k5, kh, kl, ka, kp⟩ := id hH
    obtain ⟨E, hE⟩ := gE_ex (h := h) (a := a) (K := K) (A := A) (B := B) (n' + 1) d3
    obtain ⟨zz, ec⟩ := c_sheetsOf hr hc0 hH hA hO hcc d0 qb qc d3 d4 hE
    have eP : gbN (fun p => E n' p && decide (p < h 2)) 8 = gbN (E n') (h 2) := by
      rw [gbN_set (n := h 2) (m := 8) (by omega) (fun k h1 _ => by rw [decide_eq_false (by omega), Bool.and_false])]
      exact gbN_cong (fun k hk => by rw [decide_eq_true hk, Bool.and_true])
    have hP : ∀ j, h 2 ≤ j → (E n' j && decide (j < h 2)) = false := fun j hj => by rw [decide_eq_false (by omega), Bool.and_false]
    have ref : ∀ M1 : zMem, M1.1 91 = M.1 91 → mf_X12_said gR 89 x M1 = mf_X12_said_l21 gR 89 zF x (nI 0) (nI 0) (zwI M1 89 0 (nI 0)) ∧ (zwI M1 89 0 (nI 0)).1 91 2 = nI (h 2) ∧ (zwI M1 89 0 (nI 0)).1 91 113 = nI n' ∧ ∀ p, p < h 2 → mr_X12_holds zD gR 89 (nI n') (nI p) (zwI M1 89 0 (nI 0)) = some (gB (E n' p && decide (p < h 2)), zwI M1 89 0 (nI 0)) := by
      intro M1 e1
      have e : (zwI M1 89 0 (nI 0)).1 91 = encM h a t := by rw [zwI_n (by decide), e1]; exact hm
      refine ⟨?_, by rw [e, eM_h (by omega)], by rw [e, eM_t (by omega)]; exact sb, fun p hp => ?_⟩
      · unfold mf_X12_said
        simp only [zl_lit, zl_m1, zlet_ok, r89_14]
        rw [zald_nI (by omega) (by omega), e, eM_t (by omega), sa, if_neg (by decide +kernel)]
      · rw [decide_eq_true hp, Bool.and_true]
        exact m_holds e hH hA hO hcc d0 sc d3 hE zD n' p (by show n' < 64; omega) (by omega) hp
    have hna : ¬ nI o = nI 0 := by rw [nI_eq (by omega) (by omega)]; omega
    by_cases hx : zm1 ≤ x
    · obtain ⟨r1, r2, r3, r4⟩ := ref (zrowI M 24 zz) (by rw [zrI_n (by decide)])
      have fz : gF [24] [0] M (zwI (zrowI M 24 zz) 89 0 (nI 0)) := gF.w9 (gF.rI gF.r (by decide) (by decide)) (by decide)
      by_cases hx1 : x = zm1
      · refine ⟨nI (gct (fun p => E n' p && decide (p < h 2)) (h 2)), zrowI M 24 zz, _, ?_, ?_, fz⟩
        · unfold mf_X11_said
          simp only [zl_lit, zl_m1, r0_5, r0_1, r0_3]
          rw [qa, if_neg hna, if_pos hx, ec, zcl_ok, if_pos hx1, c_bits (gbN_256 k2), zcl_ok, ← eP, gpc_ct]
          have : gct (fun p => E n' p && decide (p < h 2)) 8 = gct (fun p => E n' p && decide (p < h 2)) (h 2) := by
            have key : ∀ m, h 2 + m ≤ 8 → gct (fun p => E n' p && decide (p < h 2)) (h 2 + m) = gct (fun p => E n' p && decide (p < h 2)) (h 2) := by
              intro m
              induction m with
              | zero => intro _; rfl
              | succ m ih =>
                intro hm1
                have e : gct (fun p => E n' p && decide (p < h 2)) (h 2 + (m + 1)) = gct (fun p => E n' p && decide (p < h 2)) (h 2 + m) + (if (E n' (h 2 + m) && decide (h 2 + m < h 2)) = true then 1 else 0) := rfl
                rw [e, hP _ (by omega), ih (by omega)]
                try rfl
            have := key (8 - h 2) (by omega)
            rwa [show h 2 + (8 - h 2) = 8 by omega] at this
          rw [this]
        · rw [r1, m_ls k2 r2 r3 r4 (fun k hk => by rw [hx1, zm1_ne (by omega)]; exact not_false), if_pos hx1]
      · obtain ⟨r, b1, b2⟩ := k_bitAt (M1 := zrowI M 24 zz) k2 hP hx1 r2 r3 r4 8 0 0 zF zF rfl (by show 8 < 5000; omega) (by show 8 < 5000; omega)
        refine ⟨r, zrowI M 24 zz, _, ?_, ?_, fz⟩
        · rw [eP] at b1
          unfold mf_X11_said mf_X11_bitAt
          simp only [zl_lit, zl_m1, r0_5, r0_1, r0_3]
          rw [qa, if_neg hna, if_pos hx, ec, zcl_ok, if_neg hx1, b1, zcl_ok]
        · rw [r1, b2]
    · obtain ⟨r1, r2, r3, r4⟩ := ref M rfl
      have hx2 : ∀ k, k ≤ 8 → ¬ nI k = x := fun k hk e => hx (by rw [← e]; exact zm1_le (by omega))
      have hx1 : ¬ x = zm1 := fun e => hx (by rw [e]; exact Int32.le_refl _)
      refine ⟨zm1, M, zwI M 89 0 (nI 0), ?_, ?_, gF.w9 gF.r (by decide)⟩
      · unfold mf_X11_said
        simp only [zl_lit, zl_m1, r0_5]
        rw [qa, if_neg hna, if_neg hx]
      · rw [r1, m_ls k2 r2 r3 r4 hx2, if_neg hx1]
