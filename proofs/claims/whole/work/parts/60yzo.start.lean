/-! THE START -/
theorem gz0_s {M : zMem} {o : Nat} : (zrow0 M o).1 o = fun _ => nI 0 := if_pos rfl
theorem gz0_n {M : zMem} {o q : Nat} (h : q ≠ o) : (zrow0 M o).1 q = M.1 q := if_neg h
theorem gz0_Ls {M : zMem} {o : Nat} : (zrow0 M o).2 o = fun _ => 0 := if_pos rfl
theorem gz0_Ln {M : zMem} {o q : Nat} (h : q ≠ o) : (zrow0 M o).2 q = M.2 q := if_neg h
theorem c_begG {h : zN} {R : zRR} {a0 c r : Nat} {M : zMem} (h1 : zrf R a0 1 = c) (h0 : zrf R a0 0 = r) (hcr : r ≠ c) : mf_X3_begin R a0 M = some ((), zrowI M c (upd (gBg h 62 (M.1 c)) 61 (M.1 r 5))) := by
  have st : ∀ (i : Nat) (v : Int32), v = (if 20 ≤ i ∧ i < 28 then zm1 else nI 0) → upd (gBg h i (M.1 c)) i v = gBg h (i + 1) (M.1 c) := fun i v hv => by
    funext j
    unfold upd gBg
    by_cases e : j = i
    · subst e; rw [if_pos rfl, if_pos (show j < j + 1 by omega), hv]
    · rw [if_neg e]
      by_cases w : j < i
      · rw [if_pos w, if_pos (show j < i + 1 by omega)]
      · rw [if_neg w, if_neg (show ¬ j < i + 1 by omega)]
  have g0 : zrowI M c (gBg h 0 (M.1 c)) = M := grI_id (by funext j; exact (if_neg (by omega)).symm)
  have key : mf_X3_begin_l2 R a0 zF (nI 0) (zrowI M c (gBg h 0 (M.1 c))) = some ((), zrowI M c (upd (gBg h 62 (M.1 c)) 61 (M.1 r 5))) := by
    refine gfor (G := fun f i => mf_X3_begin_l2 R a0 f (nI i) (zrowI M c (gBg h i (M.1 c)))) (n := 62) (fun f i hi => ?_) (fun f => ?_) _ (by first | (show _ < 5000; omega) | omega)
    · rw [mf_X3_begin_l2]
      unfold mf_X3_begin_b29 mf_X3_begin_b30
      simp only [zl_lit, zlet_ok, zl_m1]
      rw [if_neg (by rw [nI_leI (by omega) (by omega)]; omega), h1]
      simp (disch := omega) only [zald_nI, gwI, grI_rI, zrI_s, nI_add]
      by_cases w1 : i < 20
      · rw [if_pos ((nI_ltI (by omega) (by omega)).mpr w1), st i (nI 0) (if_neg (by omega)).symm]
      · rw [if_neg (by rw [nI_ltI (by omega) (by omega)]; exact w1)]
        by_cases w2 : 28 ≤ i
        · rw [if_pos ((nI_leI (by omega) (by omega)).mpr w2), st i (nI 0) (if_neg (by omega)).symm]
        · rw [if_neg (by rw [nI_leI (by omega) (by omega)]; exact w2), st i zm1 (if_pos (by omega)).symm]
    · rw [mf_X3_begin_l2]
      simp only [zl_lit, zlet_ok]
      rw [if_pos (by rw [nI_leI (by omega) (by omega)]; omega), zald_nI (by omega) (by omega), h1, h0, zrI_n hcr, gwI, grI_rI, zrI_s]
  rw [g0] at key
  unfold mf_X3_begin
  simp only [zl_lit]
  exact key
/-! the keywords' row -/
def gYw : Nat → Nat
  | 0 => 0
  | i + 1 => if zsch 0 i = nI 32 then gYw i + 1 else gYw i
def gYz (g : Nat → Int64) : Nat → Nat → Int64
  | 0 => g
  | i + 1 => if zsch 0 i = nI 32 then gYz g i else vp_updL (gYz g i) (gYw i) ((((gYz g i (gYw i)) <<< ((nI 5).toInt64 &&& 63)) + (zsch 0 i).toInt64) - 96)
theorem gYw_lt : ∀ i, i < 128 → gYw i < 24 := by decide +kernel
theorem gYz_k : ∀ k, k < 24 → gYz (fun _ => 0) 128 k = lN (gPk 32 (gKw k) 0) := by decide +kernel
theorem gzslen : zslen 0 = nI 128 := by decide +kernel
theorem s_keys {R : zRR} {a0 rr : Nat} {M : zMem} (hr : zrf R a0 11 = rr) : mf_X10_init_l25 R a0 zF (nI 0) (nI 0) M = some ((), zrowL M rr (gYz (M.2 rr) 128)) := by
  have key : mf_X10_init_l25 R a0 zF (nI 0) (nI 0) (zrowL M rr (gYz (M.2 rr) 0)) = some ((), zrowL M rr (gYz (M.2 rr) 128)) := by
    refine gfor (G := fun f i => mf_X10_init_l25 R a0 f (nI (gYw i)) (nI i) (zrowL M rr (gYz (M.2 rr) i))) (n := 128) (fun f i hi => ?_) (fun f => ?_) _ (by show _ < 5000; omega)
    · have hk := gYw_lt i hi
      show mf_X10_init_l25 R a0 (f + 1) (nI (gYw i)) (nI i) (zrowL M rr (gYz (M.2 rr) i)) = mf_X10_init_l25 R a0 f (nI (gYw (i + 1))) (nI (i + 1)) (zrowL M rr (gYz (M.2 rr) (i + 1)))
      have e0 : zlenJS.getD 0 0 = 128 := rfl
      have e1 : gYw (i + 1) = if zsch 0 i = nI 32 then gYw i + 1 else gYw i := rfl
      have e2 : gYz (M.2 rr) (i + 1) = if zsch 0 i = nI 32 then gYz (M.2 rr) i else vp_updL (gYz (M.2 rr) i) (gYw i) ((((gYz (M.2 rr) i (gYw i)) <<< ((nI 5).toInt64 &&& 63)) + (zsch 0 i).toInt64) - 96) := rfl
      rw [mf_X10_init_l25, e0, e1, e2]
      unfold mf_X10_init_b80
      simp only [zl_lit, zlet_ok, gzslen, hr]
      rw [if_neg (show ¬ nI 128 ≤ nI i by rw [nI_leI (by omega) (by omega)]; omega), if_neg (show ¬ nI 24 ≤ nI (gYw i) by rw [nI_leI (by omega) (by omega)]; omega), zald_nI (by omega) (by omega)]
      by_cases c : zsch 0 i = nI 32
      · rw [if_pos c, if_pos c, if_pos c, nI_add, nI_add]
      · rw [if_neg c, if_neg c, if_neg c, zald_nI (by omega) (by omega), zald_nI (by omega) (by omega), gwL, grL_rL, zrL_s, nI_add]
    · show mf_X10_init_l25 R a0 (f + 1) (nI (gYw 128)) (nI 128) (zrowL M rr (gYz (M.2 rr) 128)) = _
      rw [mf_X10_init_l25]
      rw [gzslen, if_pos (by rw [nI_leI (by omega) (by omega)]; omega)]
  rw [show gYz (M.2 rr) 0 = M.2 rr from rfl, grL_id rfl] at key
  exact key
/-! all rows are 0, but some -/
abbrev gIdP : List Nat := [4, 10, 17, 19, 50, 52, 54, 55, 64, 77, 89, 91]
abbrev gzf : Nat → Int32 := fun _ => nI 0
def gT0 (f4 f17 f55 : Nat → Int32) (g3 : Nat → Int64) (M : zMem) : Prop := (∀ q, q ∉ gIdP → M.1 q = gzf) ∧ (∀ q, q ≠ 3 → M.2 q = fun _ => 0) ∧ M.1 4 = f4 ∧ M.1 17 = f17 ∧ M.1 55 = f55 ∧ M.2 3 = g3
theorem gT0.z0 {f4 f17 f55 : Nat → Int32} {g3 : Nat → Int64} {M : zMem} {o : Nat} (h : gT0 f4 f17 f55 g3 M) (h3 : o ≠ 3 ∨ g3 = fun _ => 0) (h4 : o ≠ 4 ∨ f4 = gzf) (h17 : o ≠ 17 ∨ f17 = gzf) (h55 : o ≠ 55 ∨ f55 = gzf) : gT0 f4 f17 f55 g3 (zrow0 M o) := by
  obtain ⟨a1, a2, a3, a4, a5, a6⟩ := h
  refine ⟨fun q hq => ?_, fun q hq => ?_, ?_, ?_, ?_, ?_⟩
  · by_cases e : q = o
    · subst e; exact gz0_s
    · rw [gz0_n e]; exact a1 q hq
  · by_cases e : q = o
    · subst e; exact gz0_Ls
    · rw [gz0_Ln e]; exact a2 q hq
  · by_cases e : o = 4
    · subst e
      rw [gz0_s]
      rcases h4 with h | h
      · exact absurd rfl h
      · exact h.symm
    · rw [gz0_n (Ne.symm e)]; exact a3
  · by_cases e : o = 17
    · subst e
      rw [gz0_s]
      rcases h17 with h | h
      · exact absurd rfl h
      · exact h.symm
    · rw [gz0_n (Ne.symm e)]; exact a4
  · by_cases e : o = 55
    · subst e
      rw [gz0_s]
      rcases h55 with h | h
      · exact absurd rfl h
      · exact h.symm
    · rw [gz0_n (Ne.symm e)]; exact a5
  · by_cases e : o = 3
    · subst e
      rw [gz0_Ls]
      rcases h3 with h | h
      · exact absurd rfl h
      · exact h.symm
    · rw [gz0_Ln (Ne.symm e)]; exact a6
theorem gT0.n0 {f4 f17 f55 : Nat → Int32} {g3 : Nat → Int64} {M : zMem} {o : Nat} (h : gT0 f4 f17 f55 g3 M) (ho : o ∉ [3, 4, 17, 55]) : gT0 f4 f17 f55 g3 (zrow0 M o) := by
  simp at ho
  exact h.z0 (Or.inl (by omega)) (Or.inl (by omega)) (Or.inl (by omega)) (Or.inl (by omega))
theorem gT0.rI {f4 f17 f55 : Nat → Int32} {g3 : Nat → Int64} {M : zMem} {o : Nat} {g : Nat → Int32} (h : gT0 f4 f17 f55 g3 M) (hi : o ∈ gIdP) : gT0 (if o = 4 then g else f4) (if o = 17 then g else f17) (if o = 55 then g else f55) g3 (zrowI M o g) := by
  obtain ⟨a1, a2, a3, a4, a5, a6⟩ := h
  refine ⟨fun q hq => ?_, a2, ?_, ?_, ?_, a6⟩
  · rw [zrI_n (fun e => hq (by rw [e]; exact hi))]; exact a1 q hq
  · by_cases e : o = 4
    · rw [if_pos e, e, zrI_s]
    · rw [if_neg e, zrI_n (Ne.symm e)]; exact a3
  · by_cases e : o = 17
    · rw [if_pos e, e, zrI_s]
    · rw [if_neg e, zrI_n (Ne.symm e)]; exact a4
  · by_cases e : o = 55
    · rw [if_pos e, e, zrI_s]
    · rw [if_neg e, zrI_n (Ne.symm e)]; exact a5
theorem gT0.i {f4 f17 f55 : Nat → Int32} {g3 : Nat → Int64} {M : zMem} {o : Nat} {g : Nat → Int32} (h : gT0 f4 f17 f55 g3 M) (hi : o ∈ gIdP) (ho : o ∉ [3, 4, 17, 55]) : gT0 f4 f17 f55 g3 (zrowI M o g) := by
  simp at ho
  have := h.rI (g := g) hi
  rw [if_neg ho.2.1, if_neg ho.2.2.1, if_neg ho.2.2.2] at this
  exact this
theorem gT0.s0 {f4 f17 f55 : Nat → Int32} {g3 : Nat → Int64} {M : zMem} {N c : Nat} (h : gT0 f4 f17 f55 g3 M) (ho : ∀ o, N ≤ o → o < N + c → o ∉ [3, 4, 17, 55]) : gT0 f4 f17 f55 g3 (zrows0 M N c) := by
  obtain ⟨a1, a2, a3, a4, a5, a6⟩ := h
  have n1 : ∀ q, ¬ (N ≤ q ∧ q < N + c) → (zrows0 M N c).1 q = M.1 q := fun q hq => if_neg hq
  have n2 : ∀ q, ¬ (N ≤ q ∧ q < N + c) → (zrows0 M N c).2 q = M.2 q := fun q hq => if_neg hq
  refine ⟨fun q hq => ?_, fun q hq => ?_, ?_, ?_, ?_, ?_⟩
  · by_cases e : N ≤ q ∧ q < N + c
    · exact if_pos e
    · rw [n1 q e]; exact a1 q hq
  · by_cases e : N ≤ q ∧ q < N + c
    · exact if_pos e
    · rw [n2 q e]; exact a2 q hq
  · rw [n1 4 (fun e => ho 4 e.1 e.2 (by decide))]; exact a3
  · rw [n1 17 (fun e => ho 17 e.1 e.2 (by decide))]; exact a4
  · rw [n1 55 (fun e => ho 55 e.1 e.2 (by decide))]; exact a5
  · rw [n2 3 (fun e => ho 3 e.1 e.2 (by decide))]; exact a6
/-! the parts -/
theorem s_X7 {f4 f17 f55 : Nat → Int32} {g3 : Nat → Int64} {M : zMem} {R : zRR} {a0 N : Nat} (h : gT0 f4 f17 f55 g3 M) (ha : a0 ∈ gIdP) (hb : a0 ∉ [3, 4, 17, 55]) (hN : ∀ o, N ≤ o → o < N + 5 → o ∉ [3, 4, 17, 55]) : ∃ M1, cf_X7 R a0 N M = some ((), M1) ∧ gT0 f4 f17 f55 g3 M1 := by
  unfold cf_X7
  simp only [zlet_ok]
  exact ⟨_, rfl, gT0.n0 (gT0.n0 (gT0.n0 (gT0.n0 (gT0.n0 (gT0.i h ha hb) (hN _ (by omega) (by omega))) (hN _ (by omega) (by omega))) (hN _ (by omega) (by omega))) (hN _ (by omega) (by omega))) (hN _ (by omega) (by omega))⟩
theorem s_X74 {f17 f55 : Nat → Int32} {g3 : Nat → Int64} {M : zMem} {R : zRR} {N : Nat} (h : gT0 gzf f17 f55 g3 M) (hN : ∀ o, N ≤ o → o < N + 5 → o ∉ [3, 4, 17, 55]) : ∃ M1, cf_X7 R 4 N M = some ((), M1) ∧ gT0 (upd gzf 5 (nI 5)) f17 f55 g3 M1 := by
  have h1 : gT0 (upd (M.1 4) 5 (nI 5)) f17 f55 g3 (zwI M 4 5 (nI 5)) := gT0.rI h (o := 4) (by decide)
  rw [h.2.2.1] at h1
  unfold cf_X7
  simp only [zlet_ok, zl_lit]
  exact ⟨_, rfl, gT0.n0 (gT0.n0 (gT0.n0 (gT0.n0 (gT0.n0 h1 (hN _ (by omega) (by omega))) (hN _ (by omega) (by omega))) (hN _ (by omega) (by omega))) (hN _ (by omega) (by omega))) (hN _ (by omega) (by omega))⟩
theorem s_X3 {f4 f17 f55 : Nat → Int32} {g3 : Nat → Int64} {M : zMem} {R : zRR} {a0 a1 N : Nat} (h : gT0 f4 f17 f55 g3 M) (h1 : zrf (sR_X3_1 R a0 a1 N) a0 1 = N) (h0 : zrf (sR_X3_1 R a0 a1 N) a0 0 = 4) (ha : N ∈ gIdP) (hb : N ∉ [3, 4, 17, 55]) : ∃ M1, cf_X3 R a0 a1 N M = some ((), M1) ∧ gT0 f4 f17 f55 g3 M1 := by
  have hN : (4 : Nat) ≠ N := fun e => hb (by rw [← e]; decide)
  unfold cf_X3
  rw [c_begG (h := fun _ => 0) h1 h0 hN, zcl_ok]
  exact ⟨_, rfl, gT0.i (gT0.n0 h hb) ha hb⟩
theorem s_X317 {f4 f55 : Nat → Int32} {g3 : Nat → Int64} {M : zMem} {R : zRR} {a0 a1 : Nat} (h : gT0 f4 gzf f55 g3 M) (h1 : zrf (sR_X3_1 R a0 a1 17) a0 1 = 17) (h0 : zrf (sR_X3_1 R a0 a1 17) a0 0 = 4) : ∃ M1, cf_X3 R a0 a1 17 M = some ((), M1) ∧ gT0 f4 (upd (gBg (fun _ => 0) 62 gzf) 61 (f4 5)) f55 g3 M1 := by
  have z := h.z0 (o := 17) (Or.inl (by decide)) (Or.inl (by decide)) (Or.inr rfl) (Or.inl (by decide))
  have q := z.rI (o := 17) (g := upd (gBg (fun _ => 0) 62 ((zrow0 M 17).1 17)) 61 ((zrow0 M 17).1 4 5)) (by decide)
  rw [z.2.2.1, z.2.2.2.1] at q
  unfold cf_X3
  rw [c_begG (h := fun _ => 0) h1 h0 (by decide), zcl_ok]
  refine ⟨_, rfl, ?_⟩
  rw [z.2.2.1, z.2.2.2.1]
  exact q
theorem s_X8 {f4 f17 f55 : Nat → Int32} {g3 : Nat → Int64} {M : zMem} {R : zRR} {a0 N : Nat} (h : gT0 f4 f17 f55 g3 M) (hN : ∀ o, N ≤ o → o < N + 4 → o ∉ [3, 4, 17, 55]) : ∃ M1, cf_X8 R a0 N M = some ((), M1) ∧ gT0 f4 f17 f55 g3 M1 := ⟨_, rfl, gT0.n0 (gT0.n0 (gT0.n0 (gT0.n0 h (hN _ (by omega) (by omega))) (hN _ (by omega) (by omega))) (hN _ (by omega) (by omega))) (hN _ (by omega) (by omega))⟩
theorem s_X6 {f4 f17 f55 : Nat → Int32} {g3 : Nat → Int64} {M : zMem} (h : gT0 f4 f17 f55 g3 M) : ∃ M1, cf_X6 sR_X11_17 44 4 16 18 45 M = some ((), M1) ∧ gT0 f4 f17 f55 g3 M1 := by
  unfold cf_X6
  obtain ⟨M1, a1, a2⟩ := s_X3 (R := sR_X6_5 sR_X11_17 44 4 16 18 45) (a0 := 45 + 4) (a1 := 4) (N := 45 + 5) (gT0.n0 (gT0.n0 (gT0.n0 (gT0.n0 (gT0.n0 h (o := 45) (by decide)) (o := 45 + 1) (by decide)) (o := 45 + 2) (by decide)) (o := 45 + 3) (by decide)) (o := 45 + 4) (by decide)) (by decide +kernel) (by decide +kernel) (by decide) (by decide)
  obtain ⟨M2, b1, b2⟩ := s_X3 (R := sR_X6_7 sR_X11_17 44 4 16 18 45) (a0 := 45 + 6) (a1 := 4) (N := 45 + 7) (gT0.n0 a2 (o := 45 + 6) (by decide)) (by decide +kernel) (by decide +kernel) (by decide) (by decide)
  obtain ⟨M3, c1, c2⟩ := s_X3 (R := sR_X6_9 sR_X11_17 44 4 16 18 45) (a0 := 45 + 8) (a1 := 4) (N := 45 + 9) (gT0.n0 b2 (o := 45 + 8) (by decide)) (by decide +kernel) (by decide +kernel) (by decide) (by decide)
  rw [a1, zcl_ok, b1, zcl_ok, c1, zcl_ok]
  exact ⟨M3, rfl, c2⟩
theorem s_X2 {f4 f17 f55 : Nat → Int32} {g3 : Nat → Int64} {M : zMem} {R : zRR} {a0 N : Nat} (h : gT0 f4 f17 f55 g3 M) (hN : 56 < N) (hi : N ∈ gIdP) : ∃ M1, cf_X2 R a0 N M = some ((), M1) ∧ gT0 f4 f17 f55 g3 M1 := by
  have nm : ∀ o, 56 < o → o ∉ [3, 4, 17, 55] := by
    intro o ho
    try simp
    omega
  unfold cf_X2
  obtain ⟨M1, a1, a2⟩ := s_X7 (R := R) (a0 := N) (N := N + 1) (gT0.n0 h (nm N hN)) hi (nm N hN) (fun o _ _ => nm o (by omega))
  obtain ⟨M2, b1, b2⟩ := s_X8 (R := sR_X2_1 R a0 N) (a0 := N + 6) (N := N + 7) (gT0.n0 a2 (nm (N + 6) (by omega))) (fun o _ _ => nm o (by omega))
  rw [a1, zcl_ok, b1, zcl_ok]
  exact ⟨_, rfl, gT0.n0 b2 (nm _ (by omega))⟩
abbrev gf4 : Nat → Int32 := upd gzf 5 (nI 5)
abbrev gf17 : Nat → Int32 := upd (gBg (fun _ => 0) 62 gzf) 61 (nI 5)
abbrev gf55 : Nat → Int32 := upd gzf 5 zm1
abbrev gg3 : Nat → Int64 := gYz (fun _ => 0) 128
theorem s_X11 : ∃ M1, cf_X11 = some ((), M1) ∧ gT0 gf4 gf17 gf55 gg3 M1 := by
  have h0 : gT0 gzf gzf gzf (fun _ => 0) (zrow0 zM00 1) := by
    have e : gT0 gzf gzf gzf (fun _ => 0) ((fun _ _ => 0, fun _ _ => 0) : zMem) := ⟨fun _ _ => rfl, fun _ _ => rfl, rfl, rfl, rfl, rfl⟩
    exact gT0.n0 (gT0.n0 e (o := 0) (by decide)) (by decide)
  have h1 : gT0 gzf gzf gzf (fun _ => 0) (zrow0 (zrow0 (zrow0 zM00 1) 2) 3) := (h0.n0 (o := 2) (by decide)).z0 (Or.inr rfl) (Or.inl (by decide)) (Or.inl (by decide)) (Or.inl (by decide))
  have e10 : cf_X10 zR00 1 2 (zrow0 zM00 1) = some ((), zrowL (zrow0 (zrow0 (zrow0 zM00 1) 2) 3) 3 gg3) := by
    unfold cf_X10
    have := s_keys (R := sR_X10_1 zR00 1 2) (a0 := 1) (rr := 3) (M := zrow0 (zrow0 (zrow0 zM00 1) 2) 3) (by decide +kernel)
    rw [gz0_Ls] at this
    exact this
  have h2 : gT0 gzf gzf gzf gg3 (zrowL (zrow0 (zrow0 (zrow0 zM00 1) 2) 3) 3 gg3) := by
    obtain ⟨a1, a2, a3, a4, a5, a6⟩ := h1
    exact ⟨a1, fun q hq => by rw [zrL_n hq]; exact a2 q hq, a3, a4, a5, zrL_s⟩
  obtain ⟨M2, a1, a2⟩ := s_X74 (R := sR_X11_1) (N := 5) (h2.z0 (o := 4) (Or.inl (by decide)) (Or.inr rfl) (Or.inl (by decide)) (Or.inl (by decide))) (by intro o; simp; omega)
  obtain ⟨M3, b1, b2⟩ := s_X7 (R := sR_X11_3) (a0 := 10) (N := 11) (a2.n0 (o := 10) (by decide)) (by decide) (by decide) (by intro o; simp; omega)
  obtain ⟨M4, c1, c2⟩ := s_X317 (R := sR_X11_5) (a0 := 16) (a1 := 4) (b2.n0 (o := 16) (by decide)) (by decide +kernel) (by decide +kernel)
  obtain ⟨M5, d1, d2⟩ := s_X3 (R := sR_X11_7) (a0 := 18) (a1 := 4) (N := 19) (c2.n0 (o := 18) (by decide)) (by decide +kernel) (by decide +kernel) (by decide) (by decide)
  obtain ⟨M6, i1, i2⟩ := s_X8 (R := sR_X11_9) (a0 := 20) (N := 21) (d2.n0 (o := 20) (by decide)) (by intro o; simp; omega)
  obtain ⟨M7, j1, j2⟩ := s_X8 (R := sR_X11_11) (a0 := 25) (N := 26) (i2.n0 (o := 25) (by decide)) (by intro o; simp; omega)
  have k2 : gT0 gf4 gf17 gzf gg3 (zrow0 (zrow0 (zrow0 M7 30) 31) (31 + 1)) := ((j2.n0 (o := 30) (by decide)).n0 (o := 31) (by decide)).n0 (o := 31 + 1) (by decide)
  have k1 : cf_X0 sR_X11_13 30 31 (zrow0 M7 30) = some ((), zrow0 (zrow0 (zrow0 M7 30) 31) (31 + 1)) := rfl
  have l1 : cf_X5 sR_X11_15 33 34 (zrow0 (zrow0 (zrow0 (zrow0 M7 30) 31) (31 + 1)) 33) = some ((), zrows0 (zrow0 (zrow0 (zrow0 (zrow0 M7 30) 31) (31 + 1)) 33) 34 10) := rfl
  have l2 : gT0 gf4 gf17 gzf gg3 (zrow0 (zrows0 (zrow0 (zrow0 (zrow0 (zrow0 M7 30) 31) (31 + 1)) 33) 34 10) 44) := (gT0.s0 (k2.n0 (o := 33) (by decide)) (by intro o; simp; omega)).n0 (by decide)
  obtain ⟨M8, m1, m2⟩ := s_X6 l2
  have n2 : gT0 gf4 gf17 gzf gg3 (zrow0 (zrow0 (zrow0 (zrow0 M8 55) 56) (56 + 1)) (56 + 2)) := (((m2.z0 (o := 55) (Or.inl (by decide)) (Or.inl (by decide)) (Or.inl (by decide)) (Or.inr rfl)).n0 (o := 56) (by decide)).n0 (o := 56 + 1) (by decide)).n0 (o := 56 + 2) (by decide)
  have n1 : cf_X4 sR_X11_19 55 4 56 (zrow0 M8 55) = some ((), zwI (zrow0 (zrow0 (zrow0 (zrow0 M8 55) 56) (56 + 1)) (56 + 2)) 55 5 zm1) := rfl
  have n3 : gT0 gf4 gf17 gf55 gg3 (zwI (zrow0 (zrow0 (zrow0 (zrow0 M8 55) 56) (56 + 1)) (56 + 2)) 55 5 zm1) := by
    have := n2.rI (o := 55) (g := upd ((zrow0 (zrow0 (zrow0 (zrow0 M8 55) 56) (56 + 1)) (56 + 2)).1 55) 5 zm1) (by decide)
    rw [n2.2.2.2.2.1] at this
    unfold zwI
    rw [n2.2.2.2.2.1]
    exact this
  have o1 : ∀ M, cf_X1 sR_X11_21 59 60 M = some ((), M) := fun M => rfl
  have p1 : ∀ M, cf_X9 sR_X11_23 60 61 M = some ((), zrow0 M 61) := fun M => rfl
  obtain ⟨M9, u1, u2⟩ := s_X2 (R := sR_X11_26) (a0 := 63) (N := 64) (gT0.n0 (gT0.n0 (gT0.n0 (gT0.n0 (gT0.n0 n3 (o := 59) (by decide)) (o := 60) (by decide)) (o := 61) (by decide)) (o := 62) (by decide)) (o := 63) (by decide)) (by decide) (by decide)
  obtain ⟨M10, v1, v2⟩ := s_X2 (R := sR_X11_28) (a0 := 76) (N := 77) (u2.n0 (o := 76) (by decide)) (by decide) (by decide)
  refine ⟨M10, ?_, v2⟩
  unfold cf_X11
  rw [e10, zcl_ok, a1, zcl_ok, b1, zcl_ok, c1, zcl_ok, d1, zcl_ok, i1, zcl_ok, j1, zcl_ok, k1, zcl_ok, l1, zcl_ok, m1, zcl_ok, n1, zcl_ok, o1, zcl_ok, p1, zcl_ok, u1, zcl_ok, v1, zcl_ok]
/-- the reference's start -/
abbrev gf91 : Nat → Int32 := gZm 8 (upd (gZr 298 gf4) 57 (nI 5))
theorem s_X12 {M : zMem} (h : gT0 gf4 gf17 gf55 gg3 M) : ∃ M1, cf_X12 cR_X11 89 90 (zrow0 M 89) = some ((), M1) ∧ gT0 gf4 gf17 gf55 gg3 M1 ∧ M1.1 89 = upd gzf 35 zm1 ∧ M1.1 91 = gf91 := by
  have n0 : gT0 gf4 gf17 gf55 gg3 (zrow0 M 89) := h.n0 (by decide)
  unfold cf_X12
  simp only [zlet_ok, zl_lit, zl_m1]
  rw [zald_nI (by omega) (by omega)]
  have key : ∀ X : zMem, gT0 gf4 gf17 gf55 gg3 X → X.1 89 = upd gzf 35 zm1 → X.1 91 = gzf → ∃ M1, (zcl (mf_X12_startSo gR 89 (zwI X (90 + 1) 5 (nI 5))) fun _ M28 => some ((), M28)) = some ((), M1) ∧ gT0 gf4 gf17 gf55 gg3 M1 ∧ M1.1 89 = upd gzf 35 zm1 ∧ M1.1 91 = gf91 := by
    intro X x1 x2 x3
    have e91 : (zwI X 91 5 (nI 5)).1 91 = gf4 := by rw [zwI_s, x3]
    have ms := m_startSo (M := zwI X 91 5 (nI 5)) (r := gf4)
    rw [grI_id e91] at ms
    have e5 : gf4 5 = nI 5 := rfl
    rw [e5] at ms
    refine ⟨zrowI (zwI X 91 5 (nI 5)) 91 gf91, ?_, gT0.i (gT0.i x1 (by decide) (by decide)) (by decide) (by decide), ?_, zrI_s⟩
    · show (zcl (mf_X12_startSo gR 89 (zwI X 91 5 (nI 5))) fun _ M28 => some ((), M28)) = _
      rw [ms, zcl_ok]
    · rw [zrI_n (by decide), zwI_n (by decide), x2]
  refine key _ ?_ ?_ ?_
  · repeat first | exact n0 | refine gT0.n0 ?_ (by decide) | refine gT0.i ?_ (by decide) (by decide)
  · simp (disch := decide) only [gz0_n, zwI_s, gz0_s]
  · simp (disch := decide) only [gz0_n, zwI_n, gz0_s]
