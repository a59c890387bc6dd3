/-! THE LAW FROM ITS FIRST BYTE, AND ITS START -/
theorem zr_B {N a : Nat} {vs : List Value} (h : zBIG ≤ a) (t : zrefs N vs) : zrefs N (.ref a :: vs) := fun b hb => by
  rcases List.mem_cons.mp hb with e | e
  · cases e
    exact Or.inr h
  · exact t b e
theorem zScr.ag {C : zCx} {ad ad' : Nat → Nat} {L : Nat} {xs : Nat → Int32} (h : zScr C ad L xs) (ha : ad' (zBIG + 60) = ad (zBIG + 60)) : zScr C ad' L xs := by
  obtain ⟨p, l, e, Rm, s, m, args, below, meth, c, D, cs, A, K⟩ := C
  unfold zScr at h ⊢
  simp only [ha]
  exact h
def zM_0 : zMem := (fun _ _ => 0, fun _ _ => 0)
abbrev zRL : zRR := cR_X12 cR_X11 89 90
abbrev zTL : zTT := cT_X12 (cT_X11 ++ [(0, 12)])
/-- the law as a whole -/
def zfLaw (L : Nat) (xs : Nat → Int32) : Option (Int32 × zMem) :=
  zcl cf_X11 fun _ M1 =>
  zcl (cf_X12 cR_X11 89 90 (zrow0 M1 89)) fun _ M2 =>
  mf_L_loop zRL 0 89 114 L xs 600 (0 : Int32) (zrow0 M2 114)
theorem li9_L_22 : zLI RL 22 yX11_init mi9_X11_init 0 := ⟨⟨zgw (zt1 27 rfl rfl), lm_X11_init.1, lm_X11_init.2.1, lm_X11_init.2.2.1, lm_X11_init.2.2.2⟩, rfl, (zt1 28 rfl rfl)⟩
theorem li9_L_25 : zLI RL 25 yX12_init mi9_X12_init 0 := ⟨⟨zgw (zt6 80 rfl rfl), lm_X12_init.1, lm_X12_init.2.1, lm_X12_init.2.2.1, lm_X12_init.2.2.2⟩, rfl, (zt6 81 rfl rfl)⟩
theorem lw9_L_8 : Cond.classLink RL 8 "BathMinutes" ∈ zgtbl := zt1 25 rfl rfl
theorem lw9_L_23 : Cond.classLink RL 23 "BathMinutesModel" ∈ zgtbl := zt6 79 rfl rfl
set_option maxRecDepth 100000 in
theorem hw9_L : hW_X12 (cT_X11 ++ [(0, 12)]) cR_X11 89 90 := by
  unfold hW_X12 zi12
  repeat' apply And.intro
  all_goals first | trivial | decide +kernel
set_option maxRecDepth 100000 in
theorem zi12_L : zi12 (zTL ++ [(2, 1)]) zRL 89 := by
  unfold zi12
  repeat' apply And.intro
  all_goals first | trivial | decide +kernel
set_option maxRecDepth 100000 in
set_option maxHeartbeats 4000000 in
theorem zi11_L : zi11 (zTL ++ [(2, 1)]) zRL 0 := by
  unfold zi11 zi2 zi6 zi4 zi5 zi1 zi3 zi7 zi8 zi9 zi10 zi0
  repeat' apply And.intro
  all_goals first
    | trivial
    | decide +kernel
    | (intro j hj
       obtain rfl | rfl : j = 0 ∨ j = 1 := by omega
       all_goals (repeat' apply And.intro)
       all_goals first | trivial | decide +kernel)
theorem rok_00 : zRok 0 zR00 := fun o k b h => by cases h
theorem rok_L1 : zRok 90 cR_X11 := zRok.mono (N := 89) rok_X11 (by omega)
theorem rok_L2 : zRok 114 zRL := rok_X12 (N := 90) rok_L1 (by omega)
theorem zlen_T11 : cT_X11.length = 89 := by decide +kernel
theorem zlen_TL : zTL.length = 114 := by decide +kernel
set_option maxHeartbeats 4000000 in
set_option maxRecDepth 100000 in
theorem zlaw_walk {C : zCx} {ad : Nat → Nat} {Q : Int32 → zMem → State → Prop} {L : Nat} {xs : Nat → Int32} (hst : (zl C).stackTraces = false) (hs : zScr C ad L xs) (hfin : ∀ (ad : Nat → Nat) (k n : Nat) (T : zTT) (R : zRR) (M : zMem), k ≤ 601024 → n ≤ 7293034 → zX C mi_L_law Q k n (some ((1 : Int32), M)) 1439 [] [.int 1] ad T R M) : zX C mi_L_law Q 0 0 (zfLaw L xs) 0 [(0, .ref (zBIG + 60))] [] ad [] zR00 zM_0 := by
  unfold zfLaw
  refine zx_new (ci := 11) (qc := (RX11, TX11, 14)) (zd me_L_law_0 0 rfl) rfl lw9_L_8 ld9_X11.1 ld9_X11.2 (by decide +kernel) ⟨(Nat.le_of_ble_eq_true rfl), (Nat.le_of_ble_eq_true rfl)⟩ (by decide +kernel) rok_00 (by unfold zBIG; omega) zr_n (zr_B (by omega) zr_n) (fun q1 => ?_)
  refine zx_dup (zd me_L_law_0 1 rfl) rfl ?_
  refine zx_callI (N0 := 1) (as := []) (zd me_L_law_0 2 rfl) (mk_X11 (zl C)) li9_L_22 rfl ⟨(Nat.le_of_ble_eq_true rfl), (Nat.le_of_ble_eq_true rfl)⟩ (Nat.le_of_ble_eq_true rfl) rfl ⟨(Nat.le_of_ble_eq_true rfl), (Nat.le_of_ble_eq_true rfl)⟩ (zr_r (by omega) zr_n) (zr_B (by omega) zr_n) rfl (fun M1 ad1 _ hg1 => ?_)
  refine zx_astore_n (i := 1) (ls' := [(1, .ref 0), (0, .ref (zBIG + 60))]) (zd me_L_law_0 3 rfl) rfl (Nat.le_of_ble_eq_true rfl) rfl ?_
  refine zx_new (ci := 12) (qc := (RX12, TX12, 52)) (zd me_L_law_0 4 rfl) rfl lw9_L_23 ld9_X12.1 ld9_X12.2 (by decide +kernel) ⟨(Nat.le_of_ble_eq_true rfl), (Nat.le_of_ble_eq_true rfl)⟩ zlen_T11 rok_X11 (by unfold zBIG; omega) zr_n (zr_r (by omega) (zr_B (by omega) zr_n)) (fun q2 => ?_)
  refine zx_dup (zd me_L_law_0 5 rfl) rfl ?_
  refine zx_callI (N0 := 90) (as := []) (zd me_L_law_0 6 rfl) (mk_X12 (zl C) (N := 90) (by decide +kernel) (by omega) rok_L1 (by omega) (by decide +kernel) hw9_L) li9_L_25 rfl ⟨(Nat.le_of_ble_eq_true rfl), (Nat.le_of_ble_eq_true rfl)⟩ (Nat.le_of_ble_eq_true rfl) rfl ⟨(Nat.le_of_ble_eq_true rfl), (Nat.le_of_ble_eq_true rfl)⟩ (zr_r (by omega) zr_n) (zr_r (by omega) (zr_B (by omega) zr_n)) rfl (fun M2 ad2 _ hg2 => ?_)
  refine zx_astore_n (i := 2) (ls' := [(2, .ref 89), (1, .ref 0), (0, .ref (zBIG + 60))]) (zd me_L_law_0 7 rfl) rfl (Nat.le_of_ble_eq_true rfl) rfl ?_
  refine zx_iconst (v := 1) (zd me_L_law_0 8 rfl) (by decide) ?_
  refine zx_newaL (NN := 1) (zd me_L_law_0 9 rfl) la9_L (by decide) (by decide) (by decide) ⟨(Nat.le_of_ble_eq_true rfl), (Nat.le_of_ble_eq_true rfl)⟩ zlen_TL rok_L2 (by unfold zBIG; omega) zr_n (zr_r (by omega) (zr_r (by omega) (zr_B (by omega) zr_n))) (fun q3 => ?_)
  refine zx_astore_n (i := 3) (ls' := [(3, .ref 114), (2, .ref 89), (1, .ref 0), (0, .ref (zBIG + 60))]) (zd me_L_law_0 10 rfl) rfl (Nat.le_of_ble_eq_true rfl) rfl ?_
  refine zx_iconst (v := 0) (zd me_L_law_0 11 rfl) (by decide) ?_
  refine zx_istore (i := 4) (ls' := [(4, .int 0), (3, .ref 114), (2, .ref 89), (1, .ref 0), (0, .ref (zBIG + 60))]) (zd me_L_law_0 12 rfl) (Nat.le_of_ble_eq_true rfl) rfl ?_
  refine zx_loc (ls' := [(0, .ref (zBIG + 60)), (1, .ref 0), (2, .ref 89), (3, .ref 114), (4, .int 0)]) [4, 3, 2, 1, 0] rfl ?_
  refine mt_L_loop hst (hs.ag ?_) zi11_L zi12_L ?_ (fun k n M h1 h2 => hfin _ k n _ _ M h1 h2) 600 _ _ (Nat.le_of_ble_eq_true rfl) (Nat.le_of_ble_eq_true rfl) 0 _
  · have hB : (114 : Nat) < zBIG := by unfold zBIG; omega
    rw [va_up_ne _ _ (by omega), hg2 _ (Or.inr (by omega)), va_up_ne _ _ (by omega), hg1 _ (Or.inr (by omega)), va_up_ne _ _ (by omega)]
  · rw [List.getElem?_append_right (by rw [zlen_TL]; exact Nat.le_refl _), zlen_TL]
    rfl
