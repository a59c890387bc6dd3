def mf_X12_count (R : zRR) (a0 : Nat) (i1 : Int32) (M : zMem) : Option (Int32 × zMem) :=
  zlet (zwI M a0 0 (0 : Int32)) fun M1 =>
  if i1 = 0 then
    (zald 354 (0 : Int32) fun j3 =>
    some ((M1.1 (zrf R a0 14) j3), M1))
  else
  if i1 = 1 then
    (zald 354 (1 : Int32) fun j5 =>
    some ((M1.1 (zrf R a0 14) j5), M1))
  else
  if i1 = 2 then
    (zald 354 (2 : Int32) fun j7 =>
    some ((M1.1 (zrf R a0 14) j7), M1))
  else
  if i1 = 3 then
    (zald 354 (3 : Int32) fun j9 =>
    some ((M1.1 (zrf R a0 14) j9), M1))
  else
  if i1 = 4 then
    (zald 354 (4 : Int32) fun j11 =>
    some ((M1.1 (zrf R a0 14) j11), M1))
  else
  if i1 = 5 then
    (zald 354 (5 : Int32) fun j13 =>
    some ((M1.1 (zrf R a0 14) j13), M1))
  else
  if i1 = 6 then
    (some ((M1.1 a0 2), M1))
  else
    (some ((-1 : Int32), M1))
theorem mc_X12_count (l : Launch) {T : zTT} {R : zRR} {a0 : Nat} (h0 : zi12 T R a0) (i1 : Int32) (M : zMem) : zMS l yX12_count mi_X12_count zrvI (mf_X12_count R a0 i1 M) [.ref a0, .int i1] T R M := by
  refine zMS.of (by decide +kernel) rfl ⟨rfl, rfl⟩ (Nat.le_of_ble_eq_true rfl) (fun C ad _ => ?_)
  show zX C mi_X12_count (zFin C zrvI ad T R) 0 0 (mf_X12_count R a0 i1 M) 0 [(0, .ref a0), (1, .int i1)] [] ad T R M
  unfold mf_X12_count
  refine zx_aload_n (i := 0) (zd me_X12_count 0 rfl) rfl 0 rfl ?_
  refine zx_iconst (v := 0) (zd me_X12_count 1 rfl) (by decide) ?_
  refine zx_putI (zd me_X12_count 2 rfl) fp_X12_1 (zi12_c h0) rfl (fun M1 _ => ?_)
  refine zx_iload_n (i := 1) (zd me_X12_count 3 rfl) rfl 1 rfl ?_
  refine zx_ite (fun c2 => ?_) (fun c2 => ?_)
  · refine zx_tin (off := 42) (tgt := 48) (zd me_X12_count 4 rfl) (by rw [c2]; decide) (by rw [c2]; decide) (by rw [c2]; rfl) (by decide) ?_
    refine zx_aload_n (i := 0) (zd me_X12_count 5 rfl) rfl 0 rfl ?_
    refine zx_getR (zd me_X12_count 6 rfl) fl_X12_98 (zi12_c h0) rfl (zi12_r14 h0) ?_
    refine zx_iconst (v := 0) (zd me_X12_count 7 rfl) (by decide) ?_
    refine zx_iald (zd me_X12_count 8 rfl) (zi12_t14 h0) (fun j3 hj3 => ?_)
    exact zx_iret (zd me_X12_count 9 rfl) rfl
  · refine zx_ite (fun c4 => ?_) (fun c4 => ?_)
    · refine zx_tin (off := 49) (tgt := 55) (zd me_X12_count 4 rfl) (by rw [c4]; decide) (by rw [c4]; decide) (by rw [c4]; rfl) (by decide) ?_
      refine zx_aload_n (i := 0) (zd me_X12_count 10 rfl) rfl 0 rfl ?_
      refine zx_getR (zd me_X12_count 11 rfl) fl_X12_98 (zi12_c h0) rfl (zi12_r14 h0) ?_
      refine zx_iconst (v := 1) (zd me_X12_count 12 rfl) (by decide) ?_
      refine zx_iald (zd me_X12_count 13 rfl) (zi12_t14 h0) (fun j5 hj5 => ?_)
      exact zx_iret (zd me_X12_count 14 rfl) rfl
    · refine zx_ite (fun c6 => ?_) (fun c6 => ?_)
      · refine zx_tin (off := 56) (tgt := 62) (zd me_X12_count 4 rfl) (by rw [c6]; decide) (by rw [c6]; decide) (by rw [c6]; rfl) (by decide) ?_
        refine zx_aload_n (i := 0) (zd me_X12_count 15 rfl) rfl 0 rfl ?_
        refine zx_getR (zd me_X12_count 16 rfl) fl_X12_98 (zi12_c h0) rfl (zi12_r14 h0) ?_
        refine zx_iconst (v := 2) (zd me_X12_count 17 rfl) (by decide) ?_
        refine zx_iald (zd me_X12_count 18 rfl) (zi12_t14 h0) (fun j7 hj7 => ?_)
        exact zx_iret (zd me_X12_count 19 rfl) rfl
      · refine zx_ite (fun c8 => ?_) (fun c8 => ?_)
        · refine zx_tin (off := 63) (tgt := 69) (zd me_X12_count 4 rfl) (by rw [c8]; decide) (by rw [c8]; decide) (by rw [c8]; rfl) (by decide) ?_
          refine zx_aload_n (i := 0) (zd me_X12_count 20 rfl) rfl 0 rfl ?_
          refine zx_getR (zd me_X12_count 21 rfl) fl_X12_98 (zi12_c h0) rfl (zi12_r14 h0) ?_
          refine zx_iconst (v := 3) (zd me_X12_count 22 rfl) (by decide) ?_
          refine zx_iald (zd me_X12_count 23 rfl) (zi12_t14 h0) (fun j9 hj9 => ?_)
          exact zx_iret (zd me_X12_count 24 rfl) rfl
        · refine zx_ite (fun c10 => ?_) (fun c10 => ?_)
          · refine zx_tin (off := 70) (tgt := 76) (zd me_X12_count 4 rfl) (by rw [c10]; decide) (by rw [c10]; decide) (by rw [c10]; rfl) (by decide) ?_
            refine zx_aload_n (i := 0) (zd me_X12_count 25 rfl) rfl 0 rfl ?_
            refine zx_getR (zd me_X12_count 26 rfl) fl_X12_98 (zi12_c h0) rfl (zi12_r14 h0) ?_
            refine zx_iconst (v := 4) (zd me_X12_count 27 rfl) (by decide) ?_
            refine zx_iald (zd me_X12_count 28 rfl) (zi12_t14 h0) (fun j11 hj11 => ?_)
            exact zx_iret (zd me_X12_count 29 rfl) rfl
          · refine zx_ite (fun c12 => ?_) (fun c12 => ?_)
            · refine zx_tin (off := 77) (tgt := 83) (zd me_X12_count 4 rfl) (by rw [c12]; decide) (by rw [c12]; decide) (by rw [c12]; rfl) (by decide) ?_
              refine zx_aload_n (i := 0) (zd me_X12_count 30 rfl) rfl 0 rfl ?_
              refine zx_getR (zd me_X12_count 31 rfl) fl_X12_98 (zi12_c h0) rfl (zi12_r14 h0) ?_
              refine zx_iconst (v := 5) (zd me_X12_count 32 rfl) (by decide) ?_
              refine zx_iald (zd me_X12_count 33 rfl) (zi12_t14 h0) (fun j13 hj13 => ?_)
              exact zx_iret (zd me_X12_count 34 rfl) rfl
            · refine zx_ite (fun c14 => ?_) (fun c14 => ?_)
              · refine zx_tin (off := 84) (tgt := 90) (zd me_X12_count 4 rfl) (by rw [c14]; decide) (by rw [c14]; decide) (by rw [c14]; rfl) (by decide) ?_
                refine zx_aload_n (i := 0) (zd me_X12_count 35 rfl) rfl 0 rfl ?_
                refine zx_getI (zd me_X12_count 36 rfl) fl_X12_11 (zi12_c h0) rfl ?_
                exact zx_iret (zd me_X12_count 37 rfl) rfl
              · refine zx_tout (tgt := 95) (zd me_X12_count 4 rfl) (by have e0 := lv_neT c2 (a := 0) (by decide); have e1 := lv_neT c4 (a := 1) (by decide); have e2 := lv_neT c6 (a := 2) (by decide); have e3 := lv_neT c8 (a := 3) (by decide); have e4 := lv_neT c10 (a := 4) (by decide); have e5 := lv_neT c12 (a := 5) (by decide); have e6 := lv_neT c14 (a := 6) (by decide); omega) (by decide) ?_
                refine zx_iconst (v := (-1)) (zd me_X12_count 38 rfl) (by decide) ?_
                exact zx_iret (zd me_X12_count 39 rfl) rfl
