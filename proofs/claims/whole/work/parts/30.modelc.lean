def mf_X12_live (R : zRR) (a0 : Nat) (i1 : Int32) (i2 : Int32) (M : zMem) : Option (Unit × zMem) :=
  if i1 = 0 then
    (zcl (mf_X12_starts R a0 i2 M) fun _ M2 =>
    some ((), M2))
  else
  if i1 = 1 then
    (zcl (mf_X12_goesOut R a0 i2 (3 : Int32) M) fun _ M5 =>
    some ((), M5))
  else
  if i1 = 2 then
    (zcl (mf_X12_goesOut R a0 i2 (0 : Int32) M) fun _ M8 =>
    some ((), M8))
  else
    (zald 354 ((58 : Int32) + i2) fun j10 =>
    zlet (zwI M (zrf R a0 14) j10 (0 : Int32)) fun M11 =>
    zald 354 (57 : Int32) fun j12 =>
    zald 354 (57 : Int32) fun j13 =>
    zlet (zwI M11 (zrf R a0 14) j13 ((M11.1 (zrf R a0 14) j12) - (1 : Int32))) fun M14 =>
    some ((), M14))
theorem mc_X12_live (l : Launch) {T : zTT} {R : zRR} {a0 : Nat} (h0 : zi12 T R a0) (i1 : Int32) (i2 : Int32) (M : zMem) : zMS l yX12_live mi_X12_live zrvV (mf_X12_live R a0 i1 i2 M) [.ref a0, .int i1, .int i2] T R M := by
  refine zMS.of (by decide +kernel) rfl ⟨rfl, rfl⟩ (Nat.le_of_ble_eq_true rfl) (fun C ad _ => ?_)
  show zX C mi_X12_live (zFin C zrvV ad T R) 0 0 (mf_X12_live R a0 i1 i2 M) 0 [(0, .ref a0), (1, .int i1), (2, .int i2)] [] ad T R M
  unfold mf_X12_live
  refine zx_iload_n (i := 1) (zd me_X12_live 0 rfl) rfl 1 rfl ?_
  refine zx_ite (fun c1 => ?_) (fun c1 => ?_)
  · refine zx_tin (off := 27) (tgt := 28) (zd me_X12_live 1 rfl) (by rw [c1]; decide) (by rw [c1]; decide) (by rw [c1]; rfl) (by decide) ?_
    refine zx_aload_n (i := 0) (zd me_X12_live 2 rfl) rfl 0 rfl ?_
    refine zx_iload_n (i := 2) (zd me_X12_live 3 rfl) rfl 2 rfl ?_
    refine zx_callVV1 (zd me_X12_live 4 rfl) (mc_X12_starts (zl C) h0 i2 M) lk_X12_293 ⟨(Nat.le_of_ble_eq_true rfl), (Nat.le_of_ble_eq_true rfl)⟩ (Nat.le_of_ble_eq_true rfl) (zi12_c h0) rfl (fun r3 M2 => ?_)
    exact zx_vret (zd me_X12_live 5 rfl) rfl
  · refine zx_ite (fun c4 => ?_) (fun c4 => ?_)
    · refine zx_tin (off := 33) (tgt := 34) (zd me_X12_live 1 rfl) (by rw [c4]; decide) (by rw [c4]; decide) (by rw [c4]; rfl) (by decide) ?_
      refine zx_aload_n (i := 0) (zd me_X12_live 6 rfl) rfl 0 rfl ?_
      refine zx_iload_n (i := 2) (zd me_X12_live 7 rfl) rfl 2 rfl ?_
      refine zx_iconst (v := 3) (zd me_X12_live 8 rfl) (by decide) ?_
      refine zx_callVV2 (zd me_X12_live 9 rfl) (mc_X12_goesOut (zl C) h0 i2 (3 : Int32) M) lk_X12_286 ⟨(Nat.le_of_ble_eq_true rfl), (Nat.le_of_ble_eq_true rfl)⟩ (Nat.le_of_ble_eq_true rfl) (zi12_c h0) rfl (fun r6 M5 => ?_)
      exact zx_vret (zd me_X12_live 10 rfl) rfl
    · refine zx_ite (fun c7 => ?_) (fun c7 => ?_)
      · refine zx_tin (off := 40) (tgt := 41) (zd me_X12_live 1 rfl) (by rw [c7]; decide) (by rw [c7]; decide) (by rw [c7]; rfl) (by decide) ?_
        refine zx_aload_n (i := 0) (zd me_X12_live 11 rfl) rfl 0 rfl ?_
        refine zx_iload_n (i := 2) (zd me_X12_live 12 rfl) rfl 2 rfl ?_
        refine zx_iconst (v := 0) (zd me_X12_live 13 rfl) (by decide) ?_
        refine zx_callVV2 (zd me_X12_live 14 rfl) (mc_X12_goesOut (zl C) h0 i2 (0 : Int32) M) lk_X12_286 ⟨(Nat.le_of_ble_eq_true rfl), (Nat.le_of_ble_eq_true rfl)⟩ (Nat.le_of_ble_eq_true rfl) (zi12_c h0) rfl (fun r9 M8 => ?_)
        exact zx_vret (zd me_X12_live 15 rfl) rfl
      · refine zx_tout (tgt := 48) (zd me_X12_live 1 rfl) (by have e0 := lv_neT c1 (a := 0) (by decide); have e1 := lv_neT c4 (a := 1) (by decide); have e2 := lv_neT c7 (a := 2) (by decide); omega) (by decide) ?_
        refine zx_aload_n (i := 0) (zd me_X12_live 16 rfl) rfl 0 rfl ?_
        refine zx_getR (zd me_X12_live 17 rfl) fl_X12_98 (zi12_c h0) rfl (zi12_r14 h0) ?_
        refine zx_bipush (v := 58) (zd me_X12_live 18 rfl) (by decide) ?_
        refine zx_iload_n (i := 2) (zd me_X12_live 19 rfl) rfl 2 rfl ?_
        refine zx_iadd (zd me_X12_live 20 rfl) ?_
        refine zx_iconst (v := 0) (zd me_X12_live 21 rfl) (by decide) ?_
        refine zx_iast (zd me_X12_live 22 rfl) (zi12_t14 h0) (fun M11 => ?_)
        refine zx_aload_n (i := 0) (zd me_X12_live 23 rfl) rfl 0 rfl ?_
        refine zx_getR (zd me_X12_live 24 rfl) fl_X12_98 (zi12_c h0) rfl (zi12_r14 h0) ?_
        refine zx_bipush (v := 57) (zd me_X12_live 25 rfl) (by decide) ?_
        refine zx_dup2 (zd me_X12_live 26 rfl) rfl rfl ?_
        refine zx_iald (zd me_X12_live 27 rfl) (zi12_t14 h0) (fun j12 hj12 => ?_)
        refine zx_iconst (v := 1) (zd me_X12_live 28 rfl) (by decide) ?_
        refine zx_isub (zd me_X12_live 29 rfl) ?_
        refine zx_iast (zd me_X12_live 30 rfl) (zi12_t14 h0) (fun M14 => ?_)
        exact zx_vret (zd me_X12_live 31 rfl) rfl
def mf_X12_act (R : zRR) (a0 : Nat) (i1 : Int32) (i2 : Int32) (i3 : Int32) (M : zMem) : Option (Int32 × zMem) :=
  if i3 = 0 then
    (some ((-1 : Int32), M))
  else
    (zcl (mf_X12_why R a0 i1 i2 M) fun r3 M2 =>
    if r3 = 0 then
      (zcl (mf_X12_snap R a0 M2) fun _ M5 =>
      zcl (mf_X12_live R a0 i1 i2 M5) fun _ M7 =>
      some ((0 : Int32), M7))
    else
      (some (r3, M2)))
theorem mc_X12_act (l : Launch) {T : zTT} {R : zRR} {a0 : Nat} (h0 : zi12 T R a0) (i1 : Int32) (i2 : Int32) (i3 : Int32) (M : zMem) : zMS l yX12_act mi_X12_act zrvI (mf_X12_act R a0 i1 i2 i3 M) [.ref a0, .int i1, .int i2, .int i3] T R M := by
  refine zMS.of (by decide +kernel) rfl ⟨rfl, rfl⟩ (Nat.le_of_ble_eq_true rfl) (fun C ad _ => ?_)
  show zX C mi_X12_act (zFin C zrvI ad T R) 0 0 (mf_X12_act R a0 i1 i2 i3 M) 0 [(0, .ref a0), (1, .int i1), (2, .int i2), (3, .int i3)] [] ad T R M
  unfold mf_X12_act
  refine zx_iload_n (i := 3) (zd me_X12_act 0 rfl) rfl 3 rfl ?_
  refine zx_if_ne (tgt := 6) (zd me_X12_act 1 rfl) (by decide) (fun c1 => ?_) (fun c1 => ?_)
  · refine zx_aload_n (i := 0) (zd me_X12_act 4 rfl) rfl 0 rfl ?_
    refine zx_iload_n (i := 1) (zd me_X12_act 5 rfl) rfl 1 rfl ?_
    refine zx_iload_n (i := 2) (zd me_X12_act 6 rfl) rfl 2 rfl ?_
    refine zx_callVI2 (zd me_X12_act 7 rfl) (mc_X12_why (zl C) h0 i1 i2 M) lk_X12_296 ⟨(Nat.le_of_ble_eq_true rfl), (Nat.le_of_ble_eq_true rfl)⟩ (Nat.le_of_ble_eq_true rfl) (zi12_c h0) rfl (fun r3 M2 => ?_)
    refine zx_istore (ls' := [(4, .int r3), (0, .ref a0), (1, .int i1), (2, .int i2), (3, .int i3)]) (zd me_X12_act 8 rfl) (Nat.le_of_ble_eq_true rfl) rfl ?_
    refine zx_iload (zd me_X12_act 9 rfl) 0 rfl ?_
    refine zx_if_eq (tgt := 22) (zd me_X12_act 10 rfl) (by decide) (fun c4 => ?_) (fun c4 => ?_)
    · refine zx_aload_n (i := 0) (zd me_X12_act 13 rfl) rfl 1 rfl ?_
      refine zx_callVV0 (zd me_X12_act 14 rfl) (mc_X12_snap (zl C) h0 M2) lk_X12_299 ⟨(Nat.le_of_ble_eq_true rfl), (Nat.le_of_ble_eq_true rfl)⟩ (Nat.le_of_ble_eq_true rfl) (zi12_c h0) rfl (fun r6 M5 => ?_)
      refine zx_aload_n (i := 0) (zd me_X12_act 15 rfl) rfl 1 rfl ?_
      refine zx_iload_n (i := 1) (zd me_X12_act 16 rfl) rfl 2 rfl ?_
      refine zx_iload_n (i := 2) (zd me_X12_act 17 rfl) rfl 3 rfl ?_
      refine zx_callVV2 (zd me_X12_act 18 rfl) (mc_X12_live (zl C) h0 i1 i2 M5) lk_X12_302 ⟨(Nat.le_of_ble_eq_true rfl), (Nat.le_of_ble_eq_true rfl)⟩ (Nat.le_of_ble_eq_true rfl) (zi12_c h0) rfl (fun r8 M7 => ?_)
      refine zx_iconst (v := 0) (zd me_X12_act 19 rfl) (by decide) ?_
      exact zx_iret (zd me_X12_act 20 rfl) rfl
    · refine zx_iload (zd me_X12_act 11 rfl) 0 rfl ?_
      exact zx_iret (zd me_X12_act 12 rfl) rfl
  · refine zx_iconst (v := (-1)) (zd me_X12_act 2 rfl) (by decide) ?_
    exact zx_iret (zd me_X12_act 3 rfl) rfl
def mf_X12_start (R : zRR) (a0 : Nat) (i1 : Int32) (M : zMem) : Option (Int32 × zMem) :=
  zlet (zwI M a0 0 (0 : Int32)) fun M1 =>
  zcl (mf_X12_isSheet R a0 i1 M1) fun r3 M2 =>
  zcl (mf_X12_act R a0 (0 : Int32) i1 r3 M2) fun r5 M4 =>
  some (r5, M4)
theorem mc_X12_start (l : Launch) {T : zTT} {R : zRR} {a0 : Nat} (h0 : zi12 T R a0) (i1 : Int32) (M : zMem) : zMS l yX12_start mi_X12_start zrvI (mf_X12_start R a0 i1 M) [.ref a0, .int i1] T R M := by
  refine zMS.of (by decide +kernel) rfl ⟨rfl, rfl⟩ (Nat.le_of_ble_eq_true rfl) (fun C ad _ => ?_)
  show zX C mi_X12_start (zFin C zrvI ad T R) 0 0 (mf_X12_start R a0 i1 M) 0 [(0, .ref a0), (1, .int i1)] [] ad T R M
  unfold mf_X12_start
  refine zx_aload_n (i := 0) (zd me_X12_start 0 rfl) rfl 0 rfl ?_
  refine zx_iconst (v := 0) (zd me_X12_start 1 rfl) (by decide) ?_
  refine zx_putI (zd me_X12_start 2 rfl) fp_X12_1 (zi12_c h0) rfl (fun M1 _ => ?_)
  refine zx_aload_n (i := 0) (zd me_X12_start 3 rfl) rfl 0 rfl ?_
  refine zx_iconst (v := 0) (zd me_X12_start 4 rfl) (by decide) ?_
  refine zx_iload_n (i := 1) (zd me_X12_start 5 rfl) rfl 1 rfl ?_
  refine zx_aload_n (i := 0) (zd me_X12_start 6 rfl) rfl 0 rfl ?_
  refine zx_iload_n (i := 1) (zd me_X12_start 7 rfl) rfl 1 rfl ?_
  refine zx_callVI1 (zd me_X12_start 8 rfl) (mc_X12_isSheet (zl C) h0 i1 M1) lk_X12_261 ⟨(Nat.le_of_ble_eq_true rfl), (Nat.le_of_ble_eq_true rfl)⟩ (Nat.le_of_ble_eq_true rfl) (zi12_c h0) rfl (fun r3 M2 => ?_)
  refine zx_callVI3 (zd me_X12_start 9 rfl) (mc_X12_act (zl C) h0 (0 : Int32) i1 r3 M2) lk_X12_305 ⟨(Nat.le_of_ble_eq_true rfl), (Nat.le_of_ble_eq_true rfl)⟩ (Nat.le_of_ble_eq_true rfl) (zi12_c h0) rfl (fun r5 M4 => ?_)
  exact zx_iret (zd me_X12_start 10 rfl) rfl
def mf_X12_take_ (R : zRR) (a0 : Nat) (i1 : Int32) (M : zMem) : Option (Int32 × zMem) :=
  zlet (zwI M a0 0 (0 : Int32)) fun M1 =>
  zcl (mf_X12_isSheet R a0 i1 M1) fun r3 M2 =>
  zcl (mf_X12_act R a0 (1 : Int32) i1 r3 M2) fun r5 M4 =>
  some (r5, M4)
theorem mc_X12_take_ (l : Launch) {T : zTT} {R : zRR} {a0 : Nat} (h0 : zi12 T R a0) (i1 : Int32) (M : zMem) : zMS l yX12_take_ mi_X12_take_ zrvI (mf_X12_take_ R a0 i1 M) [.ref a0, .int i1] T R M := by
  refine zMS.of (by decide +kernel) rfl ⟨rfl, rfl⟩ (Nat.le_of_ble_eq_true rfl) (fun C ad _ => ?_)
  show zX C mi_X12_take_ (zFin C zrvI ad T R) 0 0 (mf_X12_take_ R a0 i1 M) 0 [(0, .ref a0), (1, .int i1)] [] ad T R M
  unfold mf_X12_take_
  refine zx_aload_n (i := 0) (zd me_X12_take_ 0 rfl) rfl 0 rfl ?_
  refine zx_iconst (v := 0) (zd me_X12_take_ 1 rfl) (by decide) ?_
  refine zx_putI (zd me_X12_take_ 2 rfl) fp_X12_1 (zi12_c h0) rfl (fun M1 _ => ?_)
  refine zx_aload_n (i := 0) (zd me_X12_take_ 3 rfl) rfl 0 rfl ?_
  refine zx_iconst (v := 1) (zd me_X12_take_ 4 rfl) (by decide) ?_
  refine zx_iload_n (i := 1) (zd me_X12_take_ 5 rfl) rfl 1 rfl ?_
  refine zx_aload_n (i := 0) (zd me_X12_take_ 6 rfl) rfl 0 rfl ?_
  refine zx_iload_n (i := 1) (zd me_X12_take_ 7 rfl) rfl 1 rfl ?_
  refine zx_callVI1 (zd me_X12_take_ 8 rfl) (mc_X12_isSheet (zl C) h0 i1 M1) lk_X12_261 ⟨(Nat.le_of_ble_eq_true rfl), (Nat.le_of_ble_eq_true rfl)⟩ (Nat.le_of_ble_eq_true rfl) (zi12_c h0) rfl (fun r3 M2 => ?_)
  refine zx_callVI3 (zd me_X12_take_ 9 rfl) (mc_X12_act (zl C) h0 (1 : Int32) i1 r3 M2) lk_X12_305 ⟨(Nat.le_of_ble_eq_true rfl), (Nat.le_of_ble_eq_true rfl)⟩ (Nat.le_of_ble_eq_true rfl) (zi12_c h0) rfl (fun r5 M4 => ?_)
  exact zx_iret (zd me_X12_take_ 10 rfl) rfl
def mf_X12_again (R : zRR) (a0 : Nat) (i1 : Int32) (M : zMem) : Option (Int32 × zMem) :=
  zlet (zwI M a0 0 (0 : Int32)) fun M1 =>
  zcl (mf_X12_isSheet R a0 i1 M1) fun r3 M2 =>
  zcl (mf_X12_act R a0 (2 : Int32) i1 r3 M2) fun r5 M4 =>
  some (r5, M4)
theorem mc_X12_again (l : Launch) {T : zTT} {R : zRR} {a0 : Nat} (h0 : zi12 T R a0) (i1 : Int32) (M : zMem) : zMS l yX12_again mi_X12_again zrvI (mf_X12_again R a0 i1 M) [.ref a0, .int i1] T R M := by
  refine zMS.of (by decide +kernel) rfl ⟨rfl, rfl⟩ (Nat.le_of_ble_eq_true rfl) (fun C ad _ => ?_)
  show zX C mi_X12_again (zFin C zrvI ad T R) 0 0 (mf_X12_again R a0 i1 M) 0 [(0, .ref a0), (1, .int i1)] [] ad T R M
  unfold mf_X12_again
  refine zx_aload_n (i := 0) (zd me_X12_again 0 rfl) rfl 0 rfl ?_
  refine zx_iconst (v := 0) (zd me_X12_again 1 rfl) (by decide) ?_
  refine zx_putI (zd me_X12_again 2 rfl) fp_X12_1 (zi12_c h0) rfl (fun M1 _ => ?_)
  refine zx_aload_n (i := 0) (zd me_X12_again 3 rfl) rfl 0 rfl ?_
  refine zx_iconst (v := 2) (zd me_X12_again 4 rfl) (by decide) ?_
  refine zx_iload_n (i := 1) (zd me_X12_again 5 rfl) rfl 1 rfl ?_
  refine zx_aload_n (i := 0) (zd me_X12_again 6 rfl) rfl 0 rfl ?_
  refine zx_iload_n (i := 1) (zd me_X12_again 7 rfl) rfl 1 rfl ?_
  refine zx_callVI1 (zd me_X12_again 8 rfl) (mc_X12_isSheet (zl C) h0 i1 M1) lk_X12_261 ⟨(Nat.le_of_ble_eq_true rfl), (Nat.le_of_ble_eq_true rfl)⟩ (Nat.le_of_ble_eq_true rfl) (zi12_c h0) rfl (fun r3 M2 => ?_)
  refine zx_callVI3 (zd me_X12_again 9 rfl) (mc_X12_act (zl C) h0 (2 : Int32) i1 r3 M2) lk_X12_305 ⟨(Nat.le_of_ble_eq_true rfl), (Nat.le_of_ble_eq_true rfl)⟩ (Nat.le_of_ble_eq_true rfl) (zi12_c h0) rfl (fun r5 M4 => ?_)
  exact zx_iret (zd me_X12_again 10 rfl) rfl
def mf_X12_renew (R : zRR) (a0 : Nat) (i1 : Int32) (M : zMem) : Option (Int32 × zMem) :=
  zlet (zwI M a0 0 (0 : Int32)) fun M1 =>
  zcl (mf_X12_isBath R a0 i1 M1) fun r3 M2 =>
  zcl (mf_X12_act R a0 (3 : Int32) i1 r3 M2) fun r5 M4 =>
  some (r5, M4)
theorem mc_X12_renew (l : Launch) {T : zTT} {R : zRR} {a0 : Nat} (h0 : zi12 T R a0) (i1 : Int32) (M : zMem) : zMS l yX12_renew mi_X12_renew zrvI (mf_X12_renew R a0 i1 M) [.ref a0, .int i1] T R M := by
  refine zMS.of (by decide +kernel) rfl ⟨rfl, rfl⟩ (Nat.le_of_ble_eq_true rfl) (fun C ad _ => ?_)
  show zX C mi_X12_renew (zFin C zrvI ad T R) 0 0 (mf_X12_renew R a0 i1 M) 0 [(0, .ref a0), (1, .int i1)] [] ad T R M
  unfold mf_X12_renew
  refine zx_aload_n (i := 0) (zd me_X12_renew 0 rfl) rfl 0 rfl ?_
  refine zx_iconst (v := 0) (zd me_X12_renew 1 rfl) (by decide) ?_
  refine zx_putI (zd me_X12_renew 2 rfl) fp_X12_1 (zi12_c h0) rfl (fun M1 _ => ?_)
  refine zx_aload_n (i := 0) (zd me_X12_renew 3 rfl) rfl 0 rfl ?_
  refine zx_iconst (v := 3) (zd me_X12_renew 4 rfl) (by decide) ?_
  refine zx_iload_n (i := 1) (zd me_X12_renew 5 rfl) rfl 1 rfl ?_
  refine zx_aload_n (i := 0) (zd me_X12_renew 6 rfl) rfl 0 rfl ?_
  refine zx_iload_n (i := 1) (zd me_X12_renew 7 rfl) rfl 1 rfl ?_
  refine zx_callVI1 (zd me_X12_renew 8 rfl) (mc_X12_isBath (zl C) h0 i1 M1) lk_X12_249 ⟨(Nat.le_of_ble_eq_true rfl), (Nat.le_of_ble_eq_true rfl)⟩ (Nat.le_of_ble_eq_true rfl) (zi12_c h0) rfl (fun r3 M2 => ?_)
  refine zx_callVI3 (zd me_X12_renew 9 rfl) (mc_X12_act (zl C) h0 (3 : Int32) i1 r3 M2) lk_X12_305 ⟨(Nat.le_of_ble_eq_true rfl), (Nat.le_of_ble_eq_true rfl)⟩ (Nat.le_of_ble_eq_true rfl) (zi12_c h0) rfl (fun r5 M4 => ?_)
  exact zx_iret (zd me_X12_renew 10 rfl) rfl
def mf_X12_undo (R : zRR) (a0 : Nat) (M : zMem) : Option (Int32 × zMem) :=
  zlet (zwI M a0 0 (0 : Int32)) fun M1 =>
  if (M1.1 a0 26) = 0 then
    (some ((-1 : Int32), M1))
  else
    (zlet (zwI M1 a0 26 ((M1.1 a0 26) - (1 : Int32))) fun M3 =>
    zcl (mf_X12_comeBack R a0 (zrf R a0 17) 448 ((56 : Int32) * (M3.1 a0 26)) M3) fun _ M4 =>
    some ((M4.1 a0 26), M4))
theorem mc_X12_undo (l : Launch) {T : zTT} {R : zRR} {a0 : Nat} (h0 : zi12 T R a0) (M : zMem) : zMS l yX12_undo mi_X12_undo zrvI (mf_X12_undo R a0 M) [.ref a0] T R M := by
  refine zMS.of (by decide +kernel) rfl ⟨rfl, rfl⟩ (Nat.le_of_ble_eq_true rfl) (fun C ad _ => ?_)
  show zX C mi_X12_undo (zFin C zrvI ad T R) 0 0 (mf_X12_undo R a0 M) 0 [(0, .ref a0)] [] ad T R M
  unfold mf_X12_undo
  refine zx_aload_n (i := 0) (zd me_X12_undo 0 rfl) rfl 0 rfl ?_
  refine zx_iconst (v := 0) (zd me_X12_undo 1 rfl) (by decide) ?_
  refine zx_putI (zd me_X12_undo 2 rfl) fp_X12_1 (zi12_c h0) rfl (fun M1 _ => ?_)
  refine zx_aload_n (i := 0) (zd me_X12_undo 3 rfl) rfl 0 rfl ?_
  refine zx_getI (zd me_X12_undo 4 rfl) fl_X12_227 (zi12_c h0) rfl ?_
  refine zx_if_ne (tgt := 14) (zd me_X12_undo 5 rfl) (by decide) (fun c2 => ?_) (fun c2 => ?_)
  · refine zx_aload_n (i := 0) (zd me_X12_undo 8 rfl) rfl 0 rfl ?_
    refine zx_dup (zd me_X12_undo 9 rfl) rfl ?_
    refine zx_getI (zd me_X12_undo 10 rfl) fl_X12_227 (zi12_c h0) rfl ?_
    refine zx_iconst (v := 1) (zd me_X12_undo 11 rfl) (by decide) ?_
    refine zx_isub (zd me_X12_undo 12 rfl) ?_
    refine zx_putI (zd me_X12_undo 13 rfl) fp_X12_227 (zi12_c h0) rfl (fun M3 _ => ?_)
    refine zx_aload_n (i := 0) (zd me_X12_undo 14 rfl) rfl 0 rfl ?_
    refine zx_aload_n (i := 0) (zd me_X12_undo 15 rfl) rfl 0 rfl ?_
    refine zx_getR (zd me_X12_undo 16 rfl) fl_X12_107 (zi12_c h0) rfl (zi12_r17 h0) ?_
    refine zx_bipush (v := 56) (zd me_X12_undo 17 rfl) (by decide) ?_
    refine zx_aload_n (i := 0) (zd me_X12_undo 18 rfl) rfl 0 rfl ?_
    refine zx_getI (zd me_X12_undo 19 rfl) fl_X12_227 (zi12_c h0) rfl ?_
    refine zx_imul (zd me_X12_undo 20 rfl) ?_
    refine zx_callVV2 (zd me_X12_undo 21 rfl) (mc_X12_comeBack (zl C) h0 (zi12_t17 h0) ((56 : Int32) * (M3.1 a0 26)) M3) lk_X12_309 ⟨(Nat.le_of_ble_eq_true rfl), (Nat.le_of_ble_eq_true rfl)⟩ (Nat.le_of_ble_eq_true rfl) (zi12_c h0) rfl (fun r5 M4 => ?_)
    refine zx_aload_n (i := 0) (zd me_X12_undo 22 rfl) rfl 0 rfl ?_
    refine zx_getI (zd me_X12_undo 23 rfl) fl_X12_227 (zi12_c h0) rfl ?_
    exact zx_iret (zd me_X12_undo 24 rfl) rfl
  · refine zx_iconst (v := (-1)) (zd me_X12_undo 6 rfl) (by decide) ?_
    exact zx_iret (zd me_X12_undo 7 rfl) rfl
def mf_X12_bathes_b25 (R : zRR) (a0 : Nat) (i1 : Int32) (i2 : Int32) (M : zMem) : Option (Unit × zMem) :=
  zald 354 ((80 : Int32) + i1) fun j6 =>
  if (M.1 (zrf R a0 14) j6) ≤ 0 then
    (zcl (mf_X12_nextOf R a0 i1 i2 M) fun r9 M8 =>
    if r9 = (-1 : Int32) then
      (zcl (mf_X12_goesOut R a0 i1 (2 : Int32) M8) fun _ M27 =>
      some ((), M27))
    else
      (zcl (mf_X12_isOpen R a0 r9 M8) fun r12 M11 =>
      if r12 = 0 then
        (zald 354 ((88 : Int32) + i1) fun j14 =>
        zald 354 (3 : Int32) fun j15 =>
        if (M11.1 (zrf R a0 14) j14) = (M11.1 (zrf R a0 14) j15) then
          (zcl (mf_X12_goesOut R a0 i1 (3 : Int32) M11) fun _ M23 =>
          some ((), M23))
        else
          (zald 354 ((88 : Int32) + i1) fun j17 =>
          zald 354 ((88 : Int32) + i1) fun j18 =>
          zlet (zwI M11 (zrf R a0 14) j18 ((M11.1 (zrf R a0 14) j17) + (1 : Int32))) fun M19 =>
          zald 354 ((96 : Int32) + i1) fun j20 =>
          zald 354 ((96 : Int32) + i1) fun j21 =>
          zlet (zwI M19 (zrf R a0 14) j21 ((M19.1 (zrf R a0 14) j20) + (1 : Int32))) fun M22 =>
          some ((), M22)))
      else
        (zcl (mf_X12_comesInto R a0 i1 r9 M11) fun _ M25 =>
        some ((), M25))))
  else
    (some ((), M))
theorem mt_X12_bathes_b25 {C : zCx} {ad : Nat → Nat} {T : zTT} {R : zRR} {a0 : Nat} (h0 : zi12 T R a0) (i1 : Int32) (i2 : Int32) (M : zMem) : zX C mi_X12_bathes (zFin C zrvV ad T R) 0 0 (mf_X12_bathes_b25 R a0 i1 i2 M) 25 [(0, .ref a0), (1, .int i1), (2, .int i2)] [] ad T R M := by
  unfold mf_X12_bathes_b25
  refine zx_aload_n (i := 0) (zd me_X12_bathes 17 rfl) rfl 0 rfl ?_
  refine zx_getR (zd me_X12_bathes 18 rfl) fl_X12_98 (zi12_c h0) rfl (zi12_r14 h0) ?_
  refine zx_bipush (v := 80) (zd me_X12_bathes 19 rfl) (by decide) ?_
  refine zx_iload_n (i := 1) (zd me_X12_bathes 20 rfl) rfl 1 rfl ?_
  refine zx_iadd (zd me_X12_bathes 21 rfl) ?_
  refine zx_iald (zd me_X12_bathes 22 rfl) (zi12_t14 h0) (fun j6 hj6 => ?_)
  refine zx_if_le (tgt := 38) (zd me_X12_bathes 23 rfl) (by decide) (fun c7 => ?_) (fun c7 => ?_)
  · refine zx_aload_n (i := 0) (zd me_X12_bathes 25 rfl) rfl 0 rfl ?_
    refine zx_iload_n (i := 1) (zd me_X12_bathes 26 rfl) rfl 1 rfl ?_
    refine zx_iload_n (i := 2) (zd me_X12_bathes 27 rfl) rfl 2 rfl ?_
    refine zx_callVI2 (zd me_X12_bathes 28 rfl) (mc_X12_nextOf (zl C) h0 i1 i2 M) lk_X12_277 ⟨(Nat.le_of_ble_eq_true rfl), (Nat.le_of_ble_eq_true rfl)⟩ (Nat.le_of_ble_eq_true rfl) (zi12_c h0) rfl (fun r9 M8 => ?_)
    refine zx_istore_n (i := 3) (ls' := [(3, .int r9), (0, .ref a0), (1, .int i1), (2, .int i2)]) (zd me_X12_bathes 29 rfl) rfl (Nat.le_of_ble_eq_true rfl) rfl ?_
    refine zx_iload_n (i := 3) (zd me_X12_bathes 30 rfl) rfl 0 rfl ?_
    refine zx_iconst (v := (-1)) (zd me_X12_bathes 31 rfl) (by decide) ?_
    refine zx_icmp_ne (tgt := 59) (zd me_X12_bathes 32 rfl) (by decide) (fun c10 => ?_) (fun c10 => ?_)
    · refine zx_aload_n (i := 0) (zd me_X12_bathes 38 rfl) rfl 1 rfl ?_
      refine zx_iload_n (i := 3) (zd me_X12_bathes 39 rfl) rfl 0 rfl ?_
      refine zx_callVI1 (zd me_X12_bathes 40 rfl) (mc_X12_isOpen (zl C) h0 r9 M8) lk_X12_252 ⟨(Nat.le_of_ble_eq_true rfl), (Nat.le_of_ble_eq_true rfl)⟩ (Nat.le_of_ble_eq_true rfl) (zi12_c h0) rfl (fun r12 M11 => ?_)
      refine zx_if_eq (tgt := 76) (zd me_X12_bathes 41 rfl) (by decide) (fun c13 => ?_) (fun c13 => ?_)
      · refine zx_aload_n (i := 0) (zd me_X12_bathes 47 rfl) rfl 1 rfl ?_
        refine zx_getR (zd me_X12_bathes 48 rfl) fl_X12_98 (zi12_c h0) rfl (zi12_r14 h0) ?_
        refine zx_bipush (v := 88) (zd me_X12_bathes 49 rfl) (by decide) ?_
        refine zx_iload_n (i := 1) (zd me_X12_bathes 50 rfl) rfl 2 rfl ?_
        refine zx_iadd (zd me_X12_bathes 51 rfl) ?_
        refine zx_iald (zd me_X12_bathes 52 rfl) (zi12_t14 h0) (fun j14 hj14 => ?_)
        refine zx_aload_n (i := 0) (zd me_X12_bathes 53 rfl) rfl 1 rfl ?_
        refine zx_getR (zd me_X12_bathes 54 rfl) fl_X12_98 (zi12_c h0) rfl (zi12_r14 h0) ?_
        refine zx_iconst (v := 3) (zd me_X12_bathes 55 rfl) (by decide) ?_
        refine zx_iald (zd me_X12_bathes 56 rfl) (zi12_t14 h0) (fun j15 hj15 => ?_)
        refine zx_icmp_ne (tgt := 103) (zd me_X12_bathes 57 rfl) (by decide) (fun c16 => ?_) (fun c16 => ?_)
        · refine zx_aload_n (i := 0) (zd me_X12_bathes 63 rfl) rfl 1 rfl ?_
          refine zx_getR (zd me_X12_bathes 64 rfl) fl_X12_98 (zi12_c h0) rfl (zi12_r14 h0) ?_
          refine zx_bipush (v := 88) (zd me_X12_bathes 65 rfl) (by decide) ?_
          refine zx_iload_n (i := 1) (zd me_X12_bathes 66 rfl) rfl 2 rfl ?_
          refine zx_iadd (zd me_X12_bathes 67 rfl) ?_
          refine zx_dup2 (zd me_X12_bathes 68 rfl) rfl rfl ?_
          refine zx_iald (zd me_X12_bathes 69 rfl) (zi12_t14 h0) (fun j17 hj17 => ?_)
          refine zx_iconst (v := 1) (zd me_X12_bathes 70 rfl) (by decide) ?_
          refine zx_iadd (zd me_X12_bathes 71 rfl) ?_
          refine zx_iast (zd me_X12_bathes 72 rfl) (zi12_t14 h0) (fun M19 => ?_)
          refine zx_aload_n (i := 0) (zd me_X12_bathes 73 rfl) rfl 1 rfl ?_
          refine zx_getR (zd me_X12_bathes 74 rfl) fl_X12_98 (zi12_c h0) rfl (zi12_r14 h0) ?_
          refine zx_bipush (v := 96) (zd me_X12_bathes 75 rfl) (by decide) ?_
          refine zx_iload_n (i := 1) (zd me_X12_bathes 76 rfl) rfl 2 rfl ?_
          refine zx_iadd (zd me_X12_bathes 77 rfl) ?_
          refine zx_dup2 (zd me_X12_bathes 78 rfl) rfl rfl ?_
          refine zx_iald (zd me_X12_bathes 79 rfl) (zi12_t14 h0) (fun j20 hj20 => ?_)
          refine zx_iconst (v := 1) (zd me_X12_bathes 80 rfl) (by decide) ?_
          refine zx_iadd (zd me_X12_bathes 81 rfl) ?_
          refine zx_iast (zd me_X12_bathes 82 rfl) (zi12_t14 h0) (fun M22 => ?_)
          exact zx_vret (zd me_X12_bathes 83 rfl) rfl
        · refine zx_aload_n (i := 0) (zd me_X12_bathes 58 rfl) rfl 1 rfl ?_
          refine zx_iload_n (i := 1) (zd me_X12_bathes 59 rfl) rfl 2 rfl ?_
          refine zx_iconst (v := 3) (zd me_X12_bathes 60 rfl) (by decide) ?_
          refine zx_callVV2 (zd me_X12_bathes 61 rfl) (mc_X12_goesOut (zl C) h0 i1 (3 : Int32) M11) lk_X12_286 ⟨(Nat.le_of_ble_eq_true rfl), (Nat.le_of_ble_eq_true rfl)⟩ (Nat.le_of_ble_eq_true rfl) (zi12_c h0) rfl (fun r24 M23 => ?_)
          refine zx_goto (tgt := 129) (zd me_X12_bathes 62 rfl) (by decide) ?_
          exact zx_vret (zd me_X12_bathes 83 rfl) rfl
      · refine zx_aload_n (i := 0) (zd me_X12_bathes 42 rfl) rfl 1 rfl ?_
        refine zx_iload_n (i := 1) (zd me_X12_bathes 43 rfl) rfl 2 rfl ?_
        refine zx_iload_n (i := 3) (zd me_X12_bathes 44 rfl) rfl 0 rfl ?_
        refine zx_callVV2 (zd me_X12_bathes 45 rfl) (mc_X12_comesInto (zl C) h0 i1 r9 M11) lk_X12_290 ⟨(Nat.le_of_ble_eq_true rfl), (Nat.le_of_ble_eq_true rfl)⟩ (Nat.le_of_ble_eq_true rfl) (zi12_c h0) rfl (fun r26 M25 => ?_)
        refine zx_goto (tgt := 129) (zd me_X12_bathes 46 rfl) (by decide) ?_
        exact zx_vret (zd me_X12_bathes 83 rfl) rfl
    · refine zx_aload_n (i := 0) (zd me_X12_bathes 33 rfl) rfl 1 rfl ?_
      refine zx_iload_n (i := 1) (zd me_X12_bathes 34 rfl) rfl 2 rfl ?_
      refine zx_iconst (v := 2) (zd me_X12_bathes 35 rfl) (by decide) ?_
      refine zx_callVV2 (zd me_X12_bathes 36 rfl) (mc_X12_goesOut (zl C) h0 i1 (2 : Int32) M8) lk_X12_286 ⟨(Nat.le_of_ble_eq_true rfl), (Nat.le_of_ble_eq_true rfl)⟩ (Nat.le_of_ble_eq_true rfl) (zi12_c h0) rfl (fun r28 M27 => ?_)
      refine zx_goto (tgt := 129) (zd me_X12_bathes 37 rfl) (by decide) ?_
      exact zx_vret (zd me_X12_bathes 83 rfl) rfl
  · exact zx_vret (zd me_X12_bathes 24 rfl) rfl
def mf_X12_bathes (R : zRR) (a0 : Nat) (i1 : Int32) (i2 : Int32) (M : zMem) : Option (Unit × zMem) :=
  zald 354 ((80 : Int32) + i1) fun j1 =>
  if (M.1 (zrf R a0 14) j1) ≤ 0 then
    (mf_X12_bathes_b25 R a0 i1 i2 M)
  else
    (zald 354 ((80 : Int32) + i1) fun j3 =>
    zald 354 ((80 : Int32) + i1) fun j4 =>
    zlet (zwI M (zrf R a0 14) j4 ((M.1 (zrf R a0 14) j3) - (1 : Int32))) fun M5 =>
    mf_X12_bathes_b25 R a0 i1 i2 M5)
theorem mc_X12_bathes (l : Launch) {T : zTT} {R : zRR} {a0 : Nat} (h0 : zi12 T R a0) (i1 : Int32) (i2 : Int32) (M : zMem) : zMS l yX12_bathes mi_X12_bathes zrvV (mf_X12_bathes R a0 i1 i2 M) [.ref a0, .int i1, .int i2] T R M := by
  refine zMS.of (by decide +kernel) rfl ⟨rfl, rfl⟩ (Nat.le_of_ble_eq_true rfl) (fun C ad _ => ?_)
  show zX C mi_X12_bathes (zFin C zrvV ad T R) 0 0 (mf_X12_bathes R a0 i1 i2 M) 0 [(0, .ref a0), (1, .int i1), (2, .int i2)] [] ad T R M
  unfold mf_X12_bathes
  refine zx_aload_n (i := 0) (zd me_X12_bathes 0 rfl) rfl 0 rfl ?_
  refine zx_getR (zd me_X12_bathes 1 rfl) fl_X12_98 (zi12_c h0) rfl (zi12_r14 h0) ?_
  refine zx_bipush (v := 80) (zd me_X12_bathes 2 rfl) (by decide) ?_
  refine zx_iload_n (i := 1) (zd me_X12_bathes 3 rfl) rfl 1 rfl ?_
  refine zx_iadd (zd me_X12_bathes 4 rfl) ?_
  refine zx_iald (zd me_X12_bathes 5 rfl) (zi12_t14 h0) (fun j1 hj1 => ?_)
  refine zx_if_le (tgt := 25) (zd me_X12_bathes 6 rfl) (by decide) (fun c2 => ?_) (fun c2 => ?_)
  · exact mt_X12_bathes_b25 h0 i1 i2 M
  · refine zx_aload_n (i := 0) (zd me_X12_bathes 7 rfl) rfl 0 rfl ?_
    refine zx_getR (zd me_X12_bathes 8 rfl) fl_X12_98 (zi12_c h0) rfl (zi12_r14 h0) ?_
    refine zx_bipush (v := 80) (zd me_X12_bathes 9 rfl) (by decide) ?_
    refine zx_iload_n (i := 1) (zd me_X12_bathes 10 rfl) rfl 1 rfl ?_
    refine zx_iadd (zd me_X12_bathes 11 rfl) ?_
    refine zx_dup2 (zd me_X12_bathes 12 rfl) rfl rfl ?_
    refine zx_iald (zd me_X12_bathes 13 rfl) (zi12_t14 h0) (fun j3 hj3 => ?_)
    refine zx_iconst (v := 1) (zd me_X12_bathes 14 rfl) (by decide) ?_
    refine zx_isub (zd me_X12_bathes 15 rfl) ?_
    refine zx_iast (zd me_X12_bathes 16 rfl) (zi12_t14 h0) (fun M5 => ?_)
    exact mt_X12_bathes_b25 h0 i1 i2 M5
def mf_X12_oneMinute_b44 (R : zRR) (a0 : Nat) (H9 : Int32 → zMem → Option (Unit × zMem)) (H15 : Int32 → Int32 → zMem → Option (Unit × zMem)) (i1 : Int32) (i2 : Int32) (M : zMem) : Option (Unit × zMem) :=
  H15 i1 (i2 + 1) M
theorem mt_X12_oneMinute_b44 {C : zCx} {ad : Nat → Nat} {T : zTT} {R : zRR} {a0 : Nat} (h0 : zi12 T R a0) {H9 : Int32 → zMem → Option (Unit × zMem)} {H15 : Int32 → Int32 → zMem → Option (Unit × zMem)} (hH9 : ∀ (i1 : Int32) (M : zMem), zX C mi_X12_oneMinute (zFin C zrvV ad T R) 0 0 (H9 i1 M) 9 [(0, .ref a0), (1, .int i1)] [] ad T R M) (hH15 : ∀ (i1 : Int32) (i2 : Int32) (M : zMem), zX C mi_X12_oneMinute (zFin C zrvV ad T R) 0 0 (H15 i1 i2 M) 15 [(0, .ref a0), (1, .int i1), (2, .int i2)] [] ad T R M) (i1 : Int32) (i2 : Int32) (M : zMem) : zX C mi_X12_oneMinute (zFin C zrvV ad T R) 0 0 (mf_X12_oneMinute_b44 R a0 H9 H15 i1 i2 M) 44 [(0, .ref a0), (1, .int i1), (2, .int i2)] [] ad T R M := by
  unfold mf_X12_oneMinute_b44
  refine zx_iinc (v := 1) (ls' := [(2, .int (i2 + 1)), (0, .ref a0), (1, .int i1)]) (zd me_X12_oneMinute 29 rfl) (Nat.le_of_ble_eq_true rfl) 2 rfl (by decide) rfl ?_
  refine zx_goto (tgt := 15) (zd me_X12_oneMinute 30 rfl) (by decide) ?_
  refine zx_loc [1, 2, 0] rfl ?_
  exact hH15 i1 (i2 + 1) M
def mf_X12_oneMinute_l15 (R : zRR) (a0 : Nat) (H9 : Int32 → zMem → Option (Unit × zMem)) : Nat → Int32 → Int32 → zMem → Option (Unit × zMem)
  | 0, _, _, _ => none
  | fuel + 1, i1, i2, M =>
    zald 354 (2 : Int32) fun j7 =>
    if (M.1 (zrf R a0 14) j7) ≤ i2 then
      (H9 (i1 + (-1)) M)
    else
      (zald 354 ((72 : Int32) + i2) fun j9 =>
      if (M.1 (zrf R a0 14) j9) = i1 then
        (zcl (mf_X12_bathes R a0 i2 i1 M) fun _ M11 =>
        mf_X12_oneMinute_b44 R a0 H9 (mf_X12_oneMinute_l15 R a0 H9 fuel) i1 i2 M11)
      else
        (mf_X12_oneMinute_b44 R a0 H9 (mf_X12_oneMinute_l15 R a0 H9 fuel) i1 i2 M))
theorem mt_X12_oneMinute_l15 {C : zCx} {ad : Nat → Nat} {T : zTT} {R : zRR} {a0 : Nat} (h0 : zi12 T R a0) {H9 : Int32 → zMem → Option (Unit × zMem)} (hH9 : ∀ (i1 : Int32) (M : zMem), zX C mi_X12_oneMinute (zFin C zrvV ad T R) 0 0 (H9 i1 M) 9 [(0, .ref a0), (1, .int i1)] [] ad T R M) : ∀ (fuel : Nat) (i1 : Int32) (i2 : Int32) (M : zMem), zX C mi_X12_oneMinute (zFin C zrvV ad T R) 0 0 (mf_X12_oneMinute_l15 R a0 H9 fuel i1 i2 M) 15 [(0, .ref a0), (1, .int i1), (2, .int i2)] [] ad T R M := by
  intro fuel
  induction fuel with
  | zero => intros; exact zx_none
  | succ fuel ih =>
    intro i1 i2 M
    rw [mf_X12_oneMinute_l15]
    refine zx_iload_n (i := 2) (zd me_X12_oneMinute 11 rfl) rfl 2 rfl ?_
    refine zx_aload_n (i := 0) (zd me_X12_oneMinute 12 rfl) rfl 0 rfl ?_
    refine zx_getR (zd me_X12_oneMinute 13 rfl) fl_X12_98 (zi12_c h0) rfl (zi12_r14 h0) ?_
    refine zx_iconst (v := 2) (zd me_X12_oneMinute 14 rfl) (by decide) ?_
    refine zx_iald (zd me_X12_oneMinute 15 rfl) (zi12_t14 h0) (fun j7 hj7 => ?_)
    refine zx_icmp_ge (tgt := 50) (zd me_X12_oneMinute 16 rfl) (by decide) (fun c8 => ?_) (fun c8 => ?_)
    · refine zx_iinc (v := (-1)) (ls' := [(1, .int (i1 + (-1))), (0, .ref a0), (2, .int i2)]) (zd me_X12_oneMinute 31 rfl) (Nat.le_of_ble_eq_true rfl) 1 rfl (by decide) rfl ?_
      refine zx_goto (tgt := 9) (zd me_X12_oneMinute 32 rfl) (by decide) ?_
      refine zx_loc [1, 0] rfl ?_
      exact hH9 (i1 + (-1)) M
    · refine zx_aload_n (i := 0) (zd me_X12_oneMinute 17 rfl) rfl 0 rfl ?_
      refine zx_getR (zd me_X12_oneMinute 18 rfl) fl_X12_98 (zi12_c h0) rfl (zi12_r14 h0) ?_
      refine zx_bipush (v := 72) (zd me_X12_oneMinute 19 rfl) (by decide) ?_
      refine zx_iload_n (i := 2) (zd me_X12_oneMinute 20 rfl) rfl 2 rfl ?_
      refine zx_iadd (zd me_X12_oneMinute 21 rfl) ?_
      refine zx_iald (zd me_X12_oneMinute 22 rfl) (zi12_t14 h0) (fun j9 hj9 => ?_)
      refine zx_iload_n (i := 1) (zd me_X12_oneMinute 23 rfl) rfl 1 rfl ?_
      refine zx_icmp_ne (tgt := 44) (zd me_X12_oneMinute 24 rfl) (by decide) (fun c10 => ?_) (fun c10 => ?_)
      · exact mt_X12_oneMinute_b44 h0 hH9 ih i1 i2 M
      · refine zx_aload_n (i := 0) (zd me_X12_oneMinute 25 rfl) rfl 0 rfl ?_
        refine zx_iload_n (i := 2) (zd me_X12_oneMinute 26 rfl) rfl 2 rfl ?_
        refine zx_iload_n (i := 1) (zd me_X12_oneMinute 27 rfl) rfl 1 rfl ?_
        refine zx_callVV2 (zd me_X12_oneMinute 28 rfl) (mc_X12_bathes (zl C) h0 i2 i1 M) lk_X12_312 ⟨(Nat.le_of_ble_eq_true rfl), (Nat.le_of_ble_eq_true rfl)⟩ (Nat.le_of_ble_eq_true rfl) (zi12_c h0) rfl (fun r12 M11 => ?_)
        exact mt_X12_oneMinute_b44 h0 hH9 ih i1 i2 M11
def mf_X12_oneMinute_l9 (R : zRR) (a0 : Nat) : Nat → Int32 → zMem → Option (Unit × zMem)
  | 0, _, _ => none
  | fuel + 1, i1, M =>
    if i1 < 0 then
      (zald 354 (56 : Int32) fun j4 =>
      zald 354 (56 : Int32) fun j5 =>
      zlet (zwI M (zrf R a0 14) j5 ((M.1 (zrf R a0 14) j4) + (1 : Int32))) fun M6 =>
      some ((), M6))
    else
      (mf_X12_oneMinute_l15 R a0 (mf_X12_oneMinute_l9 R a0 fuel) zF i1 (0 : Int32) M)
theorem mt_X12_oneMinute_l9 {C : zCx} {ad : Nat → Nat} {T : zTT} {R : zRR} {a0 : Nat} (h0 : zi12 T R a0) : ∀ (fuel : Nat) (i1 : Int32) (M : zMem), zX C mi_X12_oneMinute (zFin C zrvV ad T R) 0 0 (mf_X12_oneMinute_l9 R a0 fuel i1 M) 9 [(0, .ref a0), (1, .int i1)] [] ad T R M := by
  intro fuel
  induction fuel with
  | zero => intros; exact zx_none
  | succ fuel ih =>
    intro i1 M
    rw [mf_X12_oneMinute_l9]
    refine zx_iload_n (i := 1) (zd me_X12_oneMinute 7 rfl) rfl 1 rfl ?_
    refine zx_if_lt (tgt := 56) (zd me_X12_oneMinute 8 rfl) (by decide) (fun c3 => ?_) (fun c3 => ?_)
    · refine zx_aload_n (i := 0) (zd me_X12_oneMinute 33 rfl) rfl 0 rfl ?_
      refine zx_getR (zd me_X12_oneMinute 34 rfl) fl_X12_98 (zi12_c h0) rfl (zi12_r14 h0) ?_
      refine zx_bipush (v := 56) (zd me_X12_oneMinute 35 rfl) (by decide) ?_
      refine zx_dup2 (zd me_X12_oneMinute 36 rfl) rfl rfl ?_
      refine zx_iald (zd me_X12_oneMinute 37 rfl) (zi12_t14 h0) (fun j4 hj4 => ?_)
      refine zx_iconst (v := 1) (zd me_X12_oneMinute 38 rfl) (by decide) ?_
      refine zx_iadd (zd me_X12_oneMinute 39 rfl) ?_
      refine zx_iast (zd me_X12_oneMinute 40 rfl) (zi12_t14 h0) (fun M6 => ?_)
      exact zx_vret (zd me_X12_oneMinute 41 rfl) rfl
    · refine zx_iconst (v := 0) (zd me_X12_oneMinute 9 rfl) (by decide) ?_
      refine zx_istore_n (i := 2) (ls' := [(2, .int (0 : Int32)), (0, .ref a0), (1, .int i1)]) (zd me_X12_oneMinute 10 rfl) rfl (Nat.le_of_ble_eq_true rfl) rfl ?_
      refine zx_loc [1, 2, 0] rfl ?_
      exact mt_X12_oneMinute_l15 h0 ih zF i1 (0 : Int32) M
def mf_X12_oneMinute (R : zRR) (a0 : Nat) (M : zMem) : Option (Unit × zMem) :=
  zald 354 (0 : Int32) fun j1 =>
  zlet (((M.1 (zrf R a0 14) j1) - (1 : Int32)) : Int32) fun x2 =>
  mf_X12_oneMinute_l9 R a0 zF x2 M
theorem mc_X12_oneMinute (l : Launch) {T : zTT} {R : zRR} {a0 : Nat} (h0 : zi12 T R a0) (M : zMem) : zMS l yX12_oneMinute mi_X12_oneMinute zrvV (mf_X12_oneMinute R a0 M) [.ref a0] T R M := by
  refine zMS.of (by decide +kernel) rfl ⟨rfl, rfl⟩ (Nat.le_of_ble_eq_true rfl) (fun C ad _ => ?_)
  show zX C mi_X12_oneMinute (zFin C zrvV ad T R) 0 0 (mf_X12_oneMinute R a0 M) 0 [(0, .ref a0)] [] ad T R M
  unfold mf_X12_oneMinute
  refine zx_aload_n (i := 0) (zd me_X12_oneMinute 0 rfl) rfl 0 rfl ?_
  refine zx_getR (zd me_X12_oneMinute 1 rfl) fl_X12_98 (zi12_c h0) rfl (zi12_r14 h0) ?_
  refine zx_iconst (v := 0) (zd me_X12_oneMinute 2 rfl) (by decide) ?_
  refine zx_iald (zd me_X12_oneMinute 3 rfl) (zi12_t14 h0) (fun j1 hj1 => ?_)
  refine zx_iconst (v := 1) (zd me_X12_oneMinute 4 rfl) (by decide) ?_
  refine zx_isub (zd me_X12_oneMinute 5 rfl) ?_
  refine zx_leti (fun x2 => ?_)
  refine zx_istore_n (i := 1) (ls' := [(1, .int x2), (0, .ref a0)]) (zd me_X12_oneMinute 6 rfl) rfl (Nat.le_of_ble_eq_true rfl) rfl ?_
  refine zx_loc [1, 0] rfl ?_
  exact mt_X12_oneMinute_l9 h0 zF x2 M
def mf_X12_goOn_l2 (R : zRR) (a0 : Nat) : Nat → Int32 → Int32 → zMem → Option (Unit × zMem)
  | 0, _, _, _ => none
  | fuel + 1, i1, i2, M =>
    if i1 ≤ i2 then
      (some ((), M))
    else
      (zcl (mf_X12_oneMinute R a0 M) fun _ M2 =>
      mf_X12_goOn_l2 R a0 fuel i1 (i2 + 1) M2)
theorem mt_X12_goOn_l2 {C : zCx} {ad : Nat → Nat} {T : zTT} {R : zRR} {a0 : Nat} (h0 : zi12 T R a0) : ∀ (fuel : Nat) (i1 : Int32) (i2 : Int32) (M : zMem), zX C mi_X12_goOn (zFin C zrvV ad T R) 0 0 (mf_X12_goOn_l2 R a0 fuel i1 i2 M) 2 [(0, .ref a0), (1, .int i1), (2, .int i2)] [] ad T R M := by
  intro fuel
  induction fuel with
  | zero => intros; exact zx_none
  | succ fuel ih =>
    intro i1 i2 M
    rw [mf_X12_goOn_l2]
    refine zx_iload_n (i := 2) (zd me_X12_goOn 2 rfl) rfl 2 rfl ?_
    refine zx_iload_n (i := 1) (zd me_X12_goOn 3 rfl) rfl 1 rfl ?_
    refine zx_icmp_ge (tgt := 17) (zd me_X12_goOn 4 rfl) (by decide) (fun c1 => ?_) (fun c1 => ?_)
    · exact zx_vret (zd me_X12_goOn 9 rfl) rfl
    · refine zx_aload_n (i := 0) (zd me_X12_goOn 5 rfl) rfl 0 rfl ?_
      refine zx_callVV0 (zd me_X12_goOn 6 rfl) (mc_X12_oneMinute (zl C) h0 M) lk_X12_321 ⟨(Nat.le_of_ble_eq_true rfl), (Nat.le_of_ble_eq_true rfl)⟩ (Nat.le_of_ble_eq_true rfl) (zi12_c h0) rfl (fun r3 M2 => ?_)
      refine zx_iinc (v := 1) (ls' := [(2, .int (i2 + 1)), (0, .ref a0), (1, .int i1)]) (zd me_X12_goOn 7 rfl) (Nat.le_of_ble_eq_true rfl) 2 rfl (by decide) rfl ?_
      refine zx_goto (tgt := 2) (zd me_X12_goOn 8 rfl) (by decide) ?_
      refine zx_loc [1, 2, 0] rfl ?_
      exact ih i1 (i2 + 1) M2
def mf_X12_goOn (R : zRR) (a0 : Nat) (i1 : Int32) (M : zMem) : Option (Unit × zMem) :=
  mf_X12_goOn_l2 R a0 zF i1 (0 : Int32) M
theorem mc_X12_goOn (l : Launch) {T : zTT} {R : zRR} {a0 : Nat} (h0 : zi12 T R a0) (i1 : Int32) (M : zMem) : zMS l yX12_goOn mi_X12_goOn zrvV (mf_X12_goOn R a0 i1 M) [.ref a0, .int i1] T R M := by
  refine zMS.of (by decide +kernel) rfl ⟨rfl, rfl⟩ (Nat.le_of_ble_eq_true rfl) (fun C ad _ => ?_)
  show zX C mi_X12_goOn (zFin C zrvV ad T R) 0 0 (mf_X12_goOn R a0 i1 M) 0 [(0, .ref a0), (1, .int i1)] [] ad T R M
  unfold mf_X12_goOn
  refine zx_iconst (v := 0) (zd me_X12_goOn 0 rfl) (by decide) ?_
  refine zx_istore_n (i := 2) (ls' := [(2, .int (0 : Int32)), (0, .ref a0), (1, .int i1)]) (zd me_X12_goOn 1 rfl) rfl (Nat.le_of_ble_eq_true rfl) rfl ?_
  refine zx_loc [1, 2, 0] rfl ?_
  exact mt_X12_goOn_l2 h0 zF i1 (0 : Int32) M
def mf_X12_passMinutes (R : zRR) (a0 : Nat) (i1 : Int32) (M : zMem) : Option (Int32 × zMem) :=
  zald 354 (56 : Int32) fun j1 =>
  zcl (mf_X12_least R i1 ((1000 : Int32) - (M.1 (zrf R a0 14) j1)) M) fun r3 M2 =>
  zcl (mf_X12_goOn R a0 r3 M2) fun _ M4 =>
  some (r3, M4)
theorem mc_X12_passMinutes (l : Launch) {T : zTT} {R : zRR} {a0 : Nat} (h0 : zi12 T R a0) (i1 : Int32) (M : zMem) : zMS l yX12_passMinutes mi_X12_passMinutes zrvI (mf_X12_passMinutes R a0 i1 M) [.ref a0, .int i1] T R M := by
  refine zMS.of (by decide +kernel) rfl ⟨rfl, rfl⟩ (Nat.le_of_ble_eq_true rfl) (fun C ad _ => ?_)
  show zX C mi_X12_passMinutes (zFin C zrvI ad T R) 0 0 (mf_X12_passMinutes R a0 i1 M) 0 [(0, .ref a0), (1, .int i1)] [] ad T R M
  unfold mf_X12_passMinutes
  refine zx_iload_n (i := 1) (zd me_X12_passMinutes 0 rfl) rfl 1 rfl ?_
  refine zx_sipush (v := 1000) (zd me_X12_passMinutes 1 rfl) (by decide) ?_
  refine zx_aload_n (i := 0) (zd me_X12_passMinutes 2 rfl) rfl 0 rfl ?_
  refine zx_getR (zd me_X12_passMinutes 3 rfl) fl_X12_98 (zi12_c h0) rfl (zi12_r14 h0) ?_
  refine zx_bipush (v := 56) (zd me_X12_passMinutes 4 rfl) (by decide) ?_
  refine zx_iald (zd me_X12_passMinutes 5 rfl) (zi12_t14 h0) (fun j1 hj1 => ?_)
  refine zx_isub (zd me_X12_passMinutes 6 rfl) ?_
  refine zx_callSI2 (zd me_X12_passMinutes 7 rfl) (mc_X12_least (zl C) i1 ((1000 : Int32) - (M.1 (zrf R a0 14) j1)) M) lk_X12_315 ⟨(Nat.le_of_ble_eq_true rfl), (Nat.le_of_ble_eq_true rfl)⟩ (Nat.le_of_ble_eq_true rfl) (fun r3 M2 => ?_)
  refine zx_istore_n (i := 2) (ls' := [(2, .int r3), (0, .ref a0), (1, .int i1)]) (zd me_X12_passMinutes 8 rfl) rfl (Nat.le_of_ble_eq_true rfl) rfl ?_
  refine zx_aload_n (i := 0) (zd me_X12_passMinutes 9 rfl) rfl 1 rfl ?_
  refine zx_iload_n (i := 2) (zd me_X12_passMinutes 10 rfl) rfl 0 rfl ?_
  refine zx_callVV1 (zd me_X12_passMinutes 11 rfl) (mc_X12_goOn (zl C) h0 r3 M2) lk_X12_318 ⟨(Nat.le_of_ble_eq_true rfl), (Nat.le_of_ble_eq_true rfl)⟩ (Nat.le_of_ble_eq_true rfl) (zi12_c h0) rfl (fun r5 M4 => ?_)
  refine zx_iload_n (i := 2) (zd me_X12_passMinutes 12 rfl) rfl 0 rfl ?_
  exact zx_iret (zd me_X12_passMinutes 13 rfl) rfl
def mf_X12_minutes (R : zRR) (a0 : Nat) (i1 : Int32) (M : zMem) : Option (Int32 × zMem) :=
  zlet (zwI M a0 0 (0 : Int32)) fun M1 =>
  zcl (mf_X12_isIn R i1 (1 : Int32) (60 : Int32) M1) fun r3 M2 =>
  if r3 = 0 then
    (some ((-1 : Int32), M2))
  else
    (zald 354 (56 : Int32) fun j5 =>
    if (M2.1 (zrf R a0 14) j5) = (1000 : Int32) then
      (some ((0 : Int32), M2))
    else
      (zcl (mf_X12_snap R a0 M2) fun _ M7 =>
      zcl (mf_X12_passMinutes R a0 i1 M7) fun r10 M9 =>
      some (r10, M9)))
theorem mc_X12_minutes (l : Launch) {T : zTT} {R : zRR} {a0 : Nat} (h0 : zi12 T R a0) (i1 : Int32) (M : zMem) : zMS l yX12_minutes mi_X12_minutes zrvI (mf_X12_minutes R a0 i1 M) [.ref a0, .int i1] T R M := by
  refine zMS.of (by decide +kernel) rfl ⟨rfl, rfl⟩ (Nat.le_of_ble_eq_true rfl) (fun C ad _ => ?_)
  show zX C mi_X12_minutes (zFin C zrvI ad T R) 0 0 (mf_X12_minutes R a0 i1 M) 0 [(0, .ref a0), (1, .int i1)] [] ad T R M
  unfold mf_X12_minutes
  refine zx_aload_n (i := 0) (zd me_X12_minutes 0 rfl) rfl 0 rfl ?_
  refine zx_iconst (v := 0) (zd me_X12_minutes 1 rfl) (by decide) ?_
  refine zx_putI (zd me_X12_minutes 2 rfl) fp_X12_1 (zi12_c h0) rfl (fun M1 _ => ?_)
  refine zx_iload_n (i := 1) (zd me_X12_minutes 3 rfl) rfl 1 rfl ?_
  refine zx_iconst (v := 1) (zd me_X12_minutes 4 rfl) (by decide) ?_
  refine zx_bipush (v := 60) (zd me_X12_minutes 5 rfl) (by decide) ?_
  refine zx_callSI3 (zd me_X12_minutes 6 rfl) (mc_X12_isIn (zl C) i1 (1 : Int32) (60 : Int32) M1) lk_X12_75 ⟨(Nat.le_of_ble_eq_true rfl), (Nat.le_of_ble_eq_true rfl)⟩ (Nat.le_of_ble_eq_true rfl) (fun r3 M2 => ?_)
  refine zx_if_ne (tgt := 17) (zd me_X12_minutes 7 rfl) (by decide) (fun c4 => ?_) (fun c4 => ?_)
  · refine zx_aload_n (i := 0) (zd me_X12_minutes 10 rfl) rfl 0 rfl ?_
    refine zx_getR (zd me_X12_minutes 11 rfl) fl_X12_98 (zi12_c h0) rfl (zi12_r14 h0) ?_
    refine zx_bipush (v := 56) (zd me_X12_minutes 12 rfl) (by decide) ?_
    refine zx_iald (zd me_X12_minutes 13 rfl) (zi12_t14 h0) (fun j5 hj5 => ?_)
    refine zx_sipush (v := 1000) (zd me_X12_minutes 14 rfl) (by decide) ?_
    refine zx_icmp_ne (tgt := 32) (zd me_X12_minutes 15 rfl) (by decide) (fun c6 => ?_) (fun c6 => ?_)
    · refine zx_aload_n (i := 0) (zd me_X12_minutes 18 rfl) rfl 0 rfl ?_
      refine zx_callVV0 (zd me_X12_minutes 19 rfl) (mc_X12_snap (zl C) h0 M2) lk_X12_299 ⟨(Nat.le_of_ble_eq_true rfl), (Nat.le_of_ble_eq_true rfl)⟩ (Nat.le_of_ble_eq_true rfl) (zi12_c h0) rfl (fun r8 M7 => ?_)
      refine zx_aload_n (i := 0) (zd me_X12_minutes 20 rfl) rfl 0 rfl ?_
      refine zx_iload_n (i := 1) (zd me_X12_minutes 21 rfl) rfl 1 rfl ?_
      refine zx_callVI1 (zd me_X12_minutes 22 rfl) (mc_X12_passMinutes (zl C) h0 i1 M7) lk_X12_324 ⟨(Nat.le_of_ble_eq_true rfl), (Nat.le_of_ble_eq_true rfl)⟩ (Nat.le_of_ble_eq_true rfl) (zi12_c h0) rfl (fun r10 M9 => ?_)
      exact zx_iret (zd me_X12_minutes 23 rfl) rfl
    · refine zx_iconst (v := 0) (zd me_X12_minutes 16 rfl) (by decide) ?_
      exact zx_iret (zd me_X12_minutes 17 rfl) rfl
  · refine zx_iconst (v := (-1)) (zd me_X12_minutes 8 rfl) (by decide) ?_
    exact zx_iret (zd me_X12_minutes 9 rfl) rfl
def mf_X12_when_b69 (R : zRR) (a0 : Nat) (i2 : Int32) (s0 : Int32) (M : zMem) : Option (Int32 × zMem) :=
  zcl (mf_X12_comeBack R a0 (zrf R a0 18) 56 (0 : Int32) M) fun _ M15 =>
  if s0 = 0 then
    (some ((-1 : Int32), M15))
  else
    (if (300 : Int32) < i2 then
      (some ((-1 : Int32), M15))
    else
      (some (i2, M15)))
theorem mt_X12_when_b69 {C : zCx} {ad : Nat → Nat} {T : zTT} {R : zRR} {a0 : Nat} (h0 : zi12 T R a0) (i2 : Int32) (s0 : Int32) (M : zMem) : zX C mi_X12_when (zFin C zrvI ad T R) 0 0 (mf_X12_when_b69 R a0 i2 s0 M) 69 [(0, .ref a0), (2, .int i2)] [.int s0] ad T R M := by
  unfold mf_X12_when_b69
  refine zx_istore_n (i := 3) (ls' := [(3, .int s0), (0, .ref a0), (2, .int i2)]) (zd me_X12_when 38 rfl) rfl (Nat.le_of_ble_eq_true rfl) rfl ?_
  refine zx_aload_n (i := 0) (zd me_X12_when 39 rfl) rfl 1 rfl ?_
  refine zx_aload_n (i := 0) (zd me_X12_when 40 rfl) rfl 1 rfl ?_
  refine zx_getR (zd me_X12_when 41 rfl) fl_X12_110 (zi12_c h0) rfl (zi12_r18 h0) ?_
  refine zx_iconst (v := 0) (zd me_X12_when 42 rfl) (by decide) ?_
  refine zx_callVV2 (zd me_X12_when 43 rfl) (mc_X12_comeBack (zl C) h0 (zi12_t18 h0) (0 : Int32) M) lk_X12_309 ⟨(Nat.le_of_ble_eq_true rfl), (Nat.le_of_ble_eq_true rfl)⟩ (Nat.le_of_ble_eq_true rfl) (zi12_c h0) rfl (fun r16 M15 => ?_)
  refine zx_iload_n (i := 3) (zd me_X12_when 44 rfl) rfl 0 rfl ?_
  refine zx_if_eq (tgt := 94) (zd me_X12_when 45 rfl) (by decide) (fun c17 => ?_) (fun c17 => ?_)
  · refine zx_iconst (v := (-1)) (zd me_X12_when 51 rfl) (by decide) ?_
    exact zx_iret (zd me_X12_when 52 rfl) rfl
  · refine zx_iload_n (i := 2) (zd me_X12_when 46 rfl) rfl 2 rfl ?_
    refine zx_sipush (v := 300) (zd me_X12_when 47 rfl) (by decide) ?_
    refine zx_icmp_gt (tgt := 94) (zd me_X12_when 48 rfl) (by decide) (fun c18 => ?_) (fun c18 => ?_)
    · refine zx_iconst (v := (-1)) (zd me_X12_when 51 rfl) (by decide) ?_
      exact zx_iret (zd me_X12_when 52 rfl) rfl
    · refine zx_iload_n (i := 2) (zd me_X12_when 49 rfl) rfl 2 rfl ?_
      refine zx_goto (tgt := 95) (zd me_X12_when 50 rfl) (by decide) ?_
      exact zx_iret (zd me_X12_when 52 rfl) rfl
def mf_X12_when_b51 (R : zRR) (a0 : Nat) (i1 : Int32) (i2 : Int32) (M : zMem) : Option (Int32 × zMem) :=
  zald 354 ((64 : Int32) + i1) fun j13 =>
  if (M.1 (zrf R a0 14) j13) = (2 : Int32) then
    (mf_X12_when_b69 R a0 i2 (1 : Int32) M)
  else
    (mf_X12_when_b69 R a0 i2 (0 : Int32) M)
theorem mt_X12_when_b51 {C : zCx} {ad : Nat → Nat} {T : zTT} {R : zRR} {a0 : Nat} (h0 : zi12 T R a0) (i1 : Int32) (i2 : Int32) (M : zMem) : zX C mi_X12_when (zFin C zrvI ad T R) 0 0 (mf_X12_when_b51 R a0 i1 i2 M) 51 [(0, .ref a0), (1, .int i1), (2, .int i2)] [] ad T R M := by
  unfold mf_X12_when_b51
  refine zx_aload_n (i := 0) (zd me_X12_when 27 rfl) rfl 0 rfl ?_
  refine zx_getR (zd me_X12_when 28 rfl) fl_X12_98 (zi12_c h0) rfl (zi12_r14 h0) ?_
  refine zx_bipush (v := 64) (zd me_X12_when 29 rfl) (by decide) ?_
  refine zx_iload_n (i := 1) (zd me_X12_when 30 rfl) rfl 1 rfl ?_
  refine zx_iadd (zd me_X12_when 31 rfl) ?_
  refine zx_iald (zd me_X12_when 32 rfl) (zi12_t14 h0) (fun j13 hj13 => ?_)
  refine zx_iconst (v := 2) (zd me_X12_when 33 rfl) (by decide) ?_
  refine zx_icmp_ne (tgt := 68) (zd me_X12_when 34 rfl) (by decide) (fun c14 => ?_) (fun c14 => ?_)
  · refine zx_iconst (v := 0) (zd me_X12_when 37 rfl) (by decide) ?_
    refine zx_loc [0, 2] rfl ?_
    exact mt_X12_when_b69 h0 i2 (0 : Int32) M
  · refine zx_iconst (v := 1) (zd me_X12_when 35 rfl) (by decide) ?_
    refine zx_goto (tgt := 69) (zd me_X12_when 36 rfl) (by decide) ?_
    refine zx_loc [0, 2] rfl ?_
    exact mt_X12_when_b69 h0 i2 (1 : Int32) M
def mf_X12_when_l26 (R : zRR) (a0 : Nat) : Nat → Int32 → Int32 → zMem → Option (Int32 × zMem)
  | 0, _, _, _ => none
  | fuel + 1, i1, i2, M =>
    if (300 : Int32) < i2 then
      (mf_X12_when_b51 R a0 i1 i2 M)
    else
      (zcl (mf_X12_isBathed R a0 i1 M) fun r9 M8 =>
      if r9 = 0 then
        (mf_X12_when_b51 R a0 i1 i2 M8)
      else
        (zcl (mf_X12_oneMinute R a0 M8) fun _ M11 =>
        mf_X12_when_l26 R a0 fuel i1 (i2 + 1) M11))
theorem mt_X12_when_l26 {C : zCx} {ad : Nat → Nat} {T : zTT} {R : zRR} {a0 : Nat} (h0 : zi12 T R a0) : ∀ (fuel : Nat) (i1 : Int32) (i2 : Int32) (M : zMem), zX C mi_X12_when (zFin C zrvI ad T R) 0 0 (mf_X12_when_l26 R a0 fuel i1 i2 M) 26 [(0, .ref a0), (1, .int i1), (2, .int i2)] [] ad T R M := by
  intro fuel
  induction fuel with
  | zero => intros; exact zx_none
  | succ fuel ih =>
    intro i1 i2 M
    rw [mf_X12_when_l26]
    refine zx_iload_n (i := 2) (zd me_X12_when 16 rfl) rfl 2 rfl ?_
    refine zx_sipush (v := 300) (zd me_X12_when 17 rfl) (by decide) ?_
    refine zx_icmp_gt (tgt := 51) (zd me_X12_when 18 rfl) (by decide) (fun c7 => ?_) (fun c7 => ?_)
    · exact mt_X12_when_b51 h0 i1 i2 M
    · refine zx_aload_n (i := 0) (zd me_X12_when 19 rfl) rfl 0 rfl ?_
      refine zx_iload_n (i := 1) (zd me_X12_when 20 rfl) rfl 1 rfl ?_
      refine zx_callVI1 (zd me_X12_when 21 rfl) (mc_X12_isBathed (zl C) h0 i1 M) lk_X12_230 ⟨(Nat.le_of_ble_eq_true rfl), (Nat.le_of_ble_eq_true rfl)⟩ (Nat.le_of_ble_eq_true rfl) (zi12_c h0) rfl (fun r9 M8 => ?_)
      refine zx_if_eq (tgt := 51) (zd me_X12_when 22 rfl) (by decide) (fun c10 => ?_) (fun c10 => ?_)
      · exact mt_X12_when_b51 h0 i1 i2 M8
      · refine zx_aload_n (i := 0) (zd me_X12_when 23 rfl) rfl 0 rfl ?_
        refine zx_callVV0 (zd me_X12_when 24 rfl) (mc_X12_oneMinute (zl C) h0 M8) lk_X12_321 ⟨(Nat.le_of_ble_eq_true rfl), (Nat.le_of_ble_eq_true rfl)⟩ (Nat.le_of_ble_eq_true rfl) (zi12_c h0) rfl (fun r12 M11 => ?_)
        refine zx_iinc (v := 1) (ls' := [(2, .int (i2 + 1)), (0, .ref a0), (1, .int i1)]) (zd me_X12_when 25 rfl) (Nat.le_of_ble_eq_true rfl) 2 rfl (by decide) rfl ?_
        refine zx_goto (tgt := 26) (zd me_X12_when 26 rfl) (by decide) ?_
        refine zx_loc [1, 2, 0] rfl ?_
        exact ih i1 (i2 + 1) M11
def mf_X12_when (R : zRR) (a0 : Nat) (i1 : Int32) (M : zMem) : Option (Int32 × zMem) :=
  zlet (zwI M a0 0 (0 : Int32)) fun M1 =>
  zcl (mf_X12_isSheet R a0 i1 M1) fun r3 M2 =>
  if r3 = 0 then
    (some ((-1 : Int32), M2))
  else
    (zcl (mf_X12_save R a0 (zrf R a0 18) 56 (0 : Int32) M2) fun _ M5 =>
    mf_X12_when_l26 R a0 zF i1 (0 : Int32) M5)
theorem mc_X12_when (l : Launch) {T : zTT} {R : zRR} {a0 : Nat} (h0 : zi12 T R a0) (i1 : Int32) (M : zMem) : zMS l yX12_when mi_X12_when zrvI (mf_X12_when R a0 i1 M) [.ref a0, .int i1] T R M := by
  refine zMS.of (by decide +kernel) rfl ⟨rfl, rfl⟩ (Nat.le_of_ble_eq_true rfl) (fun C ad _ => ?_)
  show zX C mi_X12_when (zFin C zrvI ad T R) 0 0 (mf_X12_when R a0 i1 M) 0 [(0, .ref a0), (1, .int i1)] [] ad T R M
  unfold mf_X12_when
  refine zx_aload_n (i := 0) (zd me_X12_when 0 rfl) rfl 0 rfl ?_
  refine zx_iconst (v := 0) (zd me_X12_when 1 rfl) (by decide) ?_
  refine zx_putI (zd me_X12_when 2 rfl) fp_X12_1 (zi12_c h0) rfl (fun M1 _ => ?_)
  refine zx_aload_n (i := 0) (zd me_X12_when 3 rfl) rfl 0 rfl ?_
  refine zx_iload_n (i := 1) (zd me_X12_when 4 rfl) rfl 1 rfl ?_
  refine zx_callVI1 (zd me_X12_when 5 rfl) (mc_X12_isSheet (zl C) h0 i1 M1) lk_X12_261 ⟨(Nat.le_of_ble_eq_true rfl), (Nat.le_of_ble_eq_true rfl)⟩ (Nat.le_of_ble_eq_true rfl) (zi12_c h0) rfl (fun r3 M2 => ?_)
  refine zx_if_ne (tgt := 15) (zd me_X12_when 6 rfl) (by decide) (fun c4 => ?_) (fun c4 => ?_)
  · refine zx_aload_n (i := 0) (zd me_X12_when 9 rfl) rfl 0 rfl ?_
    refine zx_aload_n (i := 0) (zd me_X12_when 10 rfl) rfl 0 rfl ?_
    refine zx_getR (zd me_X12_when 11 rfl) fl_X12_110 (zi12_c h0) rfl (zi12_r18 h0) ?_
    refine zx_iconst (v := 0) (zd me_X12_when 12 rfl) (by decide) ?_
    refine zx_callVV2 (zd me_X12_when 13 rfl) (mc_X12_save (zl C) h0 (zi12_t18 h0) (0 : Int32) M2) lk_X12_273 ⟨(Nat.le_of_ble_eq_true rfl), (Nat.le_of_ble_eq_true rfl)⟩ (Nat.le_of_ble_eq_true rfl) (zi12_c h0) rfl (fun r6 M5 => ?_)
    refine zx_iconst (v := 0) (zd me_X12_when 14 rfl) (by decide) ?_
    refine zx_istore_n (i := 2) (ls' := [(2, .int (0 : Int32)), (0, .ref a0), (1, .int i1)]) (zd me_X12_when 15 rfl) rfl (Nat.le_of_ble_eq_true rfl) rfl ?_
    refine zx_loc [1, 2, 0] rfl ?_
    exact mt_X12_when_l26 h0 zF i1 (0 : Int32) M5
  · refine zx_iconst (v := (-1)) (zd me_X12_when 7 rfl) (by decide) ?_
    exact zx_iret (zd me_X12_when 8 rfl) rfl
def mf_X12_load (R : zRR) (a0 : Nat) (i1 : Int32) (i2 : Int32) (M : zMem) : Option (Int32 × zMem) :=
  zlet (zwI M a0 0 (0 : Int32)) fun M1 =>
  zcl (mf_X12_isBath R a0 i1 M1) fun r3 M2 =>
  if r3 = 0 then
    (some ((-1 : Int32), M2))
  else
    (zcl (mf_X12_isIn R i2 (0 : Int32) (200 : Int32) M2) fun r6 M5 =>
    if r6 = 0 then
      (some ((-1 : Int32), M5))
    else
      (zcl (mf_X12_save R a0 (zrf R a0 18) 56 (0 : Int32) M5) fun _ M8 =>
      zcl (mf_X12_goOn R a0 i2 M8) fun _ M10 =>
      zcl (mf_X12_sheetsIn R a0 i1 M10) fun r13 M12 =>
      zcl (mf_X12_comeBack R a0 (zrf R a0 18) 56 (0 : Int32) M12) fun _ M14 =>
      some (r13, M14)))
theorem mc_X12_load (l : Launch) {T : zTT} {R : zRR} {a0 : Nat} (h0 : zi12 T R a0) (i1 : Int32) (i2 : Int32) (M : zMem) : zMS l yX12_load mi_X12_load zrvI (mf_X12_load R a0 i1 i2 M) [.ref a0, .int i1, .int i2] T R M := by
  refine zMS.of (by decide +kernel) rfl ⟨rfl, rfl⟩ (Nat.le_of_ble_eq_true rfl) (fun C ad _ => ?_)
  show zX C mi_X12_load (zFin C zrvI ad T R) 0 0 (mf_X12_load R a0 i1 i2 M) 0 [(0, .ref a0), (1, .int i1), (2, .int i2)] [] ad T R M
  unfold mf_X12_load
  refine zx_aload_n (i := 0) (zd me_X12_load 0 rfl) rfl 0 rfl ?_
  refine zx_iconst (v := 0) (zd me_X12_load 1 rfl) (by decide) ?_
  refine zx_putI (zd me_X12_load 2 rfl) fp_X12_1 (zi12_c h0) rfl (fun M1 _ => ?_)
  refine zx_aload_n (i := 0) (zd me_X12_load 3 rfl) rfl 0 rfl ?_
  refine zx_iload_n (i := 1) (zd me_X12_load 4 rfl) rfl 1 rfl ?_
  refine zx_callVI1 (zd me_X12_load 5 rfl) (mc_X12_isBath (zl C) h0 i1 M1) lk_X12_249 ⟨(Nat.le_of_ble_eq_true rfl), (Nat.le_of_ble_eq_true rfl)⟩ (Nat.le_of_ble_eq_true rfl) (zi12_c h0) rfl (fun r3 M2 => ?_)
  refine zx_if_eq (tgt := 24) (zd me_X12_load 6 rfl) (by decide) (fun c4 => ?_) (fun c4 => ?_)
  · refine zx_iconst (v := (-1)) (zd me_X12_load 12 rfl) (by decide) ?_
    exact zx_iret (zd me_X12_load 13 rfl) rfl
  · refine zx_iload_n (i := 2) (zd me_X12_load 7 rfl) rfl 2 rfl ?_
    refine zx_iconst (v := 0) (zd me_X12_load 8 rfl) (by decide) ?_
    refine zx_sipush (v := 200) (zd me_X12_load 9 rfl) (by decide) ?_
    refine zx_callSI3 (zd me_X12_load 10 rfl) (mc_X12_isIn (zl C) i2 (0 : Int32) (200 : Int32) M2) lk_X12_75 ⟨(Nat.le_of_ble_eq_true rfl), (Nat.le_of_ble_eq_true rfl)⟩ (Nat.le_of_ble_eq_true rfl) (fun r6 M5 => ?_)
    refine zx_if_ne (tgt := 26) (zd me_X12_load 11 rfl) (by decide) (fun c7 => ?_) (fun c7 => ?_)
    · refine zx_aload_n (i := 0) (zd me_X12_load 14 rfl) rfl 0 rfl ?_
      refine zx_aload_n (i := 0) (zd me_X12_load 15 rfl) rfl 0 rfl ?_
      refine zx_getR (zd me_X12_load 16 rfl) fl_X12_110 (zi12_c h0) rfl (zi12_r18 h0) ?_
      refine zx_iconst (v := 0) (zd me_X12_load 17 rfl) (by decide) ?_
      refine zx_callVV2 (zd me_X12_load 18 rfl) (mc_X12_save (zl C) h0 (zi12_t18 h0) (0 : Int32) M5) lk_X12_273 ⟨(Nat.le_of_ble_eq_true rfl), (Nat.le_of_ble_eq_true rfl)⟩ (Nat.le_of_ble_eq_true rfl) (zi12_c h0) rfl (fun r9 M8 => ?_)
      refine zx_aload_n (i := 0) (zd me_X12_load 19 rfl) rfl 0 rfl ?_
      refine zx_iload_n (i := 2) (zd me_X12_load 20 rfl) rfl 2 rfl ?_
      refine zx_callVV1 (zd me_X12_load 21 rfl) (mc_X12_goOn (zl C) h0 i2 M8) lk_X12_318 ⟨(Nat.le_of_ble_eq_true rfl), (Nat.le_of_ble_eq_true rfl)⟩ (Nat.le_of_ble_eq_true rfl) (zi12_c h0) rfl (fun r11 M10 => ?_)
      refine zx_aload_n (i := 0) (zd me_X12_load 22 rfl) rfl 0 rfl ?_
      refine zx_iload_n (i := 1) (zd me_X12_load 23 rfl) rfl 1 rfl ?_
      refine zx_callVI1 (zd me_X12_load 24 rfl) (mc_X12_sheetsIn (zl C) h0 i1 M10) lk_X12_237 ⟨(Nat.le_of_ble_eq_true rfl), (Nat.le_of_ble_eq_true rfl)⟩ (Nat.le_of_ble_eq_true rfl) (zi12_c h0) rfl (fun r13 M12 => ?_)
      refine zx_istore_n (i := 3) (ls' := [(3, .int r13), (0, .ref a0), (1, .int i1), (2, .int i2)]) (zd me_X12_load 25 rfl) rfl (Nat.le_of_ble_eq_true rfl) rfl ?_
      refine zx_aload_n (i := 0) (zd me_X12_load 26 rfl) rfl 1 rfl ?_
      refine zx_aload_n (i := 0) (zd me_X12_load 27 rfl) rfl 1 rfl ?_
      refine zx_getR (zd me_X12_load 28 rfl) fl_X12_110 (zi12_c h0) rfl (zi12_r18 h0) ?_
      refine zx_iconst (v := 0) (zd me_X12_load 29 rfl) (by decide) ?_
      refine zx_callVV2 (zd me_X12_load 30 rfl) (mc_X12_comeBack (zl C) h0 (zi12_t18 h0) (0 : Int32) M12) lk_X12_309 ⟨(Nat.le_of_ble_eq_true rfl), (Nat.le_of_ble_eq_true rfl)⟩ (Nat.le_of_ble_eq_true rfl) (zi12_c h0) rfl (fun r15 M14 => ?_)
      refine zx_iload_n (i := 3) (zd me_X12_load 31 rfl) rfl 0 rfl ?_
      exact zx_iret (zd me_X12_load 32 rfl) rfl
    · refine zx_iconst (v := (-1)) (zd me_X12_load 12 rfl) (by decide) ?_
      exact zx_iret (zd me_X12_load 13 rfl) rfl
def mf_X12_spoiltLater (R : zRR) (a0 : Nat) (M : zMem) : Option (Int32 × zMem) :=
  zcl (mf_X12_goOn R a0 (200 : Int32) M) fun _ M1 =>
  zcl (mf_X12_those R a0 (3 : Int32) M1) fun r4 M3 =>
  some (r4, M3)
theorem mc_X12_spoiltLater (l : Launch) {T : zTT} {R : zRR} {a0 : Nat} (h0 : zi12 T R a0) (M : zMem) : zMS l yX12_spoiltLater mi_X12_spoiltLater zrvI (mf_X12_spoiltLater R a0 M) [.ref a0] T R M := by
  refine zMS.of (by decide +kernel) rfl ⟨rfl, rfl⟩ (Nat.le_of_ble_eq_true rfl) (fun C ad _ => ?_)
  show zX C mi_X12_spoiltLater (zFin C zrvI ad T R) 0 0 (mf_X12_spoiltLater R a0 M) 0 [(0, .ref a0)] [] ad T R M
  unfold mf_X12_spoiltLater
  refine zx_aload_n (i := 0) (zd me_X12_spoiltLater 0 rfl) rfl 0 rfl ?_
  refine zx_sipush (v := 200) (zd me_X12_spoiltLater 1 rfl) (by decide) ?_
  refine zx_callVV1 (zd me_X12_spoiltLater 2 rfl) (mc_X12_goOn (zl C) h0 (200 : Int32) M) lk_X12_318 ⟨(Nat.le_of_ble_eq_true rfl), (Nat.le_of_ble_eq_true rfl)⟩ (Nat.le_of_ble_eq_true rfl) (zi12_c h0) rfl (fun r2 M1 => ?_)
  refine zx_aload_n (i := 0) (zd me_X12_spoiltLater 3 rfl) rfl 0 rfl ?_
  refine zx_iconst (v := 3) (zd me_X12_spoiltLater 4 rfl) (by decide) ?_
  refine zx_callVI1 (zd me_X12_spoiltLater 5 rfl) (mc_X12_those (zl C) h0 (3 : Int32) M1) lk_X12_267 ⟨(Nat.le_of_ble_eq_true rfl), (Nat.le_of_ble_eq_true rfl)⟩ (Nat.le_of_ble_eq_true rfl) (zi12_c h0) rfl (fun r4 M3 => ?_)
  exact zx_iret (zd me_X12_spoiltLater 6 rfl) rfl
def mf_X12_isClear_b69 (R : zRR) (a0 : Nat) (s0 : Int32) (M : zMem) : Option (Int32 × zMem) :=
  zcl (mf_X12_comeBack R a0 (zrf R a0 18) 56 (0 : Int32) M) fun _ M17 =>
  zchk (s0 = 0 ∨ s0 = 1) (some (s0, M17))
theorem mt_X12_isClear_b69 {C : zCx} {ad : Nat → Nat} {T : zTT} {R : zRR} {a0 : Nat} (h0 : zi12 T R a0) (s0 : Int32) (M : zMem) : zX C mi_X12_isClear (zFin C zrvI ad T R) 0 0 (mf_X12_isClear_b69 R a0 s0 M) 69 [(0, .ref a0)] [.int s0] ad T R M := by
  unfold mf_X12_isClear_b69
  refine zx_istore (ls' := [(4, .int s0), (0, .ref a0)]) (zd me_X12_isClear 42 rfl) (Nat.le_of_ble_eq_true rfl) rfl ?_
  refine zx_aload_n (i := 0) (zd me_X12_isClear 43 rfl) rfl 1 rfl ?_
  refine zx_aload_n (i := 0) (zd me_X12_isClear 44 rfl) rfl 1 rfl ?_
  refine zx_getR (zd me_X12_isClear 45 rfl) fl_X12_110 (zi12_c h0) rfl (zi12_r18 h0) ?_
  refine zx_iconst (v := 0) (zd me_X12_isClear 46 rfl) (by decide) ?_
  refine zx_callVV2 (zd me_X12_isClear 47 rfl) (mc_X12_comeBack (zl C) h0 (zi12_t18 h0) (0 : Int32) M) lk_X12_309 ⟨(Nat.le_of_ble_eq_true rfl), (Nat.le_of_ble_eq_true rfl)⟩ (Nat.le_of_ble_eq_true rfl) (zi12_c h0) rfl (fun r18 M17 => ?_)
  refine zx_iload (zd me_X12_isClear 48 rfl) 0 rfl ?_
  exact zx_zretC (zd me_X12_isClear 49 rfl) rfl
def mf_X12_isClear_b68 (R : zRR) (a0 : Nat) (M : zMem) : Option (Int32 × zMem) :=
  mf_X12_isClear_b69 R a0 (0 : Int32) M
theorem mt_X12_isClear_b68 {C : zCx} {ad : Nat → Nat} {T : zTT} {R : zRR} {a0 : Nat} (h0 : zi12 T R a0) (M : zMem) : zX C mi_X12_isClear (zFin C zrvI ad T R) 0 0 (mf_X12_isClear_b68 R a0 M) 68 [(0, .ref a0)] [] ad T R M := by
  unfold mf_X12_isClear_b68
  refine zx_iconst (v := 0) (zd me_X12_isClear 41 rfl) (by decide) ?_
  exact mt_X12_isClear_b69 h0 (0 : Int32) M
def mf_X12_isClear (R : zRR) (a0 : Nat) (i1 : Int32) (M : zMem) : Option (Int32 × zMem) :=
  zcl (mf_X12_whyStart R a0 i1 M) fun r2 M1 =>
  if r2 = 0 then
    (zcl (mf_X12_save R a0 (zrf R a0 18) 56 (0 : Int32) M1) fun _ M4 =>
    zcl (mf_X12_spoiltLater R a0 M4) fun r7 M6 =>
    zcl (mf_X12_comeBack R a0 (zrf R a0 18) 56 (0 : Int32) M6) fun _ M8 =>
    zcl (mf_X12_starts R a0 i1 M8) fun _ M10 =>
    zcl (mf_X12_spoiltLater R a0 M10) fun r13 M12 =>
    zald 354 ((64 : Int32) + i1) fun j14 =>
    if (M12.1 (zrf R a0 14) j14) = (2 : Int32) then
      (if (r13 &&& (r7 ^^^ (-1 : Int32))) = 0 then
        (mf_X12_isClear_b69 R a0 (1 : Int32) M12)
      else
        (mf_X12_isClear_b68 R a0 M12))
    else
      (mf_X12_isClear_b68 R a0 M12))
  else
    (some ((0 : Int32), M1))
theorem mc_X12_isClear (l : Launch) {T : zTT} {R : zRR} {a0 : Nat} (h0 : zi12 T R a0) (i1 : Int32) (M : zMem) : zMS l yX12_isClear mi_X12_isClear zrvI (mf_X12_isClear R a0 i1 M) [.ref a0, .int i1] T R M := by
  refine zMS.of (by decide +kernel) rfl ⟨rfl, rfl⟩ (Nat.le_of_ble_eq_true rfl) (fun C ad _ => ?_)
  show zX C mi_X12_isClear (zFin C zrvI ad T R) 0 0 (mf_X12_isClear R a0 i1 M) 0 [(0, .ref a0), (1, .int i1)] [] ad T R M
  unfold mf_X12_isClear
  refine zx_aload_n (i := 0) (zd me_X12_isClear 0 rfl) rfl 0 rfl ?_
  refine zx_iload_n (i := 1) (zd me_X12_isClear 1 rfl) rfl 1 rfl ?_
  refine zx_callVI1 (zd me_X12_isClear 2 rfl) (mc_X12_whyStart (zl C) h0 i1 M) lk_X12_280 ⟨(Nat.le_of_ble_eq_true rfl), (Nat.le_of_ble_eq_true rfl)⟩ (Nat.le_of_ble_eq_true rfl) (zi12_c h0) rfl (fun r2 M1 => ?_)
  refine zx_if_eq (tgt := 10) (zd me_X12_isClear 3 rfl) (by decide) (fun c3 => ?_) (fun c3 => ?_)
  · refine zx_aload_n (i := 0) (zd me_X12_isClear 6 rfl) rfl 0 rfl ?_
    refine zx_aload_n (i := 0) (zd me_X12_isClear 7 rfl) rfl 0 rfl ?_
    refine zx_getR (zd me_X12_isClear 8 rfl) fl_X12_110 (zi12_c h0) rfl (zi12_r18 h0) ?_
    refine zx_iconst (v := 0) (zd me_X12_isClear 9 rfl) (by decide) ?_
    refine zx_callVV2 (zd me_X12_isClear 10 rfl) (mc_X12_save (zl C) h0 (zi12_t18 h0) (0 : Int32) M1) lk_X12_273 ⟨(Nat.le_of_ble_eq_true rfl), (Nat.le_of_ble_eq_true rfl)⟩ (Nat.le_of_ble_eq_true rfl) (zi12_c h0) rfl (fun r5 M4 => ?_)
    refine zx_aload_n (i := 0) (zd me_X12_isClear 11 rfl) rfl 0 rfl ?_
    refine zx_callVI0 (zd me_X12_isClear 12 rfl) (mc_X12_spoiltLater (zl C) h0 M4) lk_X12_327 ⟨(Nat.le_of_ble_eq_true rfl), (Nat.le_of_ble_eq_true rfl)⟩ (Nat.le_of_ble_eq_true rfl) (zi12_c h0) rfl (fun r7 M6 => ?_)
    refine zx_istore_n (i := 2) (ls' := [(2, .int r7), (0, .ref a0), (1, .int i1)]) (zd me_X12_isClear 13 rfl) rfl (Nat.le_of_ble_eq_true rfl) rfl ?_
    refine zx_aload_n (i := 0) (zd me_X12_isClear 14 rfl) rfl 1 rfl ?_
    refine zx_aload_n (i := 0) (zd me_X12_isClear 15 rfl) rfl 1 rfl ?_
    refine zx_getR (zd me_X12_isClear 16 rfl) fl_X12_110 (zi12_c h0) rfl (zi12_r18 h0) ?_
    refine zx_iconst (v := 0) (zd me_X12_isClear 17 rfl) (by decide) ?_
    refine zx_callVV2 (zd me_X12_isClear 18 rfl) (mc_X12_comeBack (zl C) h0 (zi12_t18 h0) (0 : Int32) M6) lk_X12_309 ⟨(Nat.le_of_ble_eq_true rfl), (Nat.le_of_ble_eq_true rfl)⟩ (Nat.le_of_ble_eq_true rfl) (zi12_c h0) rfl (fun r9 M8 => ?_)
    refine zx_aload_n (i := 0) (zd me_X12_isClear 19 rfl) rfl 1 rfl ?_
    refine zx_iload_n (i := 1) (zd me_X12_isClear 20 rfl) rfl 2 rfl ?_
    refine zx_callVV1 (zd me_X12_isClear 21 rfl) (mc_X12_starts (zl C) h0 i1 M8) lk_X12_293 ⟨(Nat.le_of_ble_eq_true rfl), (Nat.le_of_ble_eq_true rfl)⟩ (Nat.le_of_ble_eq_true rfl) (zi12_c h0) rfl (fun r11 M10 => ?_)
    refine zx_aload_n (i := 0) (zd me_X12_isClear 22 rfl) rfl 1 rfl ?_
    refine zx_callVI0 (zd me_X12_isClear 23 rfl) (mc_X12_spoiltLater (zl C) h0 M10) lk_X12_327 ⟨(Nat.le_of_ble_eq_true rfl), (Nat.le_of_ble_eq_true rfl)⟩ (Nat.le_of_ble_eq_true rfl) (zi12_c h0) rfl (fun r13 M12 => ?_)
    refine zx_istore_n (i := 3) (ls' := [(3, .int r13), (2, .int r7), (0, .ref a0), (1, .int i1)]) (zd me_X12_isClear 24 rfl) rfl (Nat.le_of_ble_eq_true rfl) rfl ?_
    refine zx_aload_n (i := 0) (zd me_X12_isClear 25 rfl) rfl 2 rfl ?_
    refine zx_getR (zd me_X12_isClear 26 rfl) fl_X12_98 (zi12_c h0) rfl (zi12_r14 h0) ?_
    refine zx_bipush (v := 64) (zd me_X12_isClear 27 rfl) (by decide) ?_
    refine zx_iload_n (i := 1) (zd me_X12_isClear 28 rfl) rfl 3 rfl ?_
    refine zx_iadd (zd me_X12_isClear 29 rfl) ?_
    refine zx_iald (zd me_X12_isClear 30 rfl) (zi12_t14 h0) (fun j14 hj14 => ?_)
    refine zx_iconst (v := 2) (zd me_X12_isClear 31 rfl) (by decide) ?_
    refine zx_icmp_ne (tgt := 68) (zd me_X12_isClear 32 rfl) (by decide) (fun c15 => ?_) (fun c15 => ?_)
    · refine zx_loc [2] rfl ?_
      exact mt_X12_isClear_b68 h0 M12
    · refine zx_iload_n (i := 3) (zd me_X12_isClear 33 rfl) rfl 0 rfl ?_
      refine zx_iload_n (i := 2) (zd me_X12_isClear 34 rfl) rfl 1 rfl ?_
      refine zx_iconst (v := (-1)) (zd me_X12_isClear 35 rfl) (by decide) ?_
      refine zx_ixor (zd me_X12_isClear 36 rfl) ?_
      refine zx_iand (zd me_X12_isClear 37 rfl) ?_
      refine zx_if_ne (tgt := 68) (zd me_X12_isClear 38 rfl) (by decide) (fun c16 => ?_) (fun c16 => ?_)
      · refine zx_loc [2] rfl ?_
        exact mt_X12_isClear_b68 h0 M12
      · refine zx_iconst (v := 1) (zd me_X12_isClear 39 rfl) (by decide) ?_
        refine zx_goto (tgt := 69) (zd me_X12_isClear 40 rfl) (by decide) ?_
        refine zx_loc [2] rfl ?_
        exact mt_X12_isClear_b69 h0 (1 : Int32) M12
  · refine zx_iconst (v := 0) (zd me_X12_isClear 4 rfl) (by decide) ?_
    exact zx_zret (zd me_X12_isClear 5 rfl) rfl rfl
def mf_X12_waitFor_l2 (R : zRR) (a0 : Nat) : Nat → Int32 → Int32 → zMem → Option (Int32 × zMem)
  | 0, _, _, _ => none
  | fuel + 1, i1, i2, M =>
    if (60 : Int32) < i2 then
      (some ((-1 : Int32), M))
    else
      (zcl (mf_X12_isClear R a0 i1 M) fun r3 M2 =>
      if r3 = 0 then
        (zcl (mf_X12_oneMinute R a0 M2) fun _ M5 =>
        mf_X12_waitFor_l2 R a0 fuel i1 (i2 + 1) M5)
      else
        (some (i2, M2)))
theorem mt_X12_waitFor_l2 {C : zCx} {ad : Nat → Nat} {T : zTT} {R : zRR} {a0 : Nat} (h0 : zi12 T R a0) : ∀ (fuel : Nat) (i1 : Int32) (i2 : Int32) (M : zMem), zX C mi_X12_waitFor (zFin C zrvI ad T R) 0 0 (mf_X12_waitFor_l2 R a0 fuel i1 i2 M) 2 [(0, .ref a0), (1, .int i1), (2, .int i2)] [] ad T R M := by
  intro fuel
  induction fuel with
  | zero => intros; exact zx_none
  | succ fuel ih =>
    intro i1 i2 M
    rw [mf_X12_waitFor_l2]
    refine zx_iload_n (i := 2) (zd me_X12_waitFor 2 rfl) rfl 2 rfl ?_
    refine zx_bipush (v := 60) (zd me_X12_waitFor 3 rfl) (by decide) ?_
    refine zx_icmp_gt (tgt := 28) (zd me_X12_waitFor 4 rfl) (by decide) (fun c1 => ?_) (fun c1 => ?_)
    · refine zx_iconst (v := (-1)) (zd me_X12_waitFor 15 rfl) (by decide) ?_
      exact zx_iret (zd me_X12_waitFor 16 rfl) rfl
    · refine zx_aload_n (i := 0) (zd me_X12_waitFor 5 rfl) rfl 0 rfl ?_
      refine zx_iload_n (i := 1) (zd me_X12_waitFor 6 rfl) rfl 1 rfl ?_
      refine zx_callVI1 (zd me_X12_waitFor 7 rfl) (mc_X12_isClear (zl C) h0 i1 M) lk_X12_330 ⟨(Nat.le_of_ble_eq_true rfl), (Nat.le_of_ble_eq_true rfl)⟩ (Nat.le_of_ble_eq_true rfl) (zi12_c h0) rfl (fun r3 M2 => ?_)
      refine zx_if_eq (tgt := 18) (zd me_X12_waitFor 8 rfl) (by decide) (fun c4 => ?_) (fun c4 => ?_)
      · refine zx_aload_n (i := 0) (zd me_X12_waitFor 11 rfl) rfl 0 rfl ?_
        refine zx_callVV0 (zd me_X12_waitFor 12 rfl) (mc_X12_oneMinute (zl C) h0 M2) lk_X12_321 ⟨(Nat.le_of_ble_eq_true rfl), (Nat.le_of_ble_eq_true rfl)⟩ (Nat.le_of_ble_eq_true rfl) (zi12_c h0) rfl (fun r6 M5 => ?_)
        refine zx_iinc (v := 1) (ls' := [(2, .int (i2 + 1)), (0, .ref a0), (1, .int i1)]) (zd me_X12_waitFor 13 rfl) (Nat.le_of_ble_eq_true rfl) 2 rfl (by decide) rfl ?_
        refine zx_goto (tgt := 2) (zd me_X12_waitFor 14 rfl) (by decide) ?_
        refine zx_loc [1, 2, 0] rfl ?_
        exact ih i1 (i2 + 1) M5
      · refine zx_iload_n (i := 2) (zd me_X12_waitFor 9 rfl) rfl 2 rfl ?_
        exact zx_iret (zd me_X12_waitFor 10 rfl) rfl
def mf_X12_waitFor (R : zRR) (a0 : Nat) (i1 : Int32) (M : zMem) : Option (Int32 × zMem) :=
  mf_X12_waitFor_l2 R a0 zF i1 (0 : Int32) M
theorem mc_X12_waitFor (l : Launch) {T : zTT} {R : zRR} {a0 : Nat} (h0 : zi12 T R a0) (i1 : Int32) (M : zMem) : zMS l yX12_waitFor mi_X12_waitFor zrvI (mf_X12_waitFor R a0 i1 M) [.ref a0, .int i1] T R M := by
  refine zMS.of (by decide +kernel) rfl ⟨rfl, rfl⟩ (Nat.le_of_ble_eq_true rfl) (fun C ad _ => ?_)
  show zX C mi_X12_waitFor (zFin C zrvI ad T R) 0 0 (mf_X12_waitFor R a0 i1 M) 0 [(0, .ref a0), (1, .int i1)] [] ad T R M
  unfold mf_X12_waitFor
  refine zx_iconst (v := 0) (zd me_X12_waitFor 0 rfl) (by decide) ?_
  refine zx_istore_n (i := 2) (ls' := [(2, .int (0 : Int32)), (0, .ref a0), (1, .int i1)]) (zd me_X12_waitFor 1 rfl) rfl (Nat.le_of_ble_eq_true rfl) rfl ?_
  refine zx_loc [1, 2, 0] rfl ?_
  exact mt_X12_waitFor_l2 h0 zF i1 (0 : Int32) M
def mf_X12_clear (R : zRR) (a0 : Nat) (i1 : Int32) (M : zMem) : Option (Int32 × zMem) :=
  zlet (zwI M a0 0 (0 : Int32)) fun M1 =>
  zcl (mf_X12_isSheet R a0 i1 M1) fun r3 M2 =>
  if r3 = 0 then
    (some ((-1 : Int32), M2))
  else
    (zcl (mf_X12_isWaiting R a0 i1 M2) fun r6 M5 =>
    if r6 = 0 then
      (some ((-1 : Int32), M5))
    else
      (zcl (mf_X12_save R a0 (zrf R a0 19) 56 (0 : Int32) M5) fun _ M8 =>
      zcl (mf_X12_waitFor R a0 i1 M8) fun r11 M10 =>
      zcl (mf_X12_comeBack R a0 (zrf R a0 19) 56 (0 : Int32) M10) fun _ M12 =>
      some (r11, M12)))
theorem mc_X12_clear (l : Launch) {T : zTT} {R : zRR} {a0 : Nat} (h0 : zi12 T R a0) (i1 : Int32) (M : zMem) : zMS l yX12_clear mi_X12_clear zrvI (mf_X12_clear R a0 i1 M) [.ref a0, .int i1] T R M := by
  refine zMS.of (by decide +kernel) rfl ⟨rfl, rfl⟩ (Nat.le_of_ble_eq_true rfl) (fun C ad _ => ?_)
  show zX C mi_X12_clear (zFin C zrvI ad T R) 0 0 (mf_X12_clear R a0 i1 M) 0 [(0, .ref a0), (1, .int i1)] [] ad T R M
  unfold mf_X12_clear
  refine zx_aload_n (i := 0) (zd me_X12_clear 0 rfl) rfl 0 rfl ?_
  refine zx_iconst (v := 0) (zd me_X12_clear 1 rfl) (by decide) ?_
  refine zx_putI (zd me_X12_clear 2 rfl) fp_X12_1 (zi12_c h0) rfl (fun M1 _ => ?_)
  refine zx_aload_n (i := 0) (zd me_X12_clear 3 rfl) rfl 0 rfl ?_
  refine zx_iload_n (i := 1) (zd me_X12_clear 4 rfl) rfl 1 rfl ?_
  refine zx_callVI1 (zd me_X12_clear 5 rfl) (mc_X12_isSheet (zl C) h0 i1 M1) lk_X12_261 ⟨(Nat.le_of_ble_eq_true rfl), (Nat.le_of_ble_eq_true rfl)⟩ (Nat.le_of_ble_eq_true rfl) (zi12_c h0) rfl (fun r3 M2 => ?_)
  refine zx_if_eq (tgt := 21) (zd me_X12_clear 6 rfl) (by decide) (fun c4 => ?_) (fun c4 => ?_)
  · refine zx_iconst (v := (-1)) (zd me_X12_clear 11 rfl) (by decide) ?_
    exact zx_iret (zd me_X12_clear 12 rfl) rfl
  · refine zx_aload_n (i := 0) (zd me_X12_clear 7 rfl) rfl 0 rfl ?_
    refine zx_iload_n (i := 1) (zd me_X12_clear 8 rfl) rfl 1 rfl ?_
    refine zx_callVI1 (zd me_X12_clear 9 rfl) (mc_X12_isWaiting (zl C) h0 i1 M2) lk_X12_246 ⟨(Nat.le_of_ble_eq_true rfl), (Nat.le_of_ble_eq_true rfl)⟩ (Nat.le_of_ble_eq_true rfl) (zi12_c h0) rfl (fun r6 M5 => ?_)
    refine zx_if_ne (tgt := 23) (zd me_X12_clear 10 rfl) (by decide) (fun c7 => ?_) (fun c7 => ?_)
    · refine zx_aload_n (i := 0) (zd me_X12_clear 13 rfl) rfl 0 rfl ?_
      refine zx_aload_n (i := 0) (zd me_X12_clear 14 rfl) rfl 0 rfl ?_
      refine zx_getR (zd me_X12_clear 15 rfl) fl_X12_113 (zi12_c h0) rfl (zi12_r19 h0) ?_
      refine zx_iconst (v := 0) (zd me_X12_clear 16 rfl) (by decide) ?_
      refine zx_callVV2 (zd me_X12_clear 17 rfl) (mc_X12_save (zl C) h0 (zi12_t19 h0) (0 : Int32) M5) lk_X12_273 ⟨(Nat.le_of_ble_eq_true rfl), (Nat.le_of_ble_eq_true rfl)⟩ (Nat.le_of_ble_eq_true rfl) (zi12_c h0) rfl (fun r9 M8 => ?_)
      refine zx_aload_n (i := 0) (zd me_X12_clear 18 rfl) rfl 0 rfl ?_
      refine zx_iload_n (i := 1) (zd me_X12_clear 19 rfl) rfl 1 rfl ?_
      refine zx_callVI1 (zd me_X12_clear 20 rfl) (mc_X12_waitFor (zl C) h0 i1 M8) lk_X12_333 ⟨(Nat.le_of_ble_eq_true rfl), (Nat.le_of_ble_eq_true rfl)⟩ (Nat.le_of_ble_eq_true rfl) (zi12_c h0) rfl (fun r11 M10 => ?_)
      refine zx_istore_n (i := 2) (ls' := [(2, .int r11), (0, .ref a0), (1, .int i1)]) (zd me_X12_clear 21 rfl) rfl (Nat.le_of_ble_eq_true rfl) rfl ?_
      refine zx_aload_n (i := 0) (zd me_X12_clear 22 rfl) rfl 1 rfl ?_
      refine zx_aload_n (i := 0) (zd me_X12_clear 23 rfl) rfl 1 rfl ?_
      refine zx_getR (zd me_X12_clear 24 rfl) fl_X12_113 (zi12_c h0) rfl (zi12_r19 h0) ?_
      refine zx_iconst (v := 0) (zd me_X12_clear 25 rfl) (by decide) ?_
      refine zx_callVV2 (zd me_X12_clear 26 rfl) (mc_X12_comeBack (zl C) h0 (zi12_t19 h0) (0 : Int32) M10) lk_X12_309 ⟨(Nat.le_of_ble_eq_true rfl), (Nat.le_of_ble_eq_true rfl)⟩ (Nat.le_of_ble_eq_true rfl) (zi12_c h0) rfl (fun r13 M12 => ?_)
      refine zx_iload_n (i := 2) (zd me_X12_clear 27 rfl) rfl 0 rfl ?_
      exact zx_iret (zd me_X12_clear 28 rfl) rfl
    · refine zx_iconst (v := (-1)) (zd me_X12_clear 11 rfl) (by decide) ?_
      exact zx_iret (zd me_X12_clear 12 rfl) rfl
def mf_X12_areDone_l2 (R : zRR) (a0 : Nat) : Nat → Int32 → Int32 → zMem → Option (Int32 × zMem)
  | 0, _, _, _ => none
  | fuel + 1, i1, i2, M =>
    if i1 ≤ i2 then
      (some ((1 : Int32), M))
    else
      (zald 3 i2 fun j2 =>
      zald 354 ((64 : Int32) + (M.1 (zrf R a0 27) j2)) fun j3 =>
      if (M.1 (zrf R a0 14) j3) = (2 : Int32) then
        (mf_X12_areDone_l2 R a0 fuel i1 (i2 + 1) M)
      else
        (some ((0 : Int32), M)))
theorem mt_X12_areDone_l2 {C : zCx} {ad : Nat → Nat} {T : zTT} {R : zRR} {a0 : Nat} (h0 : zi12 T R a0) : ∀ (fuel : Nat) (i1 : Int32) (i2 : Int32) (M : zMem), zX C mi_X12_areDone (zFin C zrvI ad T R) 0 0 (mf_X12_areDone_l2 R a0 fuel i1 i2 M) 2 [(0, .ref a0), (1, .int i1), (2, .int i2)] [] ad T R M := by
  intro fuel
  induction fuel with
  | zero => intros; exact zx_none
  | succ fuel ih =>
    intro i1 i2 M
    rw [mf_X12_areDone_l2]
    refine zx_iload_n (i := 2) (zd me_X12_areDone 2 rfl) rfl 2 rfl ?_
    refine zx_iload_n (i := 1) (zd me_X12_areDone 3 rfl) rfl 1 rfl ?_
    refine zx_icmp_ge (tgt := 33) (zd me_X12_areDone 4 rfl) (by decide) (fun c1 => ?_) (fun c1 => ?_)
    · refine zx_iconst (v := 1) (zd me_X12_areDone 20 rfl) (by decide) ?_
      exact zx_zret (zd me_X12_areDone 21 rfl) rfl rfl
    · refine zx_aload_n (i := 0) (zd me_X12_areDone 5 rfl) rfl 0 rfl ?_
      refine zx_getR (zd me_X12_areDone 6 rfl) fl_X12_98 (zi12_c h0) rfl (zi12_r14 h0) ?_
      refine zx_bipush (v := 64) (zd me_X12_areDone 7 rfl) (by decide) ?_
      refine zx_aload_n (i := 0) (zd me_X12_areDone 8 rfl) rfl 0 rfl ?_
      refine zx_getR (zd me_X12_areDone 9 rfl) fl_X12_133 (zi12_c h0) rfl (zi12_r27 h0) ?_
      refine zx_iload_n (i := 2) (zd me_X12_areDone 10 rfl) rfl 2 rfl ?_
      refine zx_iald (zd me_X12_areDone 11 rfl) (zi12_t27 h0) (fun j2 hj2 => ?_)
      refine zx_iadd (zd me_X12_areDone 12 rfl) ?_
      refine zx_iald (zd me_X12_areDone 13 rfl) (zi12_t14 h0) (fun j3 hj3 => ?_)
      refine zx_iconst (v := 2) (zd me_X12_areDone 14 rfl) (by decide) ?_
      refine zx_icmp_eq (tgt := 27) (zd me_X12_areDone 15 rfl) (by decide) (fun c4 => ?_) (fun c4 => ?_)
      · refine zx_iinc (v := 1) (ls' := [(2, .int (i2 + 1)), (0, .ref a0), (1, .int i1)]) (zd me_X12_areDone 18 rfl) (Nat.le_of_ble_eq_true rfl) 2 rfl (by decide) rfl ?_
        refine zx_goto (tgt := 2) (zd me_X12_areDone 19 rfl) (by decide) ?_
        refine zx_loc [1, 2, 0] rfl ?_
        exact ih i1 (i2 + 1) M
      · refine zx_iconst (v := 0) (zd me_X12_areDone 16 rfl) (by decide) ?_
        exact zx_zret (zd me_X12_areDone 17 rfl) rfl rfl
def mf_X12_areDone (R : zRR) (a0 : Nat) (i1 : Int32) (M : zMem) : Option (Int32 × zMem) :=
  mf_X12_areDone_l2 R a0 zF i1 (0 : Int32) M
theorem mc_X12_areDone (l : Launch) {T : zTT} {R : zRR} {a0 : Nat} (h0 : zi12 T R a0) (i1 : Int32) (M : zMem) : zMS l yX12_areDone mi_X12_areDone zrvI (mf_X12_areDone R a0 i1 M) [.ref a0, .int i1] T R M := by
  refine zMS.of (by decide +kernel) rfl ⟨rfl, rfl⟩ (Nat.le_of_ble_eq_true rfl) (fun C ad _ => ?_)
  show zX C mi_X12_areDone (zFin C zrvI ad T R) 0 0 (mf_X12_areDone R a0 i1 M) 0 [(0, .ref a0), (1, .int i1)] [] ad T R M
  unfold mf_X12_areDone
  refine zx_iconst (v := 0) (zd me_X12_areDone 0 rfl) (by decide) ?_
  refine zx_istore_n (i := 2) (ls' := [(2, .int (0 : Int32)), (0, .ref a0), (1, .int i1)]) (zd me_X12_areDone 1 rfl) rfl (Nat.le_of_ble_eq_true rfl) rfl ?_
  refine zx_loc [1, 2, 0] rfl ?_
  exact mt_X12_areDone_l2 h0 zF i1 (0 : Int32) M
def mf_X12_lastOf_l59 (R : zRR) (a0 : Nat) : Nat → Int32 → Int32 → Int32 → zMem → Option (Int32 × zMem)
  | 0, _, _, _, _ => none
  | fuel + 1, i1, i2, i3, M =>
    if (200 : Int32) < i3 then
      (some ((-1 : Int32), M))
    else
      (zcl (mf_X12_areDone R a0 i1 M) fun r14 M13 =>
      if r14 = 0 then
        (zcl (mf_X12_oneMinute R a0 M13) fun _ M16 =>
        mf_X12_lastOf_l59 R a0 fuel i1 i2 (i3 + 1) M16)
      else
        (some ((i2 + i3), M13)))
theorem mt_X12_lastOf_l59 {C : zCx} {ad : Nat → Nat} {T : zTT} {R : zRR} {a0 : Nat} (h0 : zi12 T R a0) : ∀ (fuel : Nat) (i1 : Int32) (i2 : Int32) (i3 : Int32) (M : zMem), zX C mi_X12_lastOf (zFin C zrvI ad T R) 0 0 (mf_X12_lastOf_l59 R a0 fuel i1 i2 i3 M) 59 [(0, .ref a0), (1, .int i1), (2, .int i2), (3, .int i3)] [] ad T R M := by
  intro fuel
  induction fuel with
  | zero => intros; exact zx_none
  | succ fuel ih =>
    intro i1 i2 i3 M
    rw [mf_X12_lastOf_l59]
    refine zx_iload_n (i := 3) (zd me_X12_lastOf 38 rfl) rfl 3 rfl ?_
    refine zx_sipush (v := 200) (zd me_X12_lastOf 39 rfl) (by decide) ?_
    refine zx_icmp_gt (tgt := 88) (zd me_X12_lastOf 40 rfl) (by decide) (fun c12 => ?_) (fun c12 => ?_)
    · refine zx_iconst (v := (-1)) (zd me_X12_lastOf 53 rfl) (by decide) ?_
      exact zx_iret (zd me_X12_lastOf 54 rfl) rfl
    · refine zx_aload_n (i := 0) (zd me_X12_lastOf 41 rfl) rfl 0 rfl ?_
      refine zx_iload_n (i := 1) (zd me_X12_lastOf 42 rfl) rfl 1 rfl ?_
      refine zx_callVI1 (zd me_X12_lastOf 43 rfl) (mc_X12_areDone (zl C) h0 i1 M) lk_X12_336 ⟨(Nat.le_of_ble_eq_true rfl), (Nat.le_of_ble_eq_true rfl)⟩ (Nat.le_of_ble_eq_true rfl) (zi12_c h0) rfl (fun r14 M13 => ?_)
      refine zx_if_eq (tgt := 78) (zd me_X12_lastOf 44 rfl) (by decide) (fun c15 => ?_) (fun c15 => ?_)
      · refine zx_aload_n (i := 0) (zd me_X12_lastOf 49 rfl) rfl 0 rfl ?_
        refine zx_callVV0 (zd me_X12_lastOf 50 rfl) (mc_X12_oneMinute (zl C) h0 M13) lk_X12_321 ⟨(Nat.le_of_ble_eq_true rfl), (Nat.le_of_ble_eq_true rfl)⟩ (Nat.le_of_ble_eq_true rfl) (zi12_c h0) rfl (fun r17 M16 => ?_)
        refine zx_iinc (v := 1) (ls' := [(3, .int (i3 + 1)), (0, .ref a0), (1, .int i1), (2, .int i2)]) (zd me_X12_lastOf 51 rfl) (Nat.le_of_ble_eq_true rfl) 3 rfl (by decide) rfl ?_
        refine zx_goto (tgt := 59) (zd me_X12_lastOf 52 rfl) (by decide) ?_
        refine zx_loc [1, 2, 3, 0] rfl ?_
        exact ih i1 i2 (i3 + 1) M16
      · refine zx_iload_n (i := 2) (zd me_X12_lastOf 45 rfl) rfl 2 rfl ?_
        refine zx_iload_n (i := 3) (zd me_X12_lastOf 46 rfl) rfl 3 rfl ?_
        refine zx_iadd (zd me_X12_lastOf 47 rfl) ?_
        exact zx_iret (zd me_X12_lastOf 48 rfl) rfl
def mf_X12_lastOf_l4 (R : zRR) (a0 : Nat) : Nat → Int32 → Int32 → Int32 → zMem → Option (Int32 × zMem)
  | 0, _, _, _, _ => none
  | fuel + 1, i1, i2, i3, M =>
    if i1 ≤ i3 then
      (mf_X12_lastOf_l59 R a0 zF i1 i2 (0 : Int32) M)
    else
      (zald 3 i3 fun j2 =>
      zcl (mf_X12_waitFor R a0 (M.1 (zrf R a0 27) j2) M) fun r4 M3 =>
      if r4 = (-1 : Int32) then
        (some ((-1 : Int32), M3))
      else
        (zlet ((i2 + r4) : Int32) fun x6 =>
        zald 3 i3 fun j7 =>
        zlet (zwI M3 (zrf R a0 28) j7 x6) fun M8 =>
        zald 3 i3 fun j9 =>
        zcl (mf_X12_starts R a0 (M8.1 (zrf R a0 27) j9) M8) fun _ M10 =>
        mf_X12_lastOf_l4 R a0 fuel i1 x6 (i3 + 1) M10))
theorem mt_X12_lastOf_l4 {C : zCx} {ad : Nat → Nat} {T : zTT} {R : zRR} {a0 : Nat} (h0 : zi12 T R a0) : ∀ (fuel : Nat) (i1 : Int32) (i2 : Int32) (i3 : Int32) (M : zMem), zX C mi_X12_lastOf (zFin C zrvI ad T R) 0 0 (mf_X12_lastOf_l4 R a0 fuel i1 i2 i3 M) 4 [(0, .ref a0), (1, .int i1), (2, .int i2), (3, .int i3)] [] ad T R M := by
  intro fuel
  induction fuel with
  | zero => intros; exact zx_none
  | succ fuel ih =>
    intro i1 i2 i3 M
    rw [mf_X12_lastOf_l4]
    refine zx_iload_n (i := 3) (zd me_X12_lastOf 4 rfl) rfl 3 rfl ?_
    refine zx_iload_n (i := 1) (zd me_X12_lastOf 5 rfl) rfl 1 rfl ?_
    refine zx_icmp_ge (tgt := 57) (zd me_X12_lastOf 6 rfl) (by decide) (fun c1 => ?_) (fun c1 => ?_)
    · refine zx_iconst (v := 0) (zd me_X12_lastOf 36 rfl) (by decide) ?_
      refine zx_istore_n (i := 3) (ls' := [(3, .int (0 : Int32)), (0, .ref a0), (1, .int i1), (2, .int i2)]) (zd me_X12_lastOf 37 rfl) rfl (Nat.le_of_ble_eq_true rfl) rfl ?_
      refine zx_loc [1, 2, 3, 0] rfl ?_
      exact mt_X12_lastOf_l59 h0 zF i1 i2 (0 : Int32) M
    · refine zx_aload_n (i := 0) (zd me_X12_lastOf 7 rfl) rfl 0 rfl ?_
      refine zx_aload_n (i := 0) (zd me_X12_lastOf 8 rfl) rfl 0 rfl ?_
      refine zx_getR (zd me_X12_lastOf 9 rfl) fl_X12_133 (zi12_c h0) rfl (zi12_r27 h0) ?_
      refine zx_iload_n (i := 3) (zd me_X12_lastOf 10 rfl) rfl 3 rfl ?_
      refine zx_iald (zd me_X12_lastOf 11 rfl) (zi12_t27 h0) (fun j2 hj2 => ?_)
      refine zx_callVI1 (zd me_X12_lastOf 12 rfl) (mc_X12_waitFor (zl C) h0 (M.1 (zrf R a0 27) j2) M) lk_X12_333 ⟨(Nat.le_of_ble_eq_true rfl), (Nat.le_of_ble_eq_true rfl)⟩ (Nat.le_of_ble_eq_true rfl) (zi12_c h0) rfl (fun r4 M3 => ?_)
      refine zx_istore (ls' := [(4, .int r4), (0, .ref a0), (1, .int i1), (2, .int i2), (3, .int i3)]) (zd me_X12_lastOf 13 rfl) (Nat.le_of_ble_eq_true rfl) rfl ?_
      refine zx_iload (zd me_X12_lastOf 14 rfl) 0 rfl ?_
      refine zx_iconst (v := (-1)) (zd me_X12_lastOf 15 rfl) (by decide) ?_
      refine zx_icmp_ne (tgt := 29) (zd me_X12_lastOf 16 rfl) (by decide) (fun c5 => ?_) (fun c5 => ?_)
      · refine zx_iload_n (i := 2) (zd me_X12_lastOf 19 rfl) rfl 3 rfl ?_
        refine zx_iload (zd me_X12_lastOf 20 rfl) 0 rfl ?_
        refine zx_iadd (zd me_X12_lastOf 21 rfl) ?_
        refine zx_leti (fun x6 => ?_)
        refine zx_istore_n (i := 2) (ls' := [(2, .int x6), (4, .int r4), (0, .ref a0), (1, .int i1), (3, .int i3)]) (zd me_X12_lastOf 22 rfl) rfl (Nat.le_of_ble_eq_true rfl) rfl ?_
        refine zx_aload_n (i := 0) (zd me_X12_lastOf 23 rfl) rfl 2 rfl ?_
        refine zx_getR (zd me_X12_lastOf 24 rfl) fl_X12_136 (zi12_c h0) rfl (zi12_r28 h0) ?_
        refine zx_iload_n (i := 3) (zd me_X12_lastOf 25 rfl) rfl 4 rfl ?_
        refine zx_iload_n (i := 2) (zd me_X12_lastOf 26 rfl) rfl 0 rfl ?_
        refine zx_iast (zd me_X12_lastOf 27 rfl) (zi12_t28 h0) (fun M8 => ?_)
        refine zx_aload_n (i := 0) (zd me_X12_lastOf 28 rfl) rfl 2 rfl ?_
        refine zx_aload_n (i := 0) (zd me_X12_lastOf 29 rfl) rfl 2 rfl ?_
        refine zx_getR (zd me_X12_lastOf 30 rfl) fl_X12_133 (zi12_c h0) rfl (zi12_r27 h0) ?_
        refine zx_iload_n (i := 3) (zd me_X12_lastOf 31 rfl) rfl 4 rfl ?_
        refine zx_iald (zd me_X12_lastOf 32 rfl) (zi12_t27 h0) (fun j9 hj9 => ?_)
        refine zx_callVV1 (zd me_X12_lastOf 33 rfl) (mc_X12_starts (zl C) h0 (M8.1 (zrf R a0 27) j9) M8) lk_X12_293 ⟨(Nat.le_of_ble_eq_true rfl), (Nat.le_of_ble_eq_true rfl)⟩ (Nat.le_of_ble_eq_true rfl) (zi12_c h0) rfl (fun r11 M10 => ?_)
        refine zx_iinc (v := 1) (ls' := [(3, .int (i3 + 1)), (2, .int x6), (4, .int r4), (0, .ref a0), (1, .int i1)]) (zd me_X12_lastOf 34 rfl) (Nat.le_of_ble_eq_true rfl) 4 rfl (by decide) rfl ?_
        refine zx_goto (tgt := 4) (zd me_X12_lastOf 35 rfl) (by decide) ?_
        refine zx_loc [3, 4, 1, 0] rfl ?_
        exact ih i1 x6 (i3 + 1) M10
      · refine zx_iconst (v := (-1)) (zd me_X12_lastOf 17 rfl) (by decide) ?_
        exact zx_iret (zd me_X12_lastOf 18 rfl) rfl
def mf_X12_lastOf (R : zRR) (a0 : Nat) (i1 : Int32) (M : zMem) : Option (Int32 × zMem) :=
  mf_X12_lastOf_l4 R a0 zF i1 (0 : Int32) (0 : Int32) M
theorem mc_X12_lastOf (l : Launch) {T : zTT} {R : zRR} {a0 : Nat} (h0 : zi12 T R a0) (i1 : Int32) (M : zMem) : zMS l yX12_lastOf mi_X12_lastOf zrvI (mf_X12_lastOf R a0 i1 M) [.ref a0, .int i1] T R M := by
  refine zMS.of (by decide +kernel) rfl ⟨rfl, rfl⟩ (Nat.le_of_ble_eq_true rfl) (fun C ad _ => ?_)
  show zX C mi_X12_lastOf (zFin C zrvI ad T R) 0 0 (mf_X12_lastOf R a0 i1 M) 0 [(0, .ref a0), (1, .int i1)] [] ad T R M
  unfold mf_X12_lastOf
  refine zx_iconst (v := 0) (zd me_X12_lastOf 0 rfl) (by decide) ?_
  refine zx_istore_n (i := 2) (ls' := [(2, .int (0 : Int32)), (0, .ref a0), (1, .int i1)]) (zd me_X12_lastOf 1 rfl) rfl (Nat.le_of_ble_eq_true rfl) rfl ?_
  refine zx_iconst (v := 0) (zd me_X12_lastOf 2 rfl) (by decide) ?_
  refine zx_istore_n (i := 3) (ls' := [(3, .int (0 : Int32)), (2, .int (0 : Int32)), (0, .ref a0), (1, .int i1)]) (zd me_X12_lastOf 3 rfl) rfl (Nat.le_of_ble_eq_true rfl) rfl ?_
  refine zx_loc [2, 3, 1, 0] rfl ?_
  exact mt_X12_lastOf_l4 h0 zF i1 (0 : Int32) (0 : Int32) M
def mf_X12_tryRow_l45 (R : zRR) (a0 : Nat) : Nat → Int32 → Int32 → zMem → Option (Unit × zMem)
  | 0, _, _, _ => none
  | fuel + 1, i1, i3, M =>
    if i1 ≤ i3 then
      (some ((), M))
    else
      (zald 3 i3 fun j11 =>
      zald 3 i3 fun j12 =>
      zlet (zwI M (zrf R a0 29) j12 (M.1 (zrf R a0 27) j11)) fun M13 =>
      zald 3 i3 fun j14 =>
      zald 3 i3 fun j15 =>
      zlet (zwI M13 (zrf R a0 30) j15 (M13.1 (zrf R a0 28) j14)) fun M16 =>
      mf_X12_tryRow_l45 R a0 fuel i1 (i3 + 1) M16)
theorem mt_X12_tryRow_l45 {C : zCx} {ad : Nat → Nat} {T : zTT} {R : zRR} {a0 : Nat} (h0 : zi12 T R a0) : ∀ (fuel : Nat) (i1 : Int32) (i3 : Int32) (M : zMem), zX C mi_X12_tryRow (zFin C zrvV ad T R) 0 0 (mf_X12_tryRow_l45 R a0 fuel i1 i3 M) 45 [(0, .ref a0), (1, .int i1), (3, .int i3)] [] ad T R M := by
  intro fuel
  induction fuel with
  | zero => intros; exact zx_none
  | succ fuel ih =>
    intro i1 i3 M
    rw [mf_X12_tryRow_l45]
    refine zx_iload_n (i := 3) (zd me_X12_tryRow 27 rfl) rfl 2 rfl ?_
    refine zx_iload_n (i := 1) (zd me_X12_tryRow 28 rfl) rfl 1 rfl ?_
    refine zx_icmp_ge (tgt := 80) (zd me_X12_tryRow 29 rfl) (by decide) (fun c10 => ?_) (fun c10 => ?_)
    · exact zx_vret (zd me_X12_tryRow 48 rfl) rfl
    · refine zx_aload_n (i := 0) (zd me_X12_tryRow 30 rfl) rfl 0 rfl ?_
      refine zx_getR (zd me_X12_tryRow 31 rfl) fl_X12_139 (zi12_c h0) rfl (zi12_r29 h0) ?_
      refine zx_iload_n (i := 3) (zd me_X12_tryRow 32 rfl) rfl 2 rfl ?_
      refine zx_aload_n (i := 0) (zd me_X12_tryRow 33 rfl) rfl 0 rfl ?_
      refine zx_getR (zd me_X12_tryRow 34 rfl) fl_X12_133 (zi12_c h0) rfl (zi12_r27 h0) ?_
      refine zx_iload_n (i := 3) (zd me_X12_tryRow 35 rfl) rfl 2 rfl ?_
      refine zx_iald (zd me_X12_tryRow 36 rfl) (zi12_t27 h0) (fun j11 hj11 => ?_)
      refine zx_iast (zd me_X12_tryRow 37 rfl) (zi12_t29 h0) (fun M13 => ?_)
      refine zx_aload_n (i := 0) (zd me_X12_tryRow 38 rfl) rfl 0 rfl ?_
      refine zx_getR (zd me_X12_tryRow 39 rfl) fl_X12_142 (zi12_c h0) rfl (zi12_r30 h0) ?_
      refine zx_iload_n (i := 3) (zd me_X12_tryRow 40 rfl) rfl 2 rfl ?_
      refine zx_aload_n (i := 0) (zd me_X12_tryRow 41 rfl) rfl 0 rfl ?_
      refine zx_getR (zd me_X12_tryRow 42 rfl) fl_X12_136 (zi12_c h0) rfl (zi12_r28 h0) ?_
      refine zx_iload_n (i := 3) (zd me_X12_tryRow 43 rfl) rfl 2 rfl ?_
      refine zx_iald (zd me_X12_tryRow 44 rfl) (zi12_t28 h0) (fun j14 hj14 => ?_)
      refine zx_iast (zd me_X12_tryRow 45 rfl) (zi12_t30 h0) (fun M16 => ?_)
      refine zx_iinc (v := 1) (ls' := [(3, .int (i3 + 1)), (0, .ref a0), (1, .int i1)]) (zd me_X12_tryRow 46 rfl) (Nat.le_of_ble_eq_true rfl) 2 rfl (by decide) rfl ?_
      refine zx_goto (tgt := 45) (zd me_X12_tryRow 47 rfl) (by decide) ?_
      refine zx_loc [1, 2, 0] rfl ?_
      exact ih i1 (i3 + 1) M16
def mf_X12_tryRow (R : zRR) (a0 : Nat) (i1 : Int32) (M : zMem) : Option (Unit × zMem) :=
  zcl (mf_X12_save R a0 (zrf R a0 19) 56 (0 : Int32) M) fun _ M1 =>
  zcl (mf_X12_lastOf R a0 i1 M1) fun r4 M3 =>
  zcl (mf_X12_comeBack R a0 (zrf R a0 19) 56 (0 : Int32) M3) fun _ M5 =>
  if r4 = (-1 : Int32) then
    (some ((), M5))
  else
    (if r4 < (M5.1 a0 32) then
      (zlet (zwI M5 a0 32 r4) fun M9 =>
      mf_X12_tryRow_l45 R a0 zF i1 (0 : Int32) M9)
    else
      (some ((), M5)))
theorem mc_X12_tryRow (l : Launch) {T : zTT} {R : zRR} {a0 : Nat} (h0 : zi12 T R a0) (i1 : Int32) (M : zMem) : zMS l yX12_tryRow mi_X12_tryRow zrvV (mf_X12_tryRow R a0 i1 M) [.ref a0, .int i1] T R M := by
  refine zMS.of (by decide +kernel) rfl ⟨rfl, rfl⟩ (Nat.le_of_ble_eq_true rfl) (fun C ad _ => ?_)
  show zX C mi_X12_tryRow (zFin C zrvV ad T R) 0 0 (mf_X12_tryRow R a0 i1 M) 0 [(0, .ref a0), (1, .int i1)] [] ad T R M
  unfold mf_X12_tryRow
  refine zx_aload_n (i := 0) (zd me_X12_tryRow 0 rfl) rfl 0 rfl ?_
  refine zx_aload_n (i := 0) (zd me_X12_tryRow 1 rfl) rfl 0 rfl ?_
  refine zx_getR (zd me_X12_tryRow 2 rfl) fl_X12_113 (zi12_c h0) rfl (zi12_r19 h0) ?_
  refine zx_iconst (v := 0) (zd me_X12_tryRow 3 rfl) (by decide) ?_
  refine zx_callVV2 (zd me_X12_tryRow 4 rfl) (mc_X12_save (zl C) h0 (zi12_t19 h0) (0 : Int32) M) lk_X12_273 ⟨(Nat.le_of_ble_eq_true rfl), (Nat.le_of_ble_eq_true rfl)⟩ (Nat.le_of_ble_eq_true rfl) (zi12_c h0) rfl (fun r2 M1 => ?_)
  refine zx_aload_n (i := 0) (zd me_X12_tryRow 5 rfl) rfl 0 rfl ?_
  refine zx_iload_n (i := 1) (zd me_X12_tryRow 6 rfl) rfl 1 rfl ?_
  refine zx_callVI1 (zd me_X12_tryRow 7 rfl) (mc_X12_lastOf (zl C) h0 i1 M1) lk_X12_339 ⟨(Nat.le_of_ble_eq_true rfl), (Nat.le_of_ble_eq_true rfl)⟩ (Nat.le_of_ble_eq_true rfl) (zi12_c h0) rfl (fun r4 M3 => ?_)
  refine zx_istore_n (i := 2) (ls' := [(2, .int r4), (0, .ref a0), (1, .int i1)]) (zd me_X12_tryRow 8 rfl) rfl (Nat.le_of_ble_eq_true rfl) rfl ?_
  refine zx_aload_n (i := 0) (zd me_X12_tryRow 9 rfl) rfl 1 rfl ?_
  refine zx_aload_n (i := 0) (zd me_X12_tryRow 10 rfl) rfl 1 rfl ?_
  refine zx_getR (zd me_X12_tryRow 11 rfl) fl_X12_113 (zi12_c h0) rfl (zi12_r19 h0) ?_
  refine zx_iconst (v := 0) (zd me_X12_tryRow 12 rfl) (by decide) ?_
  refine zx_callVV2 (zd me_X12_tryRow 13 rfl) (mc_X12_comeBack (zl C) h0 (zi12_t19 h0) (0 : Int32) M3) lk_X12_309 ⟨(Nat.le_of_ble_eq_true rfl), (Nat.le_of_ble_eq_true rfl)⟩ (Nat.le_of_ble_eq_true rfl) (zi12_c h0) rfl (fun r6 M5 => ?_)
  refine zx_iload_n (i := 2) (zd me_X12_tryRow 14 rfl) rfl 0 rfl ?_
  refine zx_iconst (v := (-1)) (zd me_X12_tryRow 15 rfl) (by decide) ?_
  refine zx_icmp_eq (tgt := 37) (zd me_X12_tryRow 16 rfl) (by decide) (fun c7 => ?_) (fun c7 => ?_)
  · exact zx_vret (zd me_X12_tryRow 21 rfl) rfl
  · refine zx_iload_n (i := 2) (zd me_X12_tryRow 17 rfl) rfl 0 rfl ?_
    refine zx_aload_n (i := 0) (zd me_X12_tryRow 18 rfl) rfl 1 rfl ?_
    refine zx_getI (zd me_X12_tryRow 19 rfl) fl_X12_342 (zi12_c h0) rfl ?_
    refine zx_icmp_lt (tgt := 38) (zd me_X12_tryRow 20 rfl) (by decide) (fun c8 => ?_) (fun c8 => ?_)
    · refine zx_aload_n (i := 0) (zd me_X12_tryRow 22 rfl) rfl 1 rfl ?_
      refine zx_iload_n (i := 2) (zd me_X12_tryRow 23 rfl) rfl 0 rfl ?_
      refine zx_putI (zd me_X12_tryRow 24 rfl) fp_X12_342 (zi12_c h0) rfl (fun M9 _ => ?_)
      refine zx_iconst (v := 0) (zd me_X12_tryRow 25 rfl) (by decide) ?_
      refine zx_istore_n (i := 3) (ls' := [(3, .int (0 : Int32)), (2, .int r4), (0, .ref a0), (1, .int i1)]) (zd me_X12_tryRow 26 rfl) rfl (Nat.le_of_ble_eq_true rfl) rfl ?_
      refine zx_loc [2, 3, 0] rfl ?_
      exact mt_X12_tryRow_l45 h0 zF i1 (0 : Int32) M9
    · exact zx_vret (zd me_X12_tryRow 21 rfl) rfl
def mf_X12_tryRows_b56 (R : zRR) (F_tryRows : zRR → Nat → Int32 → Int32 → Int32 → zMem → Option (Unit × zMem)) (a0 : Nat) (H13 : Int32 → Int32 → Int32 → Int32 → zMem → Option (Unit × zMem)) (i1 : Int32) (i2 : Int32) (i3 : Int32) (i4 : Int32) (M : zMem) : Option (Unit × zMem) :=
  H13 i1 i2 i3 (i4 + 1) M
theorem mt_X12_tryRows_b56 {d : Nat} {C : zCx} {ad : Nat → Nat} {T : zTT} {R : zRR} {F_tryRows : zRR → Nat → Int32 → Int32 → Int32 → zMem → Option (Unit × zMem)} {a0 : Nat} (hF_tryRows : ∀ (l : Launch) {a0 : Nat} (h0 : zi12 T R a0) (i1 : Int32) (i2 : Int32) (i3 : Int32) (M : zMem), zMS l yX12_tryRows (mi_X12_tryRows d) zrvV (F_tryRows R a0 i1 i2 i3 M) [.ref a0, .int i1, .int i2, .int i3] T R M) (h0 : zi12 T R a0) {H13 : Int32 → Int32 → Int32 → Int32 → zMem → Option (Unit × zMem)} (hH13 : ∀ (i1 : Int32) (i2 : Int32) (i3 : Int32) (i4 : Int32) (M : zMem), zX C (mi_X12_tryRows (d + 1)) (zFin C zrvV ad T R) 0 0 (H13 i1 i2 i3 i4 M) 13 [(0, .ref a0), (1, .int i1), (2, .int i2), (3, .int i3), (4, .int i4)] [] ad T R M) (i1 : Int32) (i2 : Int32) (i3 : Int32) (i4 : Int32) (M : zMem) : zX C (mi_X12_tryRows (d + 1)) (zFin C zrvV ad T R) 0 0 (mf_X12_tryRows_b56 R F_tryRows a0 H13 i1 i2 i3 i4 M) 56 [(0, .ref a0), (1, .int i1), (2, .int i2), (3, .int i3), (4, .int i4)] [] ad T R M := by
  unfold mf_X12_tryRows_b56
  refine zx_iinc (v := 1) (ls' := [(4, .int (i4 + 1)), (0, .ref a0), (1, .int i1), (2, .int i2), (3, .int i3)]) (zd me_X12_tryRows 34 rfl) (Nat.le_of_ble_eq_true rfl) 4 rfl (by decide) rfl ?_
  refine zx_goto (tgt := 13) (zd me_X12_tryRows 35 rfl) (by decide) ?_
  refine zx_loc [1, 2, 3, 4, 0] rfl ?_
  exact hH13 i1 i2 i3 (i4 + 1) M
def mf_X12_tryRows_l13 (R : zRR) (F_tryRows : zRR → Nat → Int32 → Int32 → Int32 → zMem → Option (Unit × zMem)) (a0 : Nat) : Nat → Int32 → Int32 → Int32 → Int32 → zMem → Option (Unit × zMem)
  | 0, _, _, _, _, _ => none
  | fuel + 1, i1, i2, i3, i4, M =>
    if (8 : Int32) ≤ i4 then
      (some ((), M))
    else
      (zcl (mf_X12_has R i3 i4 M) fun r6 M5 =>
      if r6 = 0 then
        (mf_X12_tryRows_b56 R F_tryRows a0 (mf_X12_tryRows_l13 R F_tryRows a0 fuel) i1 i2 i3 i4 M5)
      else
        (zald 3 i1 fun j8 =>
        zlet (zwI M5 (zrf R a0 27) j8 i4) fun M9 =>
        zcl (F_tryRows R a0 (i1 + (1 : Int32)) i2 (i3 &&& (((1 : Int32) <<< (i4 &&& 31)) ^^^ (-1 : Int32))) M9) fun _ M10 =>
        mf_X12_tryRows_b56 R F_tryRows a0 (mf_X12_tryRows_l13 R F_tryRows a0 fuel) i1 i2 i3 i4 M10))
theorem mt_X12_tryRows_l13 {d : Nat} {C : zCx} {ad : Nat → Nat} {T : zTT} {R : zRR} {F_tryRows : zRR → Nat → Int32 → Int32 → Int32 → zMem → Option (Unit × zMem)} {a0 : Nat} (hF_tryRows : ∀ (l : Launch) {a0 : Nat} (h0 : zi12 T R a0) (i1 : Int32) (i2 : Int32) (i3 : Int32) (M : zMem), zMS l yX12_tryRows (mi_X12_tryRows d) zrvV (F_tryRows R a0 i1 i2 i3 M) [.ref a0, .int i1, .int i2, .int i3] T R M) (h0 : zi12 T R a0) : ∀ (fuel : Nat) (i1 : Int32) (i2 : Int32) (i3 : Int32) (i4 : Int32) (M : zMem), zX C (mi_X12_tryRows (d + 1)) (zFin C zrvV ad T R) 0 0 (mf_X12_tryRows_l13 R F_tryRows a0 fuel i1 i2 i3 i4 M) 13 [(0, .ref a0), (1, .int i1), (2, .int i2), (3, .int i3), (4, .int i4)] [] ad T R M := by
  intro fuel
  induction fuel with
  | zero => intros; exact zx_none
  | succ fuel ih =>
    intro i1 i2 i3 i4 M
    rw [mf_X12_tryRows_l13]
    refine zx_iload (zd me_X12_tryRows 8 rfl) 4 rfl ?_
    refine zx_bipush (v := 8) (zd me_X12_tryRows 9 rfl) (by decide) ?_
    refine zx_icmp_ge (tgt := 62) (zd me_X12_tryRows 10 rfl) (by decide) (fun c4 => ?_) (fun c4 => ?_)
    · exact zx_vret (zd me_X12_tryRows 36 rfl) rfl
    · refine zx_iload_n (i := 3) (zd me_X12_tryRows 11 rfl) rfl 3 rfl ?_
      refine zx_iload (zd me_X12_tryRows 12 rfl) 4 rfl ?_
      refine zx_callSI2 (zd me_X12_tryRows 13 rfl) (mc_X12_has (zl C) i3 i4 M) lk_X12_200 ⟨Nat.le_trans (m := 12) (Nat.le_of_ble_eq_true rfl) (Nat.le_add_right 12 _), Nat.le_trans (m := 277) (Nat.le_of_ble_eq_true rfl) (Nat.le_add_right 277 _)⟩ (Nat.le_of_ble_eq_true rfl) (fun r6 M5 => ?_)
      refine zx_if_ne (tgt := 32) (zd me_X12_tryRows 14 rfl) (by decide) (fun c7 => ?_) (fun c7 => ?_)
      · refine zx_aload_n (i := 0) (zd me_X12_tryRows 16 rfl) rfl 0 rfl ?_
        refine zx_getR (zd me_X12_tryRows 17 rfl) fl_X12_133 (zi12_c h0) rfl (zi12_r27 h0) ?_
        refine zx_iload_n (i := 1) (zd me_X12_tryRows 18 rfl) rfl 1 rfl ?_
        refine zx_iload (zd me_X12_tryRows 19 rfl) 4 rfl ?_
        refine zx_iast (zd me_X12_tryRows 20 rfl) (zi12_t27 h0) (fun M9 => ?_)
        refine zx_aload_n (i := 0) (zd me_X12_tryRows 21 rfl) rfl 0 rfl ?_
        refine zx_iload_n (i := 1) (zd me_X12_tryRows 22 rfl) rfl 1 rfl ?_
        refine zx_iconst (v := 1) (zd me_X12_tryRows 23 rfl) (by decide) ?_
        refine zx_iadd (zd me_X12_tryRows 24 rfl) ?_
        refine zx_iload_n (i := 2) (zd me_X12_tryRows 25 rfl) rfl 2 rfl ?_
        refine zx_iload_n (i := 3) (zd me_X12_tryRows 26 rfl) rfl 3 rfl ?_
        refine zx_iconst (v := 1) (zd me_X12_tryRows 27 rfl) (by decide) ?_
        refine zx_iload (zd me_X12_tryRows 28 rfl) 4 rfl ?_
        refine zx_ishl (zd me_X12_tryRows 29 rfl) ?_
        refine zx_iconst (v := (-1)) (zd me_X12_tryRows 30 rfl) (by decide) ?_
        refine zx_ixor (zd me_X12_tryRows 31 rfl) ?_
        refine zx_iand (zd me_X12_tryRows 32 rfl) ?_
        refine zx_callVV3 (zd me_X12_tryRows 33 rfl) (hF_tryRows (zl C) h0 (i1 + (1 : Int32)) i2 (i3 &&& (((1 : Int32) <<< (i4 &&& 31)) ^^^ (-1 : Int32))) M9) (lk_X12_348 d) ⟨Nat.le_refl _, by show 8 + (5 + 11) + (277 + 24 * d) ≤ 277 + 24 * (d + 1); omega⟩ (Nat.le_of_ble_eq_true rfl) (zi12_c h0) rfl (fun r11 M10 => ?_)
        exact mt_X12_tryRows_b56 hF_tryRows h0 ih i1 i2 i3 i4 M10
      · refine zx_goto (tgt := 56) (zd me_X12_tryRows 15 rfl) (by decide) ?_
        exact mt_X12_tryRows_b56 hF_tryRows h0 ih i1 i2 i3 i4 M5
def mf_X12_tryRows_b10 (R : zRR) (F_tryRows : zRR → Nat → Int32 → Int32 → Int32 → zMem → Option (Unit × zMem)) (a0 : Nat) (i1 : Int32) (i2 : Int32) (i3 : Int32) (M : zMem) : Option (Unit × zMem) :=
  mf_X12_tryRows_l13 R F_tryRows a0 zF i1 i2 i3 (0 : Int32) M
theorem mt_X12_tryRows_b10 {d : Nat} {C : zCx} {ad : Nat → Nat} {T : zTT} {R : zRR} {F_tryRows : zRR → Nat → Int32 → Int32 → Int32 → zMem → Option (Unit × zMem)} {a0 : Nat} (hF_tryRows : ∀ (l : Launch) {a0 : Nat} (h0 : zi12 T R a0) (i1 : Int32) (i2 : Int32) (i3 : Int32) (M : zMem), zMS l yX12_tryRows (mi_X12_tryRows d) zrvV (F_tryRows R a0 i1 i2 i3 M) [.ref a0, .int i1, .int i2, .int i3] T R M) (h0 : zi12 T R a0) (i1 : Int32) (i2 : Int32) (i3 : Int32) (M : zMem) : zX C (mi_X12_tryRows (d + 1)) (zFin C zrvV ad T R) 0 0 (mf_X12_tryRows_b10 R F_tryRows a0 i1 i2 i3 M) 10 [(0, .ref a0), (1, .int i1), (2, .int i2), (3, .int i3)] [] ad T R M := by
  unfold mf_X12_tryRows_b10
  refine zx_iconst (v := 0) (zd me_X12_tryRows 6 rfl) (by decide) ?_
  refine zx_istore (ls' := [(4, .int (0 : Int32)), (0, .ref a0), (1, .int i1), (2, .int i2), (3, .int i3)]) (zd me_X12_tryRows 7 rfl) (Nat.le_of_ble_eq_true rfl) rfl ?_
  refine zx_loc [1, 2, 3, 4, 0] rfl ?_
  exact mt_X12_tryRows_l13 hF_tryRows h0 zF i1 i2 i3 (0 : Int32) M
def mf_X12_tryRows (R : zRR) (F_tryRows : zRR → Nat → Int32 → Int32 → Int32 → zMem → Option (Unit × zMem)) (a0 : Nat) (i1 : Int32) (i2 : Int32) (i3 : Int32) (M : zMem) : Option (Unit × zMem) :=
  if i1 = i2 then
    (zcl (mf_X12_tryRow R a0 i2 M) fun _ M2 =>
    mf_X12_tryRows_b10 R F_tryRows a0 i1 i2 i3 M2)
  else
    (mf_X12_tryRows_b10 R F_tryRows a0 i1 i2 i3 M)
theorem mm_X12_tryRows {d : Nat} (l : Launch) {T : zTT} {R : zRR} {F_tryRows : zRR → Nat → Int32 → Int32 → Int32 → zMem → Option (Unit × zMem)} {a0 : Nat} (hF_tryRows : ∀ (l : Launch) {a0 : Nat} (h0 : zi12 T R a0) (i1 : Int32) (i2 : Int32) (i3 : Int32) (M : zMem), zMS l yX12_tryRows (mi_X12_tryRows d) zrvV (F_tryRows R a0 i1 i2 i3 M) [.ref a0, .int i1, .int i2, .int i3] T R M) (h0 : zi12 T R a0) (i1 : Int32) (i2 : Int32) (i3 : Int32) (M : zMem) : zMS l yX12_tryRows (mi_X12_tryRows (d + 1)) zrvV (mf_X12_tryRows R F_tryRows a0 i1 i2 i3 M) [.ref a0, .int i1, .int i2, .int i3] T R M := by
  refine zMS.of (by decide +kernel) rfl ⟨rfl, rfl⟩ (Nat.le_of_ble_eq_true rfl) (fun C ad _ => ?_)
  show zX C (mi_X12_tryRows (d + 1)) (zFin C zrvV ad T R) 0 0 (mf_X12_tryRows R F_tryRows a0 i1 i2 i3 M) 0 [(0, .ref a0), (1, .int i1), (2, .int i2), (3, .int i3)] [] ad T R M
  unfold mf_X12_tryRows
  refine zx_iload_n (i := 1) (zd me_X12_tryRows 0 rfl) rfl 1 rfl ?_
  refine zx_iload_n (i := 2) (zd me_X12_tryRows 1 rfl) rfl 2 rfl ?_
  refine zx_icmp_ne (tgt := 10) (zd me_X12_tryRows 2 rfl) (by decide) (fun c1 => ?_) (fun c1 => ?_)
  · exact mt_X12_tryRows_b10 hF_tryRows h0 i1 i2 i3 M
  · refine zx_aload_n (i := 0) (zd me_X12_tryRows 3 rfl) rfl 0 rfl ?_
    refine zx_iload_n (i := 2) (zd me_X12_tryRows 4 rfl) rfl 2 rfl ?_
    refine zx_callVV1 (zd me_X12_tryRows 5 rfl) (mc_X12_tryRow (zl C) h0 i2 M) lk_X12_345 ⟨Nat.le_trans (m := 12) (Nat.le_of_ble_eq_true rfl) (Nat.le_add_right 12 _), Nat.le_trans (m := 277) (Nat.le_of_ble_eq_true rfl) (Nat.le_add_right 277 _)⟩ (Nat.le_of_ble_eq_true rfl) (zi12_c h0) rfl (fun r3 M2 => ?_)
    exact mt_X12_tryRows_b10 hF_tryRows h0 i1 i2 i3 M2
def mg_X12b : Nat → (zRR → Nat → Int32 → Int32 → Int32 → zMem → Option (Unit × zMem))
  | 0 => fun _ _ _ _ _ _ => none
  | d + 1 => fun R => mf_X12_tryRows R (mg_X12b d)
def mr_X12_tryRows (d : Nat) : zRR → Nat → Int32 → Int32 → Int32 → zMem → Option (Unit × zMem) := (mg_X12b d)
theorem mgc_X12b : ∀ d : Nat, (∀ (l : Launch) {T : zTT} {R : zRR} {a0 : Nat} (h0 : zi12 T R a0) (i1 : Int32) (i2 : Int32) (i3 : Int32) (M : zMem), zMS l yX12_tryRows (mi_X12_tryRows (d)) zrvV (mr_X12_tryRows (d) R a0 i1 i2 i3 M) [.ref a0, .int i1, .int i2, .int i3] T R M) := by
  intro d
  induction d with
  | zero => exact (by intros; intro r M1 h; cases (show (none : Option (Unit × zMem)) = some (r, M1) from h))
  | succ d ih =>
    have q0 := ih
    exact fun l {T} {R} {a0} h0 i1 i2 i3 M => mm_X12_tryRows l (T := T) (R := R) (fun l {a0} h0 i1 i2 i3 M => q0 l h0 i1 i2 i3 M) h0 i1 i2 i3 M
theorem mc_X12_tryRows (l : Launch) {T : zTT} {R : zRR} {a0 : Nat} (h0 : zi12 T R a0) (i1 : Int32) (i2 : Int32) (i3 : Int32) (M : zMem) : zMS l yX12_tryRows (mi_X12_tryRows zD) zrvV (mr_X12_tryRows zD R a0 i1 i2 i3 M) [.ref a0, .int i1, .int i2, .int i3] T R M := (mgc_X12b zD) l h0 i1 i2 i3 M
def mf_X12_order_l121 (R : zRR) (a0 : Nat) : Nat → Int32 → Int32 → zMem → Option (Int32 × zMem)
  | 0, _, _, _ => none
  | fuel + 1, i1, i3, M =>
    if i1 ≤ i3 then
      (some ((M.1 a0 32), M))
    else
      (zald 3 i3 fun j28 =>
      zald 3 i3 fun j29 =>
      zlet (zwI M (zrf R a0 33) j29 (M.1 (zrf R a0 29) j28)) fun M30 =>
      zald 3 i3 fun j31 =>
      zald 3 i3 fun j32 =>
      zlet (zwI M30 (zrf R a0 34) j32 (M30.1 (zrf R a0 30) j31)) fun M33 =>
      mf_X12_order_l121 R a0 fuel i1 (i3 + 1) M33)
theorem mt_X12_order_l121 {C : zCx} {ad : Nat → Nat} {T : zTT} {R : zRR} {a0 : Nat} (h0 : zi12 T R a0) : ∀ (fuel : Nat) (i1 : Int32) (i3 : Int32) (M : zMem), zX C mi_X12_order (zFin C zrvI ad T R) 0 0 (mf_X12_order_l121 R a0 fuel i1 i3 M) 121 [(0, .ref a0), (1, .int i1), (3, .int i3)] [] ad T R M := by
  intro fuel
  induction fuel with
  | zero => intros; exact zx_none
  | succ fuel ih =>
    intro i1 i3 M
    rw [mf_X12_order_l121]
    refine zx_iload_n (i := 3) (zd me_X12_order 73 rfl) rfl 2 rfl ?_
    refine zx_iload_n (i := 1) (zd me_X12_order 74 rfl) rfl 1 rfl ?_
    refine zx_icmp_ge (tgt := 156) (zd me_X12_order 75 rfl) (by decide) (fun c27 => ?_) (fun c27 => ?_)
    · refine zx_aload_n (i := 0) (zd me_X12_order 94 rfl) rfl 0 rfl ?_
      refine zx_getI (zd me_X12_order 95 rfl) fl_X12_342 (zi12_c h0) rfl ?_
      exact zx_iret (zd me_X12_order 96 rfl) rfl
    · refine zx_aload_n (i := 0) (zd me_X12_order 76 rfl) rfl 0 rfl ?_
      refine zx_getR (zd me_X12_order 77 rfl) fl_X12_145 (zi12_c h0) rfl (zi12_r33 h0) ?_
      refine zx_iload_n (i := 3) (zd me_X12_order 78 rfl) rfl 2 rfl ?_
      refine zx_aload_n (i := 0) (zd me_X12_order 79 rfl) rfl 0 rfl ?_
      refine zx_getR (zd me_X12_order 80 rfl) fl_X12_139 (zi12_c h0) rfl (zi12_r29 h0) ?_
      refine zx_iload_n (i := 3) (zd me_X12_order 81 rfl) rfl 2 rfl ?_
      refine zx_iald (zd me_X12_order 82 rfl) (zi12_t29 h0) (fun j28 hj28 => ?_)
      refine zx_iast (zd me_X12_order 83 rfl) (zi12_t33 h0) (fun M30 => ?_)
      refine zx_aload_n (i := 0) (zd me_X12_order 84 rfl) rfl 0 rfl ?_
      refine zx_getR (zd me_X12_order 85 rfl) fl_X12_148 (zi12_c h0) rfl (zi12_r34 h0) ?_
      refine zx_iload_n (i := 3) (zd me_X12_order 86 rfl) rfl 2 rfl ?_
      refine zx_aload_n (i := 0) (zd me_X12_order 87 rfl) rfl 0 rfl ?_
      refine zx_getR (zd me_X12_order 88 rfl) fl_X12_142 (zi12_c h0) rfl (zi12_r30 h0) ?_
      refine zx_iload_n (i := 3) (zd me_X12_order 89 rfl) rfl 2 rfl ?_
      refine zx_iald (zd me_X12_order 90 rfl) (zi12_t30 h0) (fun j31 hj31 => ?_)
      refine zx_iast (zd me_X12_order 91 rfl) (zi12_t34 h0) (fun M33 => ?_)
      refine zx_iinc (v := 1) (ls' := [(3, .int (i3 + 1)), (0, .ref a0), (1, .int i1)]) (zd me_X12_order 92 rfl) (Nat.le_of_ble_eq_true rfl) 2 rfl (by decide) rfl ?_
      refine zx_goto (tgt := 121) (zd me_X12_order 93 rfl) (by decide) ?_
      refine zx_loc [1, 2, 0] rfl ?_
      exact ih i1 (i3 + 1) M33
def mf_X12_order_l25 (R : zRR) (a0 : Nat) : Nat → Int32 → Int32 → Int32 → zMem → Option (Int32 × zMem)
  | 0, _, _, _, _ => none
  | fuel + 1, i1, i2, i3, M =>
    if i1 ≤ i3 then
      (zlet (zwI M a0 32 (100000 : Int32)) fun M8 =>
      zcl (mr_X12_tryRows zD R a0 (0 : Int32) i1 i2 M8) fun _ M9 =>
      if (M9.1 a0 32) = (100000 : Int32) then
        (some ((-1 : Int32), M9))
      else
        (zlet (zwI M9 a0 31 i1) fun M12 =>
        mf_X12_order_l121 R a0 zF i1 (0 : Int32) M12))
    else
      (zald 940 i3 fun j13 =>
      zcl (mf_X12_isSheet R a0 (M.1 (zrf R a0 1) j13) M) fun r15 M14 =>
      if r15 = 0 then
        (some ((-1 : Int32), M14))
      else
        (zald 940 i3 fun j17 =>
        zcl (mf_X12_isWaiting R a0 (M14.1 (zrf R a0 1) j17) M14) fun r19 M18 =>
        if r19 = 0 then
          (some ((-1 : Int32), M18))
        else
          (zald 940 i3 fun j21 =>
          zcl (mf_X12_has R i2 (M18.1 (zrf R a0 1) j21) M18) fun r23 M22 =>
          if r23 = 0 then
            (zald 940 i3 fun j25 =>
            zlet ((i2 ||| ((1 : Int32) <<< ((M22.1 (zrf R a0 1) j25) &&& 31))) : Int32) fun x26 =>
            mf_X12_order_l25 R a0 fuel i1 x26 (i3 + 1) M22)
          else
            (some ((-1 : Int32), M22)))))
theorem mt_X12_order_l25 {C : zCx} {ad : Nat → Nat} {T : zTT} {R : zRR} {a0 : Nat} (h0 : zi12 T R a0) : ∀ (fuel : Nat) (i1 : Int32) (i2 : Int32) (i3 : Int32) (M : zMem), zX C mi_X12_order (zFin C zrvI ad T R) 0 0 (mf_X12_order_l25 R a0 fuel i1 i2 i3 M) 25 [(0, .ref a0), (1, .int i1), (2, .int i2), (3, .int i3)] [] ad T R M := by
  intro fuel
  induction fuel with
  | zero => intros; exact zx_none
  | succ fuel ih =>
    intro i1 i2 i3 M
    rw [mf_X12_order_l25]
    refine zx_iload_n (i := 3) (zd me_X12_order 17 rfl) rfl 3 rfl ?_
    refine zx_iload_n (i := 1) (zd me_X12_order 18 rfl) rfl 1 rfl ?_
    refine zx_icmp_ge (tgt := 88) (zd me_X12_order 19 rfl) (by decide) (fun c7 => ?_) (fun c7 => ?_)
    · refine zx_aload_n (i := 0) (zd me_X12_order 54 rfl) rfl 0 rfl ?_
      refine zx_ldcw (v := 100000) (zd me_X12_order 55 rfl) (zt8 59 rfl rfl) ?_
      refine zx_putI (zd me_X12_order 56 rfl) fp_X12_342 (zi12_c h0) rfl (fun M8 _ => ?_)
      refine zx_aload_n (i := 0) (zd me_X12_order 57 rfl) rfl 0 rfl ?_
      refine zx_iconst (v := 0) (zd me_X12_order 58 rfl) (by decide) ?_
      refine zx_iload_n (i := 1) (zd me_X12_order 59 rfl) rfl 1 rfl ?_
      refine zx_iload_n (i := 2) (zd me_X12_order 60 rfl) rfl 2 rfl ?_
      refine zx_callVV3 (zd me_X12_order 61 rfl) (mc_X12_tryRows (zl C) h0 (0 : Int32) i1 i2 M8) (lk_X12_348 zD) ⟨(Nat.le_of_ble_eq_true rfl), (Nat.le_of_ble_eq_true rfl)⟩ (Nat.le_of_ble_eq_true rfl) (zi12_c h0) rfl (fun r10 M9 => ?_)
      refine zx_aload_n (i := 0) (zd me_X12_order 62 rfl) rfl 0 rfl ?_
      refine zx_getI (zd me_X12_order 63 rfl) fl_X12_342 (zi12_c h0) rfl ?_
      refine zx_ldcw (v := 100000) (zd me_X12_order 64 rfl) (zt8 59 rfl rfl) ?_
      refine zx_icmp_ne (tgt := 114) (zd me_X12_order 65 rfl) (by decide) (fun c11 => ?_) (fun c11 => ?_)
      · refine zx_aload_n (i := 0) (zd me_X12_order 68 rfl) rfl 0 rfl ?_
        refine zx_iload_n (i := 1) (zd me_X12_order 69 rfl) rfl 1 rfl ?_
        refine zx_putI (zd me_X12_order 70 rfl) fp_X12_353 (zi12_c h0) rfl (fun M12 _ => ?_)
        refine zx_iconst (v := 0) (zd me_X12_order 71 rfl) (by decide) ?_
        refine zx_istore_n (i := 3) (ls' := [(3, .int (0 : Int32)), (0, .ref a0), (1, .int i1), (2, .int i2)]) (zd me_X12_order 72 rfl) rfl (Nat.le_of_ble_eq_true rfl) rfl ?_
        refine zx_loc [1, 2, 0] rfl ?_
        exact mt_X12_order_l121 h0 zF i1 (0 : Int32) M12
      · refine zx_iconst (v := (-1)) (zd me_X12_order 66 rfl) (by decide) ?_
        exact zx_iret (zd me_X12_order 67 rfl) rfl
    · refine zx_aload_n (i := 0) (zd me_X12_order 20 rfl) rfl 0 rfl ?_
      refine zx_aload_n (i := 0) (zd me_X12_order 21 rfl) rfl 0 rfl ?_
      refine zx_getR (zd me_X12_order 22 rfl) fl_X12_7 (zi12_c h0) rfl (zi12_r1 h0) ?_
      refine zx_iload_n (i := 3) (zd me_X12_order 23 rfl) rfl 3 rfl ?_
      refine zx_iald (zd me_X12_order 24 rfl) (zi12_t1 h0) (fun j13 hj13 => ?_)
      refine zx_callVI1 (zd me_X12_order 25 rfl) (mc_X12_isSheet (zl C) h0 (M.1 (zrf R a0 1) j13) M) lk_X12_261 ⟨(Nat.le_of_ble_eq_true rfl), (Nat.le_of_ble_eq_true rfl)⟩ (Nat.le_of_ble_eq_true rfl) (zi12_c h0) rfl (fun r15 M14 => ?_)
      refine zx_if_eq (tgt := 69) (zd me_X12_order 26 rfl) (by decide) (fun c16 => ?_) (fun c16 => ?_)
      · refine zx_iconst (v := (-1)) (zd me_X12_order 41 rfl) (by decide) ?_
        exact zx_iret (zd me_X12_order 42 rfl) rfl
      · refine zx_aload_n (i := 0) (zd me_X12_order 27 rfl) rfl 0 rfl ?_
        refine zx_aload_n (i := 0) (zd me_X12_order 28 rfl) rfl 0 rfl ?_
        refine zx_getR (zd me_X12_order 29 rfl) fl_X12_7 (zi12_c h0) rfl (zi12_r1 h0) ?_
        refine zx_iload_n (i := 3) (zd me_X12_order 30 rfl) rfl 3 rfl ?_
        refine zx_iald (zd me_X12_order 31 rfl) (zi12_t1 h0) (fun j17 hj17 => ?_)
        refine zx_callVI1 (zd me_X12_order 32 rfl) (mc_X12_isWaiting (zl C) h0 (M14.1 (zrf R a0 1) j17) M14) lk_X12_246 ⟨(Nat.le_of_ble_eq_true rfl), (Nat.le_of_ble_eq_true rfl)⟩ (Nat.le_of_ble_eq_true rfl) (zi12_c h0) rfl (fun r19 M18 => ?_)
        refine zx_if_eq (tgt := 69) (zd me_X12_order 33 rfl) (by decide) (fun c20 => ?_) (fun c20 => ?_)
        · refine zx_iconst (v := (-1)) (zd me_X12_order 41 rfl) (by decide) ?_
          exact zx_iret (zd me_X12_order 42 rfl) rfl
        · refine zx_iload_n (i := 2) (zd me_X12_order 34 rfl) rfl 2 rfl ?_
          refine zx_aload_n (i := 0) (zd me_X12_order 35 rfl) rfl 0 rfl ?_
          refine zx_getR (zd me_X12_order 36 rfl) fl_X12_7 (zi12_c h0) rfl (zi12_r1 h0) ?_
          refine zx_iload_n (i := 3) (zd me_X12_order 37 rfl) rfl 3 rfl ?_
          refine zx_iald (zd me_X12_order 38 rfl) (zi12_t1 h0) (fun j21 hj21 => ?_)
          refine zx_callSI2 (zd me_X12_order 39 rfl) (mc_X12_has (zl C) i2 (M18.1 (zrf R a0 1) j21) M18) lk_X12_200 ⟨(Nat.le_of_ble_eq_true rfl), (Nat.le_of_ble_eq_true rfl)⟩ (Nat.le_of_ble_eq_true rfl) (fun r23 M22 => ?_)
          refine zx_if_eq (tgt := 71) (zd me_X12_order 40 rfl) (by decide) (fun c24 => ?_) (fun c24 => ?_)
          · refine zx_iload_n (i := 2) (zd me_X12_order 43 rfl) rfl 2 rfl ?_
            refine zx_iconst (v := 1) (zd me_X12_order 44 rfl) (by decide) ?_
            refine zx_aload_n (i := 0) (zd me_X12_order 45 rfl) rfl 0 rfl ?_
            refine zx_getR (zd me_X12_order 46 rfl) fl_X12_7 (zi12_c h0) rfl (zi12_r1 h0) ?_
            refine zx_iload_n (i := 3) (zd me_X12_order 47 rfl) rfl 3 rfl ?_
            refine zx_iald (zd me_X12_order 48 rfl) (zi12_t1 h0) (fun j25 hj25 => ?_)
            refine zx_ishl (zd me_X12_order 49 rfl) ?_
            refine zx_ior (zd me_X12_order 50 rfl) ?_
            refine zx_leti (fun x26 => ?_)
            refine zx_istore_n (i := 2) (ls' := [(2, .int x26), (0, .ref a0), (1, .int i1), (3, .int i3)]) (zd me_X12_order 51 rfl) rfl (Nat.le_of_ble_eq_true rfl) rfl ?_
            refine zx_iinc (v := 1) (ls' := [(3, .int (i3 + 1)), (2, .int x26), (0, .ref a0), (1, .int i1)]) (zd me_X12_order 52 rfl) (Nat.le_of_ble_eq_true rfl) 3 rfl (by decide) rfl ?_
            refine zx_goto (tgt := 25) (zd me_X12_order 53 rfl) (by decide) ?_
            refine zx_loc [2, 3, 1, 0] rfl ?_
            exact ih i1 x26 (i3 + 1) M22
          · refine zx_iconst (v := (-1)) (zd me_X12_order 41 rfl) (by decide) ?_
            exact zx_iret (zd me_X12_order 42 rfl) rfl
def mf_X12_order (R : zRR) (a0 : Nat) (M : zMem) : Option (Int32 × zMem) :=
  zlet (zwI M a0 0 (0 : Int32)) fun M1 =>
  zcl (mf_X12_take R a0 M1) fun r3 M2 =>
  zcl (mf_X12_isIn R r3 (1 : Int32) (3 : Int32) M2) fun r5 M4 =>
  if r5 = 0 then
    (some ((-1 : Int32), M4))
  else
    (mf_X12_order_l25 R a0 zF r3 (0 : Int32) (0 : Int32) M4)
theorem mc_X12_order (l : Launch) {T : zTT} {R : zRR} {a0 : Nat} (h0 : zi12 T R a0) (M : zMem) : zMS l yX12_order mi_X12_order zrvI (mf_X12_order R a0 M) [.ref a0] T R M := by
  refine zMS.of (by decide +kernel) rfl ⟨rfl, rfl⟩ (Nat.le_of_ble_eq_true rfl) (fun C ad _ => ?_)
  show zX C mi_X12_order (zFin C zrvI ad T R) 0 0 (mf_X12_order R a0 M) 0 [(0, .ref a0)] [] ad T R M
  unfold mf_X12_order
  refine zx_aload_n (i := 0) (zd me_X12_order 0 rfl) rfl 0 rfl ?_
  refine zx_iconst (v := 0) (zd me_X12_order 1 rfl) (by decide) ?_
  refine zx_putI (zd me_X12_order 2 rfl) fp_X12_1 (zi12_c h0) rfl (fun M1 _ => ?_)
  refine zx_aload_n (i := 0) (zd me_X12_order 3 rfl) rfl 0 rfl ?_
  refine zx_callVI0 (zd me_X12_order 4 rfl) (mc_X12_take (zl C) h0 M1) lk_X12_89 ⟨(Nat.le_of_ble_eq_true rfl), (Nat.le_of_ble_eq_true rfl)⟩ (Nat.le_of_ble_eq_true rfl) (zi12_c h0) rfl (fun r3 M2 => ?_)
  refine zx_istore_n (i := 1) (ls' := [(1, .int r3), (0, .ref a0)]) (zd me_X12_order 5 rfl) rfl (Nat.le_of_ble_eq_true rfl) rfl ?_
  refine zx_iload_n (i := 1) (zd me_X12_order 6 rfl) rfl 0 rfl ?_
  refine zx_iconst (v := 1) (zd me_X12_order 7 rfl) (by decide) ?_
  refine zx_iconst (v := 3) (zd me_X12_order 8 rfl) (by decide) ?_
  refine zx_callSI3 (zd me_X12_order 9 rfl) (mc_X12_isIn (zl C) r3 (1 : Int32) (3 : Int32) M2) lk_X12_75 ⟨(Nat.le_of_ble_eq_true rfl), (Nat.le_of_ble_eq_true rfl)⟩ (Nat.le_of_ble_eq_true rfl) (fun r5 M4 => ?_)
  refine zx_if_ne (tgt := 21) (zd me_X12_order 10 rfl) (by decide) (fun c6 => ?_) (fun c6 => ?_)
  · refine zx_iconst (v := 0) (zd me_X12_order 13 rfl) (by decide) ?_
    refine zx_istore_n (i := 2) (ls' := [(2, .int (0 : Int32)), (1, .int r3), (0, .ref a0)]) (zd me_X12_order 14 rfl) rfl (Nat.le_of_ble_eq_true rfl) rfl ?_
    refine zx_iconst (v := 0) (zd me_X12_order 15 rfl) (by decide) ?_
    refine zx_istore_n (i := 3) (ls' := [(3, .int (0 : Int32)), (2, .int (0 : Int32)), (1, .int r3), (0, .ref a0)]) (zd me_X12_order 16 rfl) rfl (Nat.le_of_ble_eq_true rfl) rfl ?_
    refine zx_loc [3, 2, 1, 0] rfl ?_
    exact mt_X12_order_l25 h0 zF r3 (0 : Int32) (0 : Int32) M4
  · refine zx_iconst (v := (-1)) (zd me_X12_order 11 rfl) (by decide) ?_
    exact zx_iret (zd me_X12_order 12 rfl) rfl
def mf_X12_orderAt (R : zRR) (a0 : Nat) (i1 : Int32) (M : zMem) : Option (Int32 × zMem) :=
  zlet (zwI M a0 0 (0 : Int32)) fun M1 =>
  zcl (mf_X12_isIn R i1 (0 : Int32) ((M1.1 a0 31) - (1 : Int32)) M1) fun r3 M2 =>
  if r3 = 0 then
    (some ((-1 : Int32), M2))
  else
    (zald 3 i1 fun j5 =>
    some ((M2.1 (zrf R a0 33) j5), M2))
theorem mc_X12_orderAt (l : Launch) {T : zTT} {R : zRR} {a0 : Nat} (h0 : zi12 T R a0) (i1 : Int32) (M : zMem) : zMS l yX12_orderAt mi_X12_orderAt zrvI (mf_X12_orderAt R a0 i1 M) [.ref a0, .int i1] T R M := by
  refine zMS.of (by decide +kernel) rfl ⟨rfl, rfl⟩ (Nat.le_of_ble_eq_true rfl) (fun C ad _ => ?_)
  show zX C mi_X12_orderAt (zFin C zrvI ad T R) 0 0 (mf_X12_orderAt R a0 i1 M) 0 [(0, .ref a0), (1, .int i1)] [] ad T R M
  unfold mf_X12_orderAt
  refine zx_aload_n (i := 0) (zd me_X12_orderAt 0 rfl) rfl 0 rfl ?_
  refine zx_iconst (v := 0) (zd me_X12_orderAt 1 rfl) (by decide) ?_
  refine zx_putI (zd me_X12_orderAt 2 rfl) fp_X12_1 (zi12_c h0) rfl (fun M1 _ => ?_)
  refine zx_iload_n (i := 1) (zd me_X12_orderAt 3 rfl) rfl 1 rfl ?_
  refine zx_iconst (v := 0) (zd me_X12_orderAt 4 rfl) (by decide) ?_
  refine zx_aload_n (i := 0) (zd me_X12_orderAt 5 rfl) rfl 0 rfl ?_
  refine zx_getI (zd me_X12_orderAt 6 rfl) fl_X12_353 (zi12_c h0) rfl ?_
  refine zx_iconst (v := 1) (zd me_X12_orderAt 7 rfl) (by decide) ?_
  refine zx_isub (zd me_X12_orderAt 8 rfl) ?_
  refine zx_callSI3 (zd me_X12_orderAt 9 rfl) (mc_X12_isIn (zl C) i1 (0 : Int32) ((M1.1 a0 31) - (1 : Int32)) M1) lk_X12_75 ⟨(Nat.le_of_ble_eq_true rfl), (Nat.le_of_ble_eq_true rfl)⟩ (Nat.le_of_ble_eq_true rfl) (fun r3 M2 => ?_)
  refine zx_if_eq (tgt := 28) (zd me_X12_orderAt 10 rfl) (by decide) (fun c4 => ?_) (fun c4 => ?_)
  · refine zx_iconst (v := (-1)) (zd me_X12_orderAt 16 rfl) (by decide) ?_
    exact zx_iret (zd me_X12_orderAt 17 rfl) rfl
  · refine zx_aload_n (i := 0) (zd me_X12_orderAt 11 rfl) rfl 0 rfl ?_
    refine zx_getR (zd me_X12_orderAt 12 rfl) fl_X12_145 (zi12_c h0) rfl (zi12_r33 h0) ?_
    refine zx_iload_n (i := 1) (zd me_X12_orderAt 13 rfl) rfl 1 rfl ?_
    refine zx_iald (zd me_X12_orderAt 14 rfl) (zi12_t33 h0) (fun j5 hj5 => ?_)
    refine zx_goto (tgt := 29) (zd me_X12_orderAt 15 rfl) (by decide) ?_
    exact zx_iret (zd me_X12_orderAt 17 rfl) rfl
def mf_X12_orderWhen (R : zRR) (a0 : Nat) (i1 : Int32) (M : zMem) : Option (Int32 × zMem) :=
  zlet (zwI M a0 0 (0 : Int32)) fun M1 =>
  zcl (mf_X12_isIn R i1 (0 : Int32) ((M1.1 a0 31) - (1 : Int32)) M1) fun r3 M2 =>
  if r3 = 0 then
    (some ((-1 : Int32), M2))
  else
    (zald 3 i1 fun j5 =>
    some ((M2.1 (zrf R a0 34) j5), M2))
theorem mc_X12_orderWhen (l : Launch) {T : zTT} {R : zRR} {a0 : Nat} (h0 : zi12 T R a0) (i1 : Int32) (M : zMem) : zMS l yX12_orderWhen mi_X12_orderWhen zrvI (mf_X12_orderWhen R a0 i1 M) [.ref a0, .int i1] T R M := by
  refine zMS.of (by decide +kernel) rfl ⟨rfl, rfl⟩ (Nat.le_of_ble_eq_true rfl) (fun C ad _ => ?_)
  show zX C mi_X12_orderWhen (zFin C zrvI ad T R) 0 0 (mf_X12_orderWhen R a0 i1 M) 0 [(0, .ref a0), (1, .int i1)] [] ad T R M
  unfold mf_X12_orderWhen
  refine zx_aload_n (i := 0) (zd me_X12_orderWhen 0 rfl) rfl 0 rfl ?_
  refine zx_iconst (v := 0) (zd me_X12_orderWhen 1 rfl) (by decide) ?_
  refine zx_putI (zd me_X12_orderWhen 2 rfl) fp_X12_1 (zi12_c h0) rfl (fun M1 _ => ?_)
  refine zx_iload_n (i := 1) (zd me_X12_orderWhen 3 rfl) rfl 1 rfl ?_
  refine zx_iconst (v := 0) (zd me_X12_orderWhen 4 rfl) (by decide) ?_
  refine zx_aload_n (i := 0) (zd me_X12_orderWhen 5 rfl) rfl 0 rfl ?_
  refine zx_getI (zd me_X12_orderWhen 6 rfl) fl_X12_353 (zi12_c h0) rfl ?_
  refine zx_iconst (v := 1) (zd me_X12_orderWhen 7 rfl) (by decide) ?_
  refine zx_isub (zd me_X12_orderWhen 8 rfl) ?_
  refine zx_callSI3 (zd me_X12_orderWhen 9 rfl) (mc_X12_isIn (zl C) i1 (0 : Int32) ((M1.1 a0 31) - (1 : Int32)) M1) lk_X12_75 ⟨(Nat.le_of_ble_eq_true rfl), (Nat.le_of_ble_eq_true rfl)⟩ (Nat.le_of_ble_eq_true rfl) (fun r3 M2 => ?_)
  refine zx_if_eq (tgt := 28) (zd me_X12_orderWhen 10 rfl) (by decide) (fun c4 => ?_) (fun c4 => ?_)
  · refine zx_iconst (v := (-1)) (zd me_X12_orderWhen 16 rfl) (by decide) ?_
    exact zx_iret (zd me_X12_orderWhen 17 rfl) rfl
  · refine zx_aload_n (i := 0) (zd me_X12_orderWhen 11 rfl) rfl 0 rfl ?_
    refine zx_getR (zd me_X12_orderWhen 12 rfl) fl_X12_148 (zi12_c h0) rfl (zi12_r34 h0) ?_
    refine zx_iload_n (i := 1) (zd me_X12_orderWhen 13 rfl) rfl 1 rfl ?_
    refine zx_iald (zd me_X12_orderWhen 14 rfl) (zi12_t34 h0) (fun j5 hj5 => ?_)
    refine zx_goto (tgt := 29) (zd me_X12_orderWhen 15 rfl) (by decide) ?_
    exact zx_iret (zd me_X12_orderWhen 17 rfl) rfl
def mf_X12_waitingIn_b31 (R : zRR) (a0 : Nat) (H4 : Int32 → Int32 → Int32 → zMem → Option (Int32 × zMem)) (i1 : Int32) (i2 : Int32) (i3 : Int32) (M : zMem) : Option (Int32 × zMem) :=
  H4 i1 i2 (i3 + 1) M
theorem mt_X12_waitingIn_b31 {C : zCx} {ad : Nat → Nat} {T : zTT} {R : zRR} {a0 : Nat} (h0 : zi12 T R a0) {H4 : Int32 → Int32 → Int32 → zMem → Option (Int32 × zMem)} (hH4 : ∀ (i1 : Int32) (i2 : Int32) (i3 : Int32) (M : zMem), zX C mi_X12_waitingIn (zFin C zrvI ad T R) 0 0 (H4 i1 i2 i3 M) 4 [(0, .ref a0), (1, .int i1), (2, .int i2), (3, .int i3)] [] ad T R M) (i1 : Int32) (i2 : Int32) (i3 : Int32) (M : zMem) : zX C mi_X12_waitingIn (zFin C zrvI ad T R) 0 0 (mf_X12_waitingIn_b31 R a0 H4 i1 i2 i3 M) 31 [(0, .ref a0), (1, .int i1), (2, .int i2), (3, .int i3)] [] ad T R M := by
  unfold mf_X12_waitingIn_b31
  refine zx_iinc (v := 1) (ls' := [(3, .int (i3 + 1)), (0, .ref a0), (1, .int i1), (2, .int i2)]) (zd me_X12_waitingIn 21 rfl) (Nat.le_of_ble_eq_true rfl) 3 rfl (by decide) rfl ?_
  refine zx_goto (tgt := 4) (zd me_X12_waitingIn 22 rfl) (by decide) ?_
  refine zx_loc [1, 2, 3, 0] rfl ?_
  exact hH4 i1 i2 (i3 + 1) M
def mf_X12_waitingIn_l4 (R : zRR) (a0 : Nat) : Nat → Int32 → Int32 → Int32 → zMem → Option (Int32 × zMem)
  | 0, _, _, _, _ => none
  | fuel + 1, i1, i2, i3, M =>
    zald 354 (2 : Int32) fun j1 =>
    if (M.1 (zrf R a0 14) j1) ≤ i3 then
      (some (i2, M))
    else
      (zcl (mf_X12_isWaiting R a0 i3 M) fun r4 M3 =>
      if r4 = 0 then
        (mf_X12_waitingIn_b31 R a0 (mf_X12_waitingIn_l4 R a0 fuel) i1 i2 i3 M3)
      else
        (zcl (mf_X12_askedBy R a0 i3 i1 M3) fun r7 M6 =>
        zlet ((i2 + r7) : Int32) fun x8 =>
        mf_X12_waitingIn_b31 R a0 (mf_X12_waitingIn_l4 R a0 fuel) i1 x8 i3 M6))
theorem mt_X12_waitingIn_l4 {C : zCx} {ad : Nat → Nat} {T : zTT} {R : zRR} {a0 : Nat} (h0 : zi12 T R a0) : ∀ (fuel : Nat) (i1 : Int32) (i2 : Int32) (i3 : Int32) (M : zMem), zX C mi_X12_waitingIn (zFin C zrvI ad T R) 0 0 (mf_X12_waitingIn_l4 R a0 fuel i1 i2 i3 M) 4 [(0, .ref a0), (1, .int i1), (2, .int i2), (3, .int i3)] [] ad T R M := by
  intro fuel
  induction fuel with
  | zero => intros; exact zx_none
  | succ fuel ih =>
    intro i1 i2 i3 M
    rw [mf_X12_waitingIn_l4]
    refine zx_iload_n (i := 3) (zd me_X12_waitingIn 4 rfl) rfl 3 rfl ?_
    refine zx_aload_n (i := 0) (zd me_X12_waitingIn 5 rfl) rfl 0 rfl ?_
    refine zx_getR (zd me_X12_waitingIn 6 rfl) fl_X12_98 (zi12_c h0) rfl (zi12_r14 h0) ?_
    refine zx_iconst (v := 2) (zd me_X12_waitingIn 7 rfl) (by decide) ?_
    refine zx_iald (zd me_X12_waitingIn 8 rfl) (zi12_t14 h0) (fun j1 hj1 => ?_)
    refine zx_icmp_ge (tgt := 37) (zd me_X12_waitingIn 9 rfl) (by decide) (fun c2 => ?_) (fun c2 => ?_)
    · refine zx_iload_n (i := 2) (zd me_X12_waitingIn 23 rfl) rfl 2 rfl ?_
      exact zx_iret (zd me_X12_waitingIn 24 rfl) rfl
    · refine zx_aload_n (i := 0) (zd me_X12_waitingIn 10 rfl) rfl 0 rfl ?_
      refine zx_iload_n (i := 3) (zd me_X12_waitingIn 11 rfl) rfl 3 rfl ?_
      refine zx_callVI1 (zd me_X12_waitingIn 12 rfl) (mc_X12_isWaiting (zl C) h0 i3 M) lk_X12_246 ⟨(Nat.le_of_ble_eq_true rfl), (Nat.le_of_ble_eq_true rfl)⟩ (Nat.le_of_ble_eq_true rfl) (zi12_c h0) rfl (fun r4 M3 => ?_)
      refine zx_if_eq (tgt := 31) (zd me_X12_waitingIn 13 rfl) (by decide) (fun c5 => ?_) (fun c5 => ?_)
      · exact mt_X12_waitingIn_b31 h0 ih i1 i2 i3 M3
      · refine zx_iload_n (i := 2) (zd me_X12_waitingIn 14 rfl) rfl 2 rfl ?_
        refine zx_aload_n (i := 0) (zd me_X12_waitingIn 15 rfl) rfl 0 rfl ?_
        refine zx_iload_n (i := 3) (zd me_X12_waitingIn 16 rfl) rfl 3 rfl ?_
        refine zx_iload_n (i := 1) (zd me_X12_waitingIn 17 rfl) rfl 1 rfl ?_
        refine zx_callVI2 (zd me_X12_waitingIn 18 rfl) (mc_X12_askedBy (zl C) h0 i3 i1 M3) lk_X12_243 ⟨(Nat.le_of_ble_eq_true rfl), (Nat.le_of_ble_eq_true rfl)⟩ (Nat.le_of_ble_eq_true rfl) (zi12_c h0) rfl (fun r7 M6 => ?_)
        refine zx_iadd (zd me_X12_waitingIn 19 rfl) ?_
        refine zx_leti (fun x8 => ?_)
        refine zx_istore_n (i := 2) (ls' := [(2, .int x8), (0, .ref a0), (1, .int i1), (3, .int i3)]) (zd me_X12_waitingIn 20 rfl) rfl (Nat.le_of_ble_eq_true rfl) rfl ?_
        refine zx_loc [1, 2, 0, 3] rfl ?_
        exact mt_X12_waitingIn_b31 h0 ih i1 x8 i3 M6
def mf_X12_waitingIn (R : zRR) (a0 : Nat) (i1 : Int32) (M : zMem) : Option (Int32 × zMem) :=
  mf_X12_waitingIn_l4 R a0 zF i1 (0 : Int32) (0 : Int32) M
theorem mc_X12_waitingIn (l : Launch) {T : zTT} {R : zRR} {a0 : Nat} (h0 : zi12 T R a0) (i1 : Int32) (M : zMem) : zMS l yX12_waitingIn mi_X12_waitingIn zrvI (mf_X12_waitingIn R a0 i1 M) [.ref a0, .int i1] T R M := by
  refine zMS.of (by decide +kernel) rfl ⟨rfl, rfl⟩ (Nat.le_of_ble_eq_true rfl) (fun C ad _ => ?_)
  show zX C mi_X12_waitingIn (zFin C zrvI ad T R) 0 0 (mf_X12_waitingIn R a0 i1 M) 0 [(0, .ref a0), (1, .int i1)] [] ad T R M
  unfold mf_X12_waitingIn
  refine zx_iconst (v := 0) (zd me_X12_waitingIn 0 rfl) (by decide) ?_
  refine zx_istore_n (i := 2) (ls' := [(2, .int (0 : Int32)), (0, .ref a0), (1, .int i1)]) (zd me_X12_waitingIn 1 rfl) rfl (Nat.le_of_ble_eq_true rfl) rfl ?_
  refine zx_iconst (v := 0) (zd me_X12_waitingIn 2 rfl) (by decide) ?_
  refine zx_istore_n (i := 3) (ls' := [(3, .int (0 : Int32)), (2, .int (0 : Int32)), (0, .ref a0), (1, .int i1)]) (zd me_X12_waitingIn 3 rfl) rfl (Nat.le_of_ble_eq_true rfl) rfl ?_
  refine zx_loc [2, 3, 1, 0] rfl ?_
  exact mt_X12_waitingIn_l4 h0 zF i1 (0 : Int32) (0 : Int32) M
def mf_X12_jam_b59 (R : zRR) (a0 : Nat) (H9 : Int32 → Int32 → zMem → Option (Int32 × zMem)) (i1 : Int32) (i2 : Int32) (M : zMem) : Option (Int32 × zMem) :=
  H9 i1 (i2 + 1) M
theorem mt_X12_jam_b59 {C : zCx} {ad : Nat → Nat} {T : zTT} {R : zRR} {a0 : Nat} (h0 : zi12 T R a0) {H9 : Int32 → Int32 → zMem → Option (Int32 × zMem)} (hH9 : ∀ (i1 : Int32) (i2 : Int32) (M : zMem), zX C mi_X12_jam (zFin C zrvI ad T R) 0 0 (H9 i1 i2 M) 9 [(0, .ref a0), (1, .int i1), (2, .int i2)] [] ad T R M) (i1 : Int32) (i2 : Int32) (M : zMem) : zX C mi_X12_jam (zFin C zrvI ad T R) 0 0 (mf_X12_jam_b59 R a0 H9 i1 i2 M) 59 [(0, .ref a0), (1, .int i1), (2, .int i2)] [] ad T R M := by
  unfold mf_X12_jam_b59
  refine zx_iinc (v := 1) (ls' := [(2, .int (i2 + 1)), (0, .ref a0), (1, .int i1)]) (zd me_X12_jam 39 rfl) (Nat.le_of_ble_eq_true rfl) 2 rfl (by decide) rfl ?_
  refine zx_goto (tgt := 9) (zd me_X12_jam 40 rfl) (by decide) ?_
  refine zx_loc [1, 2, 0] rfl ?_
  exact hH9 i1 (i2 + 1) M
def mf_X12_jam_b57 (R : zRR) (a0 : Nat) (H9 : Int32 → Int32 → zMem → Option (Int32 × zMem)) (i2 : Int32) (M : zMem) : Option (Int32 × zMem) :=
  mf_X12_jam_b59 R a0 H9 i2 i2 M
theorem mt_X12_jam_b57 {C : zCx} {ad : Nat → Nat} {T : zTT} {R : zRR} {a0 : Nat} (h0 : zi12 T R a0) {H9 : Int32 → Int32 → zMem → Option (Int32 × zMem)} (hH9 : ∀ (i1 : Int32) (i2 : Int32) (M : zMem), zX C mi_X12_jam (zFin C zrvI ad T R) 0 0 (H9 i1 i2 M) 9 [(0, .ref a0), (1, .int i1), (2, .int i2)] [] ad T R M) (i2 : Int32) (M : zMem) : zX C mi_X12_jam (zFin C zrvI ad T R) 0 0 (mf_X12_jam_b57 R a0 H9 i2 M) 57 [(0, .ref a0), (2, .int i2)] [] ad T R M := by
  unfold mf_X12_jam_b57
  refine zx_iload_n (i := 2) (zd me_X12_jam 37 rfl) rfl 1 rfl ?_
  refine zx_istore_n (i := 1) (ls' := [(1, .int i2), (0, .ref a0), (2, .int i2)]) (zd me_X12_jam 38 rfl) rfl (Nat.le_of_ble_eq_true rfl) rfl ?_
  refine zx_loc [1, 0, 2] rfl ?_
  exact mt_X12_jam_b59 h0 hH9 i2 i2 M
def mf_X12_jam_l9 (R : zRR) (a0 : Nat) : Nat → Int32 → Int32 → zMem → Option (Int32 × zMem)
  | 0, _, _, _ => none
  | fuel + 1, i1, i2, M =>
    zald 354 (0 : Int32) fun j2 =>
    if (M.1 (zrf R a0 14) j2) ≤ i2 then
      (some (i1, M))
    else
      (if i1 = (-1 : Int32) then
        (mf_X12_jam_b57 R a0 (mf_X12_jam_l9 R a0 fuel) i2 M)
      else
        (zcl (mf_X12_waitingIn R a0 i2 M) fun r6 M5 =>
        zald 354 ((6 : Int32) + i1) fun j7 =>
        zcl (mf_X12_waitingIn R a0 i1 M5) fun r9 M8 =>
        zald 354 ((6 : Int32) + i2) fun j10 =>
        if (r6 * (M5.1 (zrf R a0 14) j7)) ≤ (r9 * (M8.1 (zrf R a0 14) j10)) then
          (mf_X12_jam_b59 R a0 (mf_X12_jam_l9 R a0 fuel) i1 i2 M8)
        else
          (mf_X12_jam_b57 R a0 (mf_X12_jam_l9 R a0 fuel) i2 M8)))
theorem mt_X12_jam_l9 {C : zCx} {ad : Nat → Nat} {T : zTT} {R : zRR} {a0 : Nat} (h0 : zi12 T R a0) : ∀ (fuel : Nat) (i1 : Int32) (i2 : Int32) (M : zMem), zX C mi_X12_jam (zFin C zrvI ad T R) 0 0 (mf_X12_jam_l9 R a0 fuel i1 i2 M) 9 [(0, .ref a0), (1, .int i1), (2, .int i2)] [] ad T R M := by
  intro fuel
  induction fuel with
  | zero => intros; exact zx_none
  | succ fuel ih =>
    intro i1 i2 M
    rw [mf_X12_jam_l9]
    refine zx_iload_n (i := 2) (zd me_X12_jam 7 rfl) rfl 2 rfl ?_
    refine zx_aload_n (i := 0) (zd me_X12_jam 8 rfl) rfl 0 rfl ?_
    refine zx_getR (zd me_X12_jam 9 rfl) fl_X12_98 (zi12_c h0) rfl (zi12_r14 h0) ?_
    refine zx_iconst (v := 0) (zd me_X12_jam 10 rfl) (by decide) ?_
    refine zx_iald (zd me_X12_jam 11 rfl) (zi12_t14 h0) (fun j2 hj2 => ?_)
    refine zx_icmp_ge (tgt := 65) (zd me_X12_jam 12 rfl) (by decide) (fun c3 => ?_) (fun c3 => ?_)
    · refine zx_iload_n (i := 1) (zd me_X12_jam 41 rfl) rfl 1 rfl ?_
      exact zx_iret (zd me_X12_jam 42 rfl) rfl
    · refine zx_iload_n (i := 1) (zd me_X12_jam 13 rfl) rfl 1 rfl ?_
      refine zx_iconst (v := (-1)) (zd me_X12_jam 14 rfl) (by decide) ?_
      refine zx_icmp_eq (tgt := 57) (zd me_X12_jam 15 rfl) (by decide) (fun c4 => ?_) (fun c4 => ?_)
      · refine zx_loc [0, 2] rfl ?_
        exact mt_X12_jam_b57 h0 ih i2 M
      · refine zx_aload_n (i := 0) (zd me_X12_jam 16 rfl) rfl 0 rfl ?_
        refine zx_iload_n (i := 2) (zd me_X12_jam 17 rfl) rfl 2 rfl ?_
        refine zx_callVI1 (zd me_X12_jam 18 rfl) (mc_X12_waitingIn (zl C) h0 i2 M) lk_X12_356 ⟨(Nat.le_of_ble_eq_true rfl), (Nat.le_of_ble_eq_true rfl)⟩ (Nat.le_of_ble_eq_true rfl) (zi12_c h0) rfl (fun r6 M5 => ?_)
        refine zx_aload_n (i := 0) (zd me_X12_jam 19 rfl) rfl 0 rfl ?_
        refine zx_getR (zd me_X12_jam 20 rfl) fl_X12_98 (zi12_c h0) rfl (zi12_r14 h0) ?_
        refine zx_bipush (v := 6) (zd me_X12_jam 21 rfl) (by decide) ?_
        refine zx_iload_n (i := 1) (zd me_X12_jam 22 rfl) rfl 1 rfl ?_
        refine zx_iadd (zd me_X12_jam 23 rfl) ?_
        refine zx_iald (zd me_X12_jam 24 rfl) (zi12_t14 h0) (fun j7 hj7 => ?_)
        refine zx_imul (zd me_X12_jam 25 rfl) ?_
        refine zx_aload_n (i := 0) (zd me_X12_jam 26 rfl) rfl 0 rfl ?_
        refine zx_iload_n (i := 1) (zd me_X12_jam 27 rfl) rfl 1 rfl ?_
        refine zx_callVI1 (zd me_X12_jam 28 rfl) (mc_X12_waitingIn (zl C) h0 i1 M5) lk_X12_356 ⟨(Nat.le_of_ble_eq_true rfl), (Nat.le_of_ble_eq_true rfl)⟩ (Nat.le_of_ble_eq_true rfl) (zi12_c h0) rfl (fun r9 M8 => ?_)
        refine zx_aload_n (i := 0) (zd me_X12_jam 29 rfl) rfl 0 rfl ?_
        refine zx_getR (zd me_X12_jam 30 rfl) fl_X12_98 (zi12_c h0) rfl (zi12_r14 h0) ?_
        refine zx_bipush (v := 6) (zd me_X12_jam 31 rfl) (by decide) ?_
        refine zx_iload_n (i := 2) (zd me_X12_jam 32 rfl) rfl 2 rfl ?_
        refine zx_iadd (zd me_X12_jam 33 rfl) ?_
        refine zx_iald (zd me_X12_jam 34 rfl) (zi12_t14 h0) (fun j10 hj10 => ?_)
        refine zx_imul (zd me_X12_jam 35 rfl) ?_
        refine zx_icmp_le (tgt := 59) (zd me_X12_jam 36 rfl) (by decide) (fun c11 => ?_) (fun c11 => ?_)
        · exact mt_X12_jam_b59 h0 ih i1 i2 M8
        · refine zx_loc [0, 2] rfl ?_
          exact mt_X12_jam_b57 h0 ih i2 M8
def mf_X12_jam (R : zRR) (a0 : Nat) (M : zMem) : Option (Int32 × zMem) :=
  zlet (zwI M a0 0 (0 : Int32)) fun M1 =>
  mf_X12_jam_l9 R a0 zF (-1 : Int32) (0 : Int32) M1
theorem mc_X12_jam (l : Launch) {T : zTT} {R : zRR} {a0 : Nat} (h0 : zi12 T R a0) (M : zMem) : zMS l yX12_jam mi_X12_jam zrvI (mf_X12_jam R a0 M) [.ref a0] T R M := by
  refine zMS.of (by decide +kernel) rfl ⟨rfl, rfl⟩ (Nat.le_of_ble_eq_true rfl) (fun C ad _ => ?_)
  show zX C mi_X12_jam (zFin C zrvI ad T R) 0 0 (mf_X12_jam R a0 M) 0 [(0, .ref a0)] [] ad T R M
  unfold mf_X12_jam
  refine zx_aload_n (i := 0) (zd me_X12_jam 0 rfl) rfl 0 rfl ?_
  refine zx_iconst (v := 0) (zd me_X12_jam 1 rfl) (by decide) ?_
  refine zx_putI (zd me_X12_jam 2 rfl) fp_X12_1 (zi12_c h0) rfl (fun M1 _ => ?_)
  refine zx_iconst (v := (-1)) (zd me_X12_jam 3 rfl) (by decide) ?_
  refine zx_istore_n (i := 1) (ls' := [(1, .int (-1 : Int32)), (0, .ref a0)]) (zd me_X12_jam 4 rfl) rfl (Nat.le_of_ble_eq_true rfl) rfl ?_
  refine zx_iconst (v := 0) (zd me_X12_jam 5 rfl) (by decide) ?_
  refine zx_istore_n (i := 2) (ls' := [(2, .int (0 : Int32)), (1, .int (-1 : Int32)), (0, .ref a0)]) (zd me_X12_jam 6 rfl) rfl (Nat.le_of_ble_eq_true rfl) rfl ?_
  refine zx_loc [2, 1, 0] rfl ?_
  exact mt_X12_jam_l9 h0 zF (-1 : Int32) (0 : Int32) M1
def mf_X12_leftBy_b74 (R : zRR) (a0 : Nat) (H5 : Int32 → Int32 → Int32 → Int32 → zMem → Option (Int32 × zMem)) (H34 : Int32 → Int32 → Int32 → Int32 → Int32 → Int32 → zMem → Option (Int32 × zMem)) (i1 : Int32) (i2 : Int32) (i3 : Int32) (i4 : Int32) (i5 : Int32) (i6 : Int32) (M : zMem) : Option (Int32 × zMem) :=
  H34 i1 i2 i3 i4 i5 (i6 + 1) M
theorem mt_X12_leftBy_b74 {C : zCx} {ad : Nat → Nat} {T : zTT} {R : zRR} {a0 : Nat} (h0 : zi12 T R a0) {H5 : Int32 → Int32 → Int32 → Int32 → zMem → Option (Int32 × zMem)} {H34 : Int32 → Int32 → Int32 → Int32 → Int32 → Int32 → zMem → Option (Int32 × zMem)} (hH5 : ∀ (i1 : Int32) (i2 : Int32) (i3 : Int32) (i4 : Int32) (M : zMem), zX C mi_X12_leftBy (zFin C zrvI ad T R) 0 0 (H5 i1 i2 i3 i4 M) 5 [(0, .ref a0), (1, .int i1), (2, .int i2), (3, .int i3), (4, .int i4)] [] ad T R M) (hH34 : ∀ (i1 : Int32) (i2 : Int32) (i3 : Int32) (i4 : Int32) (i5 : Int32) (i6 : Int32) (M : zMem), zX C mi_X12_leftBy (zFin C zrvI ad T R) 0 0 (H34 i1 i2 i3 i4 i5 i6 M) 34 [(0, .ref a0), (1, .int i1), (2, .int i2), (3, .int i3), (4, .int i4), (5, .int i5), (6, .int i6)] [] ad T R M) (i1 : Int32) (i2 : Int32) (i3 : Int32) (i4 : Int32) (i5 : Int32) (i6 : Int32) (M : zMem) : zX C mi_X12_leftBy (zFin C zrvI ad T R) 0 0 (mf_X12_leftBy_b74 R a0 H5 H34 i1 i2 i3 i4 i5 i6 M) 74 [(0, .ref a0), (1, .int i1), (2, .int i2), (3, .int i3), (4, .int i4), (5, .int i5), (6, .int i6)] [] ad T R M := by
  unfold mf_X12_leftBy_b74
  refine zx_iinc (v := 1) (ls' := [(6, .int (i6 + 1)), (0, .ref a0), (1, .int i1), (2, .int i2), (3, .int i3), (4, .int i4), (5, .int i5)]) (zd me_X12_leftBy 39 rfl) (Nat.le_of_ble_eq_true rfl) 6 rfl (by decide) rfl ?_
  refine zx_goto (tgt := 34) (zd me_X12_leftBy 40 rfl) (by decide) ?_
  refine zx_loc [1, 2, 3, 4, 5, 6, 0] rfl ?_
  exact hH34 i1 i2 i3 i4 i5 (i6 + 1) M
def mf_X12_leftBy_b89 (R : zRR) (a0 : Nat) (H5 : Int32 → Int32 → Int32 → Int32 → zMem → Option (Int32 × zMem)) (i1 : Int32) (i2 : Int32) (i3 : Int32) (i4 : Int32) (M : zMem) : Option (Int32 × zMem) :=
  H5 i1 i2 i3 (i4 + 1) M
theorem mt_X12_leftBy_b89 {C : zCx} {ad : Nat → Nat} {T : zTT} {R : zRR} {a0 : Nat} (h0 : zi12 T R a0) {H5 : Int32 → Int32 → Int32 → Int32 → zMem → Option (Int32 × zMem)} (hH5 : ∀ (i1 : Int32) (i2 : Int32) (i3 : Int32) (i4 : Int32) (M : zMem), zX C mi_X12_leftBy (zFin C zrvI ad T R) 0 0 (H5 i1 i2 i3 i4 M) 5 [(0, .ref a0), (1, .int i1), (2, .int i2), (3, .int i3), (4, .int i4)] [] ad T R M) (i1 : Int32) (i2 : Int32) (i3 : Int32) (i4 : Int32) (M : zMem) : zX C mi_X12_leftBy (zFin C zrvI ad T R) 0 0 (mf_X12_leftBy_b89 R a0 H5 i1 i2 i3 i4 M) 89 [(0, .ref a0), (1, .int i1), (2, .int i2), (3, .int i3), (4, .int i4)] [] ad T R M := by
  unfold mf_X12_leftBy_b89
  refine zx_iinc (v := 1) (ls' := [(4, .int (i4 + 1)), (0, .ref a0), (1, .int i1), (2, .int i2), (3, .int i3)]) (zd me_X12_leftBy 46 rfl) (Nat.le_of_ble_eq_true rfl) 4 rfl (by decide) rfl ?_
  refine zx_goto (tgt := 5) (zd me_X12_leftBy 47 rfl) (by decide) ?_
  refine zx_loc [1, 2, 3, 4, 0] rfl ?_
  exact hH5 i1 i2 i3 (i4 + 1) M
def mf_X12_leftBy_l34 (R : zRR) (a0 : Nat) (H5 : Int32 → Int32 → Int32 → Int32 → zMem → Option (Int32 × zMem)) : Nat → Int32 → Int32 → Int32 → Int32 → Int32 → Int32 → zMem → Option (Int32 × zMem)
  | 0, _, _, _, _, _, _, _ => none
  | fuel + 1, i1, i2, i3, i4, i5, i6, M =>
    zald 354 (2 : Int32) fun j6 =>
    if (M.1 (zrf R a0 14) j6) ≤ i6 then
      (if i5 ≤ i3 then
        (mf_X12_leftBy_b89 R a0 H5 i1 i2 i3 i4 M)
      else
        (mf_X12_leftBy_b89 R a0 H5 i1 i2 i5 i4 M))
    else
      (zcl (mf_X12_has R i1 i6 M) fun r10 M9 =>
      if r10 = 0 then
        (mf_X12_leftBy_b74 R a0 H5 (mf_X12_leftBy_l34 R a0 H5 fuel) i1 i2 i3 i4 i5 i6 M9)
      else
        (zcl (mf_X12_askedBy R a0 i6 i2 M9) fun r13 M12 =>
        zcl (mf_X12_askedBy R a0 i4 i2 M12) fun r15 M14 =>
        if r13 = r15 then
          (mf_X12_leftBy_b74 R a0 H5 (mf_X12_leftBy_l34 R a0 H5 fuel) i1 i2 i3 i4 (i5 + 1) i6 M14)
        else
          (mf_X12_leftBy_b74 R a0 H5 (mf_X12_leftBy_l34 R a0 H5 fuel) i1 i2 i3 i4 i5 i6 M14)))
theorem mt_X12_leftBy_l34 {C : zCx} {ad : Nat → Nat} {T : zTT} {R : zRR} {a0 : Nat} (h0 : zi12 T R a0) {H5 : Int32 → Int32 → Int32 → Int32 → zMem → Option (Int32 × zMem)} (hH5 : ∀ (i1 : Int32) (i2 : Int32) (i3 : Int32) (i4 : Int32) (M : zMem), zX C mi_X12_leftBy (zFin C zrvI ad T R) 0 0 (H5 i1 i2 i3 i4 M) 5 [(0, .ref a0), (1, .int i1), (2, .int i2), (3, .int i3), (4, .int i4)] [] ad T R M) : ∀ (fuel : Nat) (i1 : Int32) (i2 : Int32) (i3 : Int32) (i4 : Int32) (i5 : Int32) (i6 : Int32) (M : zMem), zX C mi_X12_leftBy (zFin C zrvI ad T R) 0 0 (mf_X12_leftBy_l34 R a0 H5 fuel i1 i2 i3 i4 i5 i6 M) 34 [(0, .ref a0), (1, .int i1), (2, .int i2), (3, .int i3), (4, .int i4), (5, .int i5), (6, .int i6)] [] ad T R M := by
  intro fuel
  induction fuel with
  | zero => intros; exact zx_none
  | succ fuel ih =>
    intro i1 i2 i3 i4 i5 i6 M
    rw [mf_X12_leftBy_l34]
    refine zx_iload (zd me_X12_leftBy 19 rfl) 6 rfl ?_
    refine zx_aload_n (i := 0) (zd me_X12_leftBy 20 rfl) rfl 0 rfl ?_
    refine zx_getR (zd me_X12_leftBy 21 rfl) fl_X12_98 (zi12_c h0) rfl (zi12_r14 h0) ?_
    refine zx_iconst (v := 2) (zd me_X12_leftBy 22 rfl) (by decide) ?_
    refine zx_iald (zd me_X12_leftBy 23 rfl) (zi12_t14 h0) (fun j6 hj6 => ?_)
    refine zx_icmp_ge (tgt := 80) (zd me_X12_leftBy 24 rfl) (by decide) (fun c7 => ?_) (fun c7 => ?_)
    · refine zx_iload (zd me_X12_leftBy 41 rfl) 5 rfl ?_
      refine zx_iload_n (i := 3) (zd me_X12_leftBy 42 rfl) rfl 3 rfl ?_
      refine zx_icmp_le (tgt := 89) (zd me_X12_leftBy 43 rfl) (by decide) (fun c8 => ?_) (fun c8 => ?_)
      · refine zx_loc [0, 1, 2, 3, 4] rfl ?_
        exact mt_X12_leftBy_b89 h0 hH5 i1 i2 i3 i4 M
      · refine zx_iload (zd me_X12_leftBy 44 rfl) 5 rfl ?_
        refine zx_istore_n (i := 3) (ls' := [(3, .int i5), (0, .ref a0), (1, .int i1), (2, .int i2), (4, .int i4), (5, .int i5), (6, .int i6)]) (zd me_X12_leftBy 45 rfl) rfl (Nat.le_of_ble_eq_true rfl) rfl ?_
        refine zx_loc [1, 2, 3, 0, 4] rfl ?_
        exact mt_X12_leftBy_b89 h0 hH5 i1 i2 i5 i4 M
    · refine zx_iload_n (i := 1) (zd me_X12_leftBy 25 rfl) rfl 1 rfl ?_
      refine zx_iload (zd me_X12_leftBy 26 rfl) 6 rfl ?_
      refine zx_callSI2 (zd me_X12_leftBy 27 rfl) (mc_X12_has (zl C) i1 i6 M) lk_X12_200 ⟨(Nat.le_of_ble_eq_true rfl), (Nat.le_of_ble_eq_true rfl)⟩ (Nat.le_of_ble_eq_true rfl) (fun r10 M9 => ?_)
      refine zx_if_eq (tgt := 74) (zd me_X12_leftBy 28 rfl) (by decide) (fun c11 => ?_) (fun c11 => ?_)
      · exact mt_X12_leftBy_b74 h0 hH5 ih i1 i2 i3 i4 i5 i6 M9
      · refine zx_aload_n (i := 0) (zd me_X12_leftBy 29 rfl) rfl 0 rfl ?_
        refine zx_iload (zd me_X12_leftBy 30 rfl) 6 rfl ?_
        refine zx_iload_n (i := 2) (zd me_X12_leftBy 31 rfl) rfl 2 rfl ?_
        refine zx_callVI2 (zd me_X12_leftBy 32 rfl) (mc_X12_askedBy (zl C) h0 i6 i2 M9) lk_X12_243 ⟨(Nat.le_of_ble_eq_true rfl), (Nat.le_of_ble_eq_true rfl)⟩ (Nat.le_of_ble_eq_true rfl) (zi12_c h0) rfl (fun r13 M12 => ?_)
        refine zx_aload_n (i := 0) (zd me_X12_leftBy 33 rfl) rfl 0 rfl ?_
        refine zx_iload (zd me_X12_leftBy 34 rfl) 4 rfl ?_
        refine zx_iload_n (i := 2) (zd me_X12_leftBy 35 rfl) rfl 2 rfl ?_
        refine zx_callVI2 (zd me_X12_leftBy 36 rfl) (mc_X12_askedBy (zl C) h0 i4 i2 M12) lk_X12_243 ⟨(Nat.le_of_ble_eq_true rfl), (Nat.le_of_ble_eq_true rfl)⟩ (Nat.le_of_ble_eq_true rfl) (zi12_c h0) rfl (fun r15 M14 => ?_)
        refine zx_icmp_ne (tgt := 74) (zd me_X12_leftBy 37 rfl) (by decide) (fun c16 => ?_) (fun c16 => ?_)
        · exact mt_X12_leftBy_b74 h0 hH5 ih i1 i2 i3 i4 i5 i6 M14
        · refine zx_iinc (v := 1) (ls' := [(5, .int (i5 + 1)), (0, .ref a0), (1, .int i1), (2, .int i2), (3, .int i3), (4, .int i4), (6, .int i6)]) (zd me_X12_leftBy 38 rfl) (Nat.le_of_ble_eq_true rfl) 5 rfl (by decide) rfl ?_
          refine zx_loc [1, 2, 3, 4, 5, 0, 6] rfl ?_
          exact mt_X12_leftBy_b74 h0 hH5 ih i1 i2 i3 i4 (i5 + 1) i6 M14
def mf_X12_leftBy_l5 (R : zRR) (a0 : Nat) : Nat → Int32 → Int32 → Int32 → Int32 → zMem → Option (Int32 × zMem)
  | 0, _, _, _, _, _ => none
  | fuel + 1, i1, i2, i3, i4, M =>
    zald 354 (2 : Int32) fun j1 =>
    if (M.1 (zrf R a0 14) j1) ≤ i4 then
      (some (i3, M))
    else
      (zcl (mf_X12_has R i1 i4 M) fun r4 M3 =>
      if r4 = 0 then
        (mf_X12_leftBy_b89 R a0 (mf_X12_leftBy_l5 R a0 fuel) i1 i2 i3 i4 M3)
      else
        (mf_X12_leftBy_l34 R a0 (mf_X12_leftBy_l5 R a0 fuel) zF i1 i2 i3 i4 (0 : Int32) (0 : Int32) M3))
theorem mt_X12_leftBy_l5 {C : zCx} {ad : Nat → Nat} {T : zTT} {R : zRR} {a0 : Nat} (h0 : zi12 T R a0) : ∀ (fuel : Nat) (i1 : Int32) (i2 : Int32) (i3 : Int32) (i4 : Int32) (M : zMem), zX C mi_X12_leftBy (zFin C zrvI ad T R) 0 0 (mf_X12_leftBy_l5 R a0 fuel i1 i2 i3 i4 M) 5 [(0, .ref a0), (1, .int i1), (2, .int i2), (3, .int i3), (4, .int i4)] [] ad T R M := by
  intro fuel
  induction fuel with
  | zero => intros; exact zx_none
  | succ fuel ih =>
    intro i1 i2 i3 i4 M
    rw [mf_X12_leftBy_l5]
    refine zx_iload (zd me_X12_leftBy 4 rfl) 4 rfl ?_
    refine zx_aload_n (i := 0) (zd me_X12_leftBy 5 rfl) rfl 0 rfl ?_
    refine zx_getR (zd me_X12_leftBy 6 rfl) fl_X12_98 (zi12_c h0) rfl (zi12_r14 h0) ?_
    refine zx_iconst (v := 2) (zd me_X12_leftBy 7 rfl) (by decide) ?_
    refine zx_iald (zd me_X12_leftBy 8 rfl) (zi12_t14 h0) (fun j1 hj1 => ?_)
    refine zx_icmp_ge (tgt := 95) (zd me_X12_leftBy 9 rfl) (by decide) (fun c2 => ?_) (fun c2 => ?_)
    · refine zx_iload_n (i := 3) (zd me_X12_leftBy 48 rfl) rfl 3 rfl ?_
      exact zx_iret (zd me_X12_leftBy 49 rfl) rfl
    · refine zx_iload_n (i := 1) (zd me_X12_leftBy 10 rfl) rfl 1 rfl ?_
      refine zx_iload (zd me_X12_leftBy 11 rfl) 4 rfl ?_
      refine zx_callSI2 (zd me_X12_leftBy 12 rfl) (mc_X12_has (zl C) i1 i4 M) lk_X12_200 ⟨(Nat.le_of_ble_eq_true rfl), (Nat.le_of_ble_eq_true rfl)⟩ (Nat.le_of_ble_eq_true rfl) (fun r4 M3 => ?_)
      refine zx_if_ne (tgt := 28) (zd me_X12_leftBy 13 rfl) (by decide) (fun c5 => ?_) (fun c5 => ?_)
      · refine zx_iconst (v := 0) (zd me_X12_leftBy 15 rfl) (by decide) ?_
        refine zx_istore (ls' := [(5, .int (0 : Int32)), (0, .ref a0), (1, .int i1), (2, .int i2), (3, .int i3), (4, .int i4)]) (zd me_X12_leftBy 16 rfl) (Nat.le_of_ble_eq_true rfl) rfl ?_
        refine zx_iconst (v := 0) (zd me_X12_leftBy 17 rfl) (by decide) ?_
        refine zx_istore (ls' := [(6, .int (0 : Int32)), (5, .int (0 : Int32)), (0, .ref a0), (1, .int i1), (2, .int i2), (3, .int i3), (4, .int i4)]) (zd me_X12_leftBy 18 rfl) (Nat.le_of_ble_eq_true rfl) rfl ?_
        refine zx_loc [2, 3, 4, 5, 6, 1, 0] rfl ?_
        exact mt_X12_leftBy_l34 h0 ih zF i1 i2 i3 i4 (0 : Int32) (0 : Int32) M3
      · refine zx_goto (tgt := 89) (zd me_X12_leftBy 14 rfl) (by decide) ?_
        exact mt_X12_leftBy_b89 h0 ih i1 i2 i3 i4 M3
def mf_X12_leftBy (R : zRR) (a0 : Nat) (i1 : Int32) (i2 : Int32) (M : zMem) : Option (Int32 × zMem) :=
  mf_X12_leftBy_l5 R a0 zF i1 i2 (0 : Int32) (0 : Int32) M
theorem mc_X12_leftBy (l : Launch) {T : zTT} {R : zRR} {a0 : Nat} (h0 : zi12 T R a0) (i1 : Int32) (i2 : Int32) (M : zMem) : zMS l yX12_leftBy mi_X12_leftBy zrvI (mf_X12_leftBy R a0 i1 i2 M) [.ref a0, .int i1, .int i2] T R M := by
  refine zMS.of (by decide +kernel) rfl ⟨rfl, rfl⟩ (Nat.le_of_ble_eq_true rfl) (fun C ad _ => ?_)
  show zX C mi_X12_leftBy (zFin C zrvI ad T R) 0 0 (mf_X12_leftBy R a0 i1 i2 M) 0 [(0, .ref a0), (1, .int i1), (2, .int i2)] [] ad T R M
  unfold mf_X12_leftBy
  refine zx_iconst (v := 0) (zd me_X12_leftBy 0 rfl) (by decide) ?_
  refine zx_istore_n (i := 3) (ls' := [(3, .int (0 : Int32)), (0, .ref a0), (1, .int i1), (2, .int i2)]) (zd me_X12_leftBy 1 rfl) rfl (Nat.le_of_ble_eq_true rfl) rfl ?_
  refine zx_iconst (v := 0) (zd me_X12_leftBy 2 rfl) (by decide) ?_
  refine zx_istore (ls' := [(4, .int (0 : Int32)), (3, .int (0 : Int32)), (0, .ref a0), (1, .int i1), (2, .int i2)]) (zd me_X12_leftBy 3 rfl) (Nat.le_of_ble_eq_true rfl) rfl ?_
  refine zx_loc [2, 3, 4, 1, 0] rfl ?_
  exact mt_X12_leftBy_l5 h0 zF i1 i2 (0 : Int32) (0 : Int32) M
def mf_X12_isTold_l2 (R : zRR) (a0 : Nat) : Nat → Int32 → Int32 → Int32 → zMem → Option (Int32 × zMem)
  | 0, _, _, _, _ => none
  | fuel + 1, i1, i2, i3, M =>
    if i2 ≤ i3 then
      (some ((1 : Int32), M))
    else
      (zald 940 i3 fun j2 =>
      zcl (mf_X12_askedBy R a0 i1 (M.1 (zrf R a0 1) j2) M) fun r4 M3 =>
      zald 940 (i3 + (1 : Int32)) fun j5 =>
      if r4 = (M3.1 (zrf R a0 1) j5) then
        (mf_X12_isTold_l2 R a0 fuel i1 i2 (i3 + 2) M3)
      else
        (some ((0 : Int32), M3)))
theorem mt_X12_isTold_l2 {C : zCx} {ad : Nat → Nat} {T : zTT} {R : zRR} {a0 : Nat} (h0 : zi12 T R a0) : ∀ (fuel : Nat) (i1 : Int32) (i2 : Int32) (i3 : Int32) (M : zMem), zX C mi_X12_isTold (zFin C zrvI ad T R) 0 0 (mf_X12_isTold_l2 R a0 fuel i1 i2 i3 M) 2 [(0, .ref a0), (1, .int i1), (2, .int i2), (3, .int i3)] [] ad T R M := by
  intro fuel
  induction fuel with
  | zero => intros; exact zx_none
  | succ fuel ih =>
    intro i1 i2 i3 M
    rw [mf_X12_isTold_l2]
    refine zx_iload_n (i := 3) (zd me_X12_isTold 2 rfl) rfl 3 rfl ?_
    refine zx_iload_n (i := 2) (zd me_X12_isTold 3 rfl) rfl 2 rfl ?_
    refine zx_icmp_ge (tgt := 37) (zd me_X12_isTold 4 rfl) (by decide) (fun c1 => ?_) (fun c1 => ?_)
    · refine zx_iconst (v := 1) (zd me_X12_isTold 23 rfl) (by decide) ?_
      exact zx_zret (zd me_X12_isTold 24 rfl) rfl rfl
    · refine zx_aload_n (i := 0) (zd me_X12_isTold 5 rfl) rfl 0 rfl ?_
      refine zx_iload_n (i := 1) (zd me_X12_isTold 6 rfl) rfl 1 rfl ?_
      refine zx_aload_n (i := 0) (zd me_X12_isTold 7 rfl) rfl 0 rfl ?_
      refine zx_getR (zd me_X12_isTold 8 rfl) fl_X12_7 (zi12_c h0) rfl (zi12_r1 h0) ?_
      refine zx_iload_n (i := 3) (zd me_X12_isTold 9 rfl) rfl 3 rfl ?_
      refine zx_iald (zd me_X12_isTold 10 rfl) (zi12_t1 h0) (fun j2 hj2 => ?_)
      refine zx_callVI2 (zd me_X12_isTold 11 rfl) (mc_X12_askedBy (zl C) h0 i1 (M.1 (zrf R a0 1) j2) M) lk_X12_243 ⟨(Nat.le_of_ble_eq_true rfl), (Nat.le_of_ble_eq_true rfl)⟩ (Nat.le_of_ble_eq_true rfl) (zi12_c h0) rfl (fun r4 M3 => ?_)
      refine zx_aload_n (i := 0) (zd me_X12_isTold 12 rfl) rfl 0 rfl ?_
      refine zx_getR (zd me_X12_isTold 13 rfl) fl_X12_7 (zi12_c h0) rfl (zi12_r1 h0) ?_
      refine zx_iload_n (i := 3) (zd me_X12_isTold 14 rfl) rfl 3 rfl ?_
      refine zx_iconst (v := 1) (zd me_X12_isTold 15 rfl) (by decide) ?_
      refine zx_iadd (zd me_X12_isTold 16 rfl) ?_
      refine zx_iald (zd me_X12_isTold 17 rfl) (zi12_t1 h0) (fun j5 hj5 => ?_)
      refine zx_icmp_eq (tgt := 31) (zd me_X12_isTold 18 rfl) (by decide) (fun c6 => ?_) (fun c6 => ?_)
      · refine zx_iinc (v := 2) (ls' := [(3, .int (i3 + 2)), (0, .ref a0), (1, .int i1), (2, .int i2)]) (zd me_X12_isTold 21 rfl) (Nat.le_of_ble_eq_true rfl) 3 rfl (by decide) rfl ?_
        refine zx_goto (tgt := 2) (zd me_X12_isTold 22 rfl) (by decide) ?_
        refine zx_loc [1, 2, 3, 0] rfl ?_
        exact ih i1 i2 (i3 + 2) M3
      · refine zx_iconst (v := 0) (zd me_X12_isTold 19 rfl) (by decide) ?_
        exact zx_zret (zd me_X12_isTold 20 rfl) rfl rfl
def mf_X12_isTold (R : zRR) (a0 : Nat) (i1 : Int32) (i2 : Int32) (M : zMem) : Option (Int32 × zMem) :=
  mf_X12_isTold_l2 R a0 zF i1 i2 (0 : Int32) M
theorem mc_X12_isTold (l : Launch) {T : zTT} {R : zRR} {a0 : Nat} (h0 : zi12 T R a0) (i1 : Int32) (i2 : Int32) (M : zMem) : zMS l yX12_isTold mi_X12_isTold zrvI (mf_X12_isTold R a0 i1 i2 M) [.ref a0, .int i1, .int i2] T R M := by
  refine zMS.of (by decide +kernel) rfl ⟨rfl, rfl⟩ (Nat.le_of_ble_eq_true rfl) (fun C ad _ => ?_)
  show zX C mi_X12_isTold (zFin C zrvI ad T R) 0 0 (mf_X12_isTold R a0 i1 i2 M) 0 [(0, .ref a0), (1, .int i1), (2, .int i2)] [] ad T R M
  unfold mf_X12_isTold
  refine zx_iconst (v := 0) (zd me_X12_isTold 0 rfl) (by decide) ?_
  refine zx_istore_n (i := 3) (ls' := [(3, .int (0 : Int32)), (0, .ref a0), (1, .int i1), (2, .int i2)]) (zd me_X12_isTold 1 rfl) rfl (Nat.le_of_ble_eq_true rfl) rfl ?_
  refine zx_loc [1, 2, 3, 0] rfl ?_
  exact mt_X12_isTold_l2 h0 zF i1 i2 (0 : Int32) M
def mf_X12_who_b87 (R : zRR) (a0 : Nat) (H62 : Int32 → Int32 → Int32 → zMem → Option (Int32 × zMem)) (i1 : Int32) (i2 : Int32) (i3 : Int32) (M : zMem) : Option (Int32 × zMem) :=
  H62 i1 i2 (i3 + 1) M
theorem mt_X12_who_b87 {C : zCx} {ad : Nat → Nat} {T : zTT} {R : zRR} {a0 : Nat} (h0 : zi12 T R a0) {H62 : Int32 → Int32 → Int32 → zMem → Option (Int32 × zMem)} (hH62 : ∀ (i1 : Int32) (i2 : Int32) (i3 : Int32) (M : zMem), zX C mi_X12_who (zFin C zrvI ad T R) 0 0 (H62 i1 i2 i3 M) 62 [(0, .ref a0), (1, .int i1), (2, .int i2), (3, .int i3)] [] ad T R M) (i1 : Int32) (i2 : Int32) (i3 : Int32) (M : zMem) : zX C mi_X12_who (zFin C zrvI ad T R) 0 0 (mf_X12_who_b87 R a0 H62 i1 i2 i3 M) 87 [(0, .ref a0), (1, .int i1), (2, .int i2), (3, .int i3)] [] ad T R M := by
  unfold mf_X12_who_b87
  refine zx_iinc (v := 1) (ls' := [(3, .int (i3 + 1)), (0, .ref a0), (1, .int i1), (2, .int i2)]) (zd me_X12_who 56 rfl) (Nat.le_of_ble_eq_true rfl) 3 rfl (by decide) rfl ?_
  refine zx_goto (tgt := 62) (zd me_X12_who 57 rfl) (by decide) ?_
  refine zx_loc [1, 2, 3, 0] rfl ?_
  exact hH62 i1 i2 (i3 + 1) M
def mf_X12_who_b139 (R : zRR) (a0 : Nat) (H106 : Int32 → Int32 → zMem → Option (Int32 × zMem)) (i2 : Int32) (i3 : Int32) (M : zMem) : Option (Int32 × zMem) :=
  H106 i2 (i3 + 1) M
theorem mt_X12_who_b139 {C : zCx} {ad : Nat → Nat} {T : zTT} {R : zRR} {a0 : Nat} (h0 : zi12 T R a0) {H106 : Int32 → Int32 → zMem → Option (Int32 × zMem)} (hH106 : ∀ (i2 : Int32) (i3 : Int32) (M : zMem), zX C mi_X12_who (zFin C zrvI ad T R) 0 0 (H106 i2 i3 M) 106 [(0, .ref a0), (2, .int i2), (3, .int i3)] [] ad T R M) (i2 : Int32) (i3 : Int32) (M : zMem) : zX C mi_X12_who (zFin C zrvI ad T R) 0 0 (mf_X12_who_b139 R a0 H106 i2 i3 M) 139 [(0, .ref a0), (2, .int i2), (3, .int i3)] [] ad T R M := by
  unfold mf_X12_who_b139
  refine zx_iinc (v := 1) (ls' := [(3, .int (i3 + 1)), (0, .ref a0), (2, .int i2)]) (zd me_X12_who 86 rfl) (Nat.le_of_ble_eq_true rfl) 2 rfl (by decide) rfl ?_
  refine zx_goto (tgt := 106) (zd me_X12_who 87 rfl) (by decide) ?_
  refine zx_loc [1, 2, 0] rfl ?_
  exact hH106 i2 (i3 + 1) M
def mf_X12_who_l106 (R : zRR) (a0 : Nat) : Nat → Int32 → Int32 → zMem → Option (Int32 × zMem)
  | 0, _, _, _ => none
  | fuel + 1, i2, i3, M =>
    zald 354 (0 : Int32) fun j21 =>
    if (M.1 (zrf R a0 14) j21) ≤ i3 then
      (some (i2, M))
    else
      (zcl (mf_X12_leftBy R a0 i2 i3 M) fun r24 M23 =>
      zcl (mf_X12_leftBy R a0 i2 (M23.1 a0 35) M23) fun r26 M25 =>
      if r26 ≤ r24 then
        (mf_X12_who_b139 R a0 (mf_X12_who_l106 R a0 fuel) i2 i3 M25)
      else
        (zlet (zwI M25 a0 35 i3) fun M28 =>
        mf_X12_who_b139 R a0 (mf_X12_who_l106 R a0 fuel) i2 i3 M28))
theorem mt_X12_who_l106 {C : zCx} {ad : Nat → Nat} {T : zTT} {R : zRR} {a0 : Nat} (h0 : zi12 T R a0) : ∀ (fuel : Nat) (i2 : Int32) (i3 : Int32) (M : zMem), zX C mi_X12_who (zFin C zrvI ad T R) 0 0 (mf_X12_who_l106 R a0 fuel i2 i3 M) 106 [(0, .ref a0), (2, .int i2), (3, .int i3)] [] ad T R M := by
  intro fuel
  induction fuel with
  | zero => intros; exact zx_none
  | succ fuel ih =>
    intro i2 i3 M
    rw [mf_X12_who_l106]
    refine zx_iload_n (i := 3) (zd me_X12_who 67 rfl) rfl 2 rfl ?_
    refine zx_aload_n (i := 0) (zd me_X12_who 68 rfl) rfl 0 rfl ?_
    refine zx_getR (zd me_X12_who 69 rfl) fl_X12_98 (zi12_c h0) rfl (zi12_r14 h0) ?_
    refine zx_iconst (v := 0) (zd me_X12_who 70 rfl) (by decide) ?_
    refine zx_iald (zd me_X12_who 71 rfl) (zi12_t14 h0) (fun j21 hj21 => ?_)
    refine zx_icmp_ge (tgt := 145) (zd me_X12_who 72 rfl) (by decide) (fun c22 => ?_) (fun c22 => ?_)
    · refine zx_iload_n (i := 2) (zd me_X12_who 88 rfl) rfl 1 rfl ?_
      exact zx_iret (zd me_X12_who 89 rfl) rfl
    · refine zx_aload_n (i := 0) (zd me_X12_who 73 rfl) rfl 0 rfl ?_
      refine zx_iload_n (i := 2) (zd me_X12_who 74 rfl) rfl 1 rfl ?_
      refine zx_iload_n (i := 3) (zd me_X12_who 75 rfl) rfl 2 rfl ?_
      refine zx_callVI2 (zd me_X12_who 76 rfl) (mc_X12_leftBy (zl C) h0 i2 i3 M) lk_X12_362 ⟨(Nat.le_of_ble_eq_true rfl), (Nat.le_of_ble_eq_true rfl)⟩ (Nat.le_of_ble_eq_true rfl) (zi12_c h0) rfl (fun r24 M23 => ?_)
      refine zx_aload_n (i := 0) (zd me_X12_who 77 rfl) rfl 0 rfl ?_
      refine zx_iload_n (i := 2) (zd me_X12_who 78 rfl) rfl 1 rfl ?_
      refine zx_aload_n (i := 0) (zd me_X12_who 79 rfl) rfl 0 rfl ?_
      refine zx_getI (zd me_X12_who 80 rfl) fl_X12_151 (zi12_c h0) rfl ?_
      refine zx_callVI2 (zd me_X12_who 81 rfl) (mc_X12_leftBy (zl C) h0 i2 (M23.1 a0 35) M23) lk_X12_362 ⟨(Nat.le_of_ble_eq_true rfl), (Nat.le_of_ble_eq_true rfl)⟩ (Nat.le_of_ble_eq_true rfl) (zi12_c h0) rfl (fun r26 M25 => ?_)
      refine zx_icmp_ge (tgt := 139) (zd me_X12_who 82 rfl) (by decide) (fun c27 => ?_) (fun c27 => ?_)
      · exact mt_X12_who_b139 h0 ih i2 i3 M25
      · refine zx_aload_n (i := 0) (zd me_X12_who 83 rfl) rfl 0 rfl ?_
        refine zx_iload_n (i := 3) (zd me_X12_who 84 rfl) rfl 2 rfl ?_
        refine zx_putI (zd me_X12_who 85 rfl) fp_X12_151 (zi12_c h0) rfl (fun M28 _ => ?_)
        exact mt_X12_who_b139 h0 ih i2 i3 M28
def mf_X12_who_l62 (R : zRR) (a0 : Nat) : Nat → Int32 → Int32 → Int32 → zMem → Option (Int32 × zMem)
  | 0, _, _, _, _ => none
  | fuel + 1, i1, i2, i3, M =>
    zald 354 (2 : Int32) fun j13 =>
    if (M.1 (zrf R a0 14) j13) ≤ i3 then
      (if i2 = 0 then
        (some ((0 : Int32), M))
      else
        (zlet (zwI M a0 35 (0 : Int32)) fun M16 =>
        mf_X12_who_l106 R a0 zF i2 (1 : Int32) M16))
    else
      (zcl (mf_X12_isTold R a0 i3 i1 M) fun r18 M17 =>
      if r18 = 0 then
        (mf_X12_who_b87 R a0 (mf_X12_who_l62 R a0 fuel) i1 i2 i3 M17)
      else
        (zlet ((i2 ||| ((1 : Int32) <<< (i3 &&& 31))) : Int32) fun x20 =>
        mf_X12_who_b87 R a0 (mf_X12_who_l62 R a0 fuel) i1 x20 i3 M17))
theorem mt_X12_who_l62 {C : zCx} {ad : Nat → Nat} {T : zTT} {R : zRR} {a0 : Nat} (h0 : zi12 T R a0) : ∀ (fuel : Nat) (i1 : Int32) (i2 : Int32) (i3 : Int32) (M : zMem), zX C mi_X12_who (zFin C zrvI ad T R) 0 0 (mf_X12_who_l62 R a0 fuel i1 i2 i3 M) 62 [(0, .ref a0), (1, .int i1), (2, .int i2), (3, .int i3)] [] ad T R M := by
  intro fuel
  induction fuel with
  | zero => intros; exact zx_none
  | succ fuel ih =>
    intro i1 i2 i3 M
    rw [mf_X12_who_l62]
    refine zx_iload_n (i := 3) (zd me_X12_who 39 rfl) rfl 3 rfl ?_
    refine zx_aload_n (i := 0) (zd me_X12_who 40 rfl) rfl 0 rfl ?_
    refine zx_getR (zd me_X12_who 41 rfl) fl_X12_98 (zi12_c h0) rfl (zi12_r14 h0) ?_
    refine zx_iconst (v := 2) (zd me_X12_who 42 rfl) (by decide) ?_
    refine zx_iald (zd me_X12_who 43 rfl) (zi12_t14 h0) (fun j13 hj13 => ?_)
    refine zx_icmp_ge (tgt := 93) (zd me_X12_who 44 rfl) (by decide) (fun c14 => ?_) (fun c14 => ?_)
    · refine zx_iload_n (i := 2) (zd me_X12_who 58 rfl) rfl 2 rfl ?_
      refine zx_if_ne (tgt := 99) (zd me_X12_who 59 rfl) (by decide) (fun c15 => ?_) (fun c15 => ?_)
      · refine zx_aload_n (i := 0) (zd me_X12_who 62 rfl) rfl 0 rfl ?_
        refine zx_iconst (v := 0) (zd me_X12_who 63 rfl) (by decide) ?_
        refine zx_putI (zd me_X12_who 64 rfl) fp_X12_151 (zi12_c h0) rfl (fun M16 _ => ?_)
        refine zx_iconst (v := 1) (zd me_X12_who 65 rfl) (by decide) ?_
        refine zx_istore_n (i := 3) (ls' := [(3, .int (1 : Int32)), (0, .ref a0), (1, .int i1), (2, .int i2)]) (zd me_X12_who 66 rfl) rfl (Nat.le_of_ble_eq_true rfl) rfl ?_
        refine zx_loc [1, 3, 0] rfl ?_
        exact mt_X12_who_l106 h0 zF i2 (1 : Int32) M16
      · refine zx_iconst (v := 0) (zd me_X12_who 60 rfl) (by decide) ?_
        exact zx_iret (zd me_X12_who 61 rfl) rfl
    · refine zx_aload_n (i := 0) (zd me_X12_who 45 rfl) rfl 0 rfl ?_
      refine zx_iload_n (i := 3) (zd me_X12_who 46 rfl) rfl 3 rfl ?_
      refine zx_iload_n (i := 1) (zd me_X12_who 47 rfl) rfl 1 rfl ?_
      refine zx_callVI2 (zd me_X12_who 48 rfl) (mc_X12_isTold (zl C) h0 i3 i1 M) lk_X12_359 ⟨(Nat.le_of_ble_eq_true rfl), (Nat.le_of_ble_eq_true rfl)⟩ (Nat.le_of_ble_eq_true rfl) (zi12_c h0) rfl (fun r18 M17 => ?_)
      refine zx_if_eq (tgt := 87) (zd me_X12_who 49 rfl) (by decide) (fun c19 => ?_) (fun c19 => ?_)
      · exact mt_X12_who_b87 h0 ih i1 i2 i3 M17
      · refine zx_iload_n (i := 2) (zd me_X12_who 50 rfl) rfl 2 rfl ?_
        refine zx_iconst (v := 1) (zd me_X12_who 51 rfl) (by decide) ?_
        refine zx_iload_n (i := 3) (zd me_X12_who 52 rfl) rfl 3 rfl ?_
        refine zx_ishl (zd me_X12_who 53 rfl) ?_
        refine zx_ior (zd me_X12_who 54 rfl) ?_
        refine zx_leti (fun x20 => ?_)
        refine zx_istore_n (i := 2) (ls' := [(2, .int x20), (0, .ref a0), (1, .int i1), (3, .int i3)]) (zd me_X12_who 55 rfl) rfl (Nat.le_of_ble_eq_true rfl) rfl ?_
        refine zx_loc [1, 2, 0, 3] rfl ?_
        exact mt_X12_who_b87 h0 ih i1 x20 i3 M17
def mf_X12_who_l32 (R : zRR) (a0 : Nat) : Nat → Int32 → Int32 → zMem → Option (Int32 × zMem)
  | 0, _, _, _ => none
  | fuel + 1, i1, i2, M =>
    if i1 ≤ i2 then
      (mf_X12_who_l62 R a0 zF i1 (0 : Int32) (0 : Int32) M)
    else
      (zald 940 i2 fun j9 =>
      zcl (mf_X12_isBath R a0 (M.1 (zrf R a0 1) j9) M) fun r11 M10 =>
      if r11 = 0 then
        (some ((-1 : Int32), M10))
      else
        (mf_X12_who_l32 R a0 fuel i1 (i2 + 2) M10))
theorem mt_X12_who_l32 {C : zCx} {ad : Nat → Nat} {T : zTT} {R : zRR} {a0 : Nat} (h0 : zi12 T R a0) : ∀ (fuel : Nat) (i1 : Int32) (i2 : Int32) (M : zMem), zX C mi_X12_who (zFin C zrvI ad T R) 0 0 (mf_X12_who_l32 R a0 fuel i1 i2 M) 32 [(0, .ref a0), (1, .int i1), (2, .int i2)] [] ad T R M := by
  intro fuel
  induction fuel with
  | zero => intros; exact zx_none
  | succ fuel ih =>
    intro i1 i2 M
    rw [mf_X12_who_l32]
    refine zx_iload_n (i := 2) (zd me_X12_who 21 rfl) rfl 2 rfl ?_
    refine zx_iload_n (i := 1) (zd me_X12_who 22 rfl) rfl 1 rfl ?_
    refine zx_icmp_ge (tgt := 58) (zd me_X12_who 23 rfl) (by decide) (fun c8 => ?_) (fun c8 => ?_)
    · refine zx_iconst (v := 0) (zd me_X12_who 35 rfl) (by decide) ?_
      refine zx_istore_n (i := 2) (ls' := [(2, .int (0 : Int32)), (0, .ref a0), (1, .int i1)]) (zd me_X12_who 36 rfl) rfl (Nat.le_of_ble_eq_true rfl) rfl ?_
      refine zx_iconst (v := 0) (zd me_X12_who 37 rfl) (by decide) ?_
      refine zx_istore_n (i := 3) (ls' := [(3, .int (0 : Int32)), (2, .int (0 : Int32)), (0, .ref a0), (1, .int i1)]) (zd me_X12_who 38 rfl) rfl (Nat.le_of_ble_eq_true rfl) rfl ?_
      refine zx_loc [2, 3, 1, 0] rfl ?_
      exact mt_X12_who_l62 h0 zF i1 (0 : Int32) (0 : Int32) M
    · refine zx_aload_n (i := 0) (zd me_X12_who 24 rfl) rfl 0 rfl ?_
      refine zx_aload_n (i := 0) (zd me_X12_who 25 rfl) rfl 0 rfl ?_
      refine zx_getR (zd me_X12_who 26 rfl) fl_X12_7 (zi12_c h0) rfl (zi12_r1 h0) ?_
      refine zx_iload_n (i := 2) (zd me_X12_who 27 rfl) rfl 2 rfl ?_
      refine zx_iald (zd me_X12_who 28 rfl) (zi12_t1 h0) (fun j9 hj9 => ?_)
      refine zx_callVI1 (zd me_X12_who 29 rfl) (mc_X12_isBath (zl C) h0 (M.1 (zrf R a0 1) j9) M) lk_X12_249 ⟨(Nat.le_of_ble_eq_true rfl), (Nat.le_of_ble_eq_true rfl)⟩ (Nat.le_of_ble_eq_true rfl) (zi12_c h0) rfl (fun r11 M10 => ?_)
      refine zx_if_ne (tgt := 52) (zd me_X12_who 30 rfl) (by decide) (fun c12 => ?_) (fun c12 => ?_)
      · refine zx_iinc (v := 2) (ls' := [(2, .int (i2 + 2)), (0, .ref a0), (1, .int i1)]) (zd me_X12_who 33 rfl) (Nat.le_of_ble_eq_true rfl) 2 rfl (by decide) rfl ?_
        refine zx_goto (tgt := 32) (zd me_X12_who 34 rfl) (by decide) ?_
        refine zx_loc [1, 2, 0] rfl ?_
        exact ih i1 (i2 + 2) M10
      · refine zx_iconst (v := (-1)) (zd me_X12_who 31 rfl) (by decide) ?_
        exact zx_iret (zd me_X12_who 32 rfl) rfl
def mf_X12_who (R : zRR) (a0 : Nat) (M : zMem) : Option (Int32 × zMem) :=
  zlet (zwI M a0 0 (0 : Int32)) fun M1 =>
  zcl (mf_X12_take R a0 M1) fun r3 M2 =>
  if (r3 - r3 / (2 : Int32) * (2 : Int32)) = 0 then
    (zcl (mf_X12_isIn R (r3 / (2 : Int32)) (1 : Int32) (6 : Int32) M2) fun r6 M5 =>
    if r6 = 0 then
      (some ((-1 : Int32), M5))
    else
      (mf_X12_who_l32 R a0 zF r3 (0 : Int32) M5))
  else
    (some ((-1 : Int32), M2))
theorem mc_X12_who (l : Launch) {T : zTT} {R : zRR} {a0 : Nat} (h0 : zi12 T R a0) (M : zMem) : zMS l yX12_who mi_X12_who zrvI (mf_X12_who R a0 M) [.ref a0] T R M := by
  refine zMS.of (by decide +kernel) rfl ⟨rfl, rfl⟩ (Nat.le_of_ble_eq_true rfl) (fun C ad _ => ?_)
  show zX C mi_X12_who (zFin C zrvI ad T R) 0 0 (mf_X12_who R a0 M) 0 [(0, .ref a0)] [] ad T R M
  unfold mf_X12_who
  refine zx_aload_n (i := 0) (zd me_X12_who 0 rfl) rfl 0 rfl ?_
  refine zx_iconst (v := 0) (zd me_X12_who 1 rfl) (by decide) ?_
  refine zx_putI (zd me_X12_who 2 rfl) fp_X12_1 (zi12_c h0) rfl (fun M1 _ => ?_)
  refine zx_aload_n (i := 0) (zd me_X12_who 3 rfl) rfl 0 rfl ?_
  refine zx_callVI0 (zd me_X12_who 4 rfl) (mc_X12_take (zl C) h0 M1) lk_X12_89 ⟨(Nat.le_of_ble_eq_true rfl), (Nat.le_of_ble_eq_true rfl)⟩ (Nat.le_of_ble_eq_true rfl) (zi12_c h0) rfl (fun r3 M2 => ?_)
  refine zx_istore_n (i := 1) (ls' := [(1, .int r3), (0, .ref a0)]) (zd me_X12_who 5 rfl) rfl (Nat.le_of_ble_eq_true rfl) rfl ?_
  refine zx_iload_n (i := 1) (zd me_X12_who 6 rfl) rfl 0 rfl ?_
  refine zx_iconst (v := 2) (zd me_X12_who 7 rfl) (by decide) ?_
  refine zx_iremN (zd me_X12_who 8 rfl) (by decide) ?_
  refine zx_if_ne (tgt := 28) (zd me_X12_who 9 rfl) (by decide) (fun c4 => ?_) (fun c4 => ?_)
  · refine zx_iconst (v := (-1)) (zd me_X12_who 17 rfl) (by decide) ?_
    exact zx_iret (zd me_X12_who 18 rfl) rfl
  · refine zx_iload_n (i := 1) (zd me_X12_who 10 rfl) rfl 0 rfl ?_
    refine zx_iconst (v := 2) (zd me_X12_who 11 rfl) (by decide) ?_
    refine zx_idivN (zd me_X12_who 12 rfl) (by decide) ?_
    refine zx_iconst (v := 1) (zd me_X12_who 13 rfl) (by decide) ?_
    refine zx_bipush (v := 6) (zd me_X12_who 14 rfl) (by decide) ?_
    refine zx_callSI3 (zd me_X12_who 15 rfl) (mc_X12_isIn (zl C) (r3 / (2 : Int32)) (1 : Int32) (6 : Int32) M2) lk_X12_75 ⟨(Nat.le_of_ble_eq_true rfl), (Nat.le_of_ble_eq_true rfl)⟩ (Nat.le_of_ble_eq_true rfl) (fun r6 M5 => ?_)
    refine zx_if_ne (tgt := 30) (zd me_X12_who 16 rfl) (by decide) (fun c7 => ?_) (fun c7 => ?_)
    · refine zx_iconst (v := 0) (zd me_X12_who 19 rfl) (by decide) ?_
      refine zx_istore_n (i := 2) (ls' := [(2, .int (0 : Int32)), (1, .int r3), (0, .ref a0)]) (zd me_X12_who 20 rfl) rfl (Nat.le_of_ble_eq_true rfl) rfl ?_
      refine zx_loc [2, 1, 0] rfl ?_
      exact mt_X12_who_l32 h0 zF r3 (0 : Int32) M5
    · refine zx_iconst (v := (-1)) (zd me_X12_who 17 rfl) (by decide) ?_
      exact zx_iret (zd me_X12_who 18 rfl) rfl
