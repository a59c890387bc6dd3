def mf_X12_goBy (R : zRR) (a0 : Nat) (i1 : Int32) (M : zMem) : Option (Int32 × zMem) :=
  zald 80 i1 fun j1 =>
  zlet ((M.1 (zrf R a0 43) j1) : Int32) fun x2 =>
  zald 80 (i1 + (1 : Int32)) fun j3 =>
  zlet ((M.1 (zrf R a0 43) j3) : Int32) fun x4 =>
  if x2 = (4 : Int32) then
    (zald 354 (56 : Int32) fun j11 =>
    if ((M.1 (zrf R a0 14) j11) + x4) ≤ (1000 : Int32) then
      (zcl (mf_X12_passMinutes R a0 x4 M) fun r14 M13 =>
      some ((0 : Int32), M13))
    else
      (some ((41 : Int32), M)))
  else
    (zcl (mf_X12_why R a0 x2 x4 M) fun r7 M6 =>
    if r7 = 0 then
      (zcl (mf_X12_live R a0 x2 x4 M6) fun _ M9 =>
      some ((0 : Int32), M9))
    else
      (some ((((10 : Int32) * x2) + r7), M6)))
theorem mc_X12_goBy (l : Launch) {T : zTT} {R : zRR} {a0 : Nat} (h0 : zi12 T R a0) (i1 : Int32) (M : zMem) : zMS l yX12_goBy mi_X12_goBy zrvI (mf_X12_goBy R a0 i1 M) [.ref a0, .int i1] T R M := by
  refine zMS.of (by decide +kernel) rfl ⟨rfl, rfl⟩ (Nat.le_of_ble_eq_true rfl) (fun C ad _ => ?_)
  show zX C mi_X12_goBy (zFin C zrvI ad T R) 0 0 (mf_X12_goBy R a0 i1 M) 0 [(0, .ref a0), (1, .int i1)] [] ad T R M
  unfold mf_X12_goBy
  refine zx_aload_n (i := 0) (zd me_X12_goBy 0 rfl) rfl 0 rfl ?_
  refine zx_getR (zd me_X12_goBy 1 rfl) fl_X12_163 (zi12_c h0) rfl (zi12_r43 h0) ?_
  refine zx_iload_n (i := 1) (zd me_X12_goBy 2 rfl) rfl 1 rfl ?_
  refine zx_iald (zd me_X12_goBy 3 rfl) (zi12_t43 h0) (fun j1 hj1 => ?_)
  refine zx_leti (fun x2 => ?_)
  refine zx_istore_n (i := 2) (ls' := [(2, .int x2), (0, .ref a0), (1, .int i1)]) (zd me_X12_goBy 4 rfl) rfl (Nat.le_of_ble_eq_true rfl) rfl ?_
  refine zx_aload_n (i := 0) (zd me_X12_goBy 5 rfl) rfl 1 rfl ?_
  refine zx_getR (zd me_X12_goBy 6 rfl) fl_X12_163 (zi12_c h0) rfl (zi12_r43 h0) ?_
  refine zx_iload_n (i := 1) (zd me_X12_goBy 7 rfl) rfl 2 rfl ?_
  refine zx_iconst (v := 1) (zd me_X12_goBy 8 rfl) (by decide) ?_
  refine zx_iadd (zd me_X12_goBy 9 rfl) ?_
  refine zx_iald (zd me_X12_goBy 10 rfl) (zi12_t43 h0) (fun j3 hj3 => ?_)
  refine zx_leti (fun x4 => ?_)
  refine zx_istore_n (i := 3) (ls' := [(3, .int x4), (2, .int x2), (0, .ref a0), (1, .int i1)]) (zd me_X12_goBy 11 rfl) rfl (Nat.le_of_ble_eq_true rfl) rfl ?_
  refine zx_iload_n (i := 2) (zd me_X12_goBy 12 rfl) rfl 1 rfl ?_
  refine zx_iconst (v := 4) (zd me_X12_goBy 13 rfl) (by decide) ?_
  refine zx_icmp_ne (tgt := 47) (zd me_X12_goBy 14 rfl) (by decide) (fun c5 => ?_) (fun c5 => ?_)
  · refine zx_aload_n (i := 0) (zd me_X12_goBy 31 rfl) rfl 2 rfl ?_
    refine zx_iload_n (i := 2) (zd me_X12_goBy 32 rfl) rfl 1 rfl ?_
    refine zx_iload_n (i := 3) (zd me_X12_goBy 33 rfl) rfl 0 rfl ?_
    refine zx_callVI2 (zd me_X12_goBy 34 rfl) (mc_X12_why (zl C) h0 x2 x4 M) lk_X12_296 ⟨(Nat.le_of_ble_eq_true rfl), (Nat.le_of_ble_eq_true rfl)⟩ (Nat.le_of_ble_eq_true rfl) (zi12_c h0) rfl (fun r7 M6 => ?_)
    refine zx_istore (ls' := [(4, .int r7), (3, .int x4), (2, .int x2), (0, .ref a0), (1, .int i1)]) (zd me_X12_goBy 35 rfl) (Nat.le_of_ble_eq_true rfl) rfl ?_
    refine zx_iload (zd me_X12_goBy 36 rfl) 0 rfl ?_
    refine zx_if_eq (tgt := 68) (zd me_X12_goBy 37 rfl) (by decide) (fun c8 => ?_) (fun c8 => ?_)
    · refine zx_aload_n (i := 0) (zd me_X12_goBy 44 rfl) rfl 3 rfl ?_
      refine zx_iload_n (i := 2) (zd me_X12_goBy 45 rfl) rfl 2 rfl ?_
      refine zx_iload_n (i := 3) (zd me_X12_goBy 46 rfl) rfl 1 rfl ?_
      refine zx_callVV2 (zd me_X12_goBy 47 rfl) (mc_X12_live (zl C) h0 x2 x4 M6) lk_X12_302 ⟨(Nat.le_of_ble_eq_true rfl), (Nat.le_of_ble_eq_true rfl)⟩ (Nat.le_of_ble_eq_true rfl) (zi12_c h0) rfl (fun r10 M9 => ?_)
      refine zx_iconst (v := 0) (zd me_X12_goBy 48 rfl) (by decide) ?_
      exact zx_iret (zd me_X12_goBy 49 rfl) rfl
    · refine zx_bipush (v := 10) (zd me_X12_goBy 38 rfl) (by decide) ?_
      refine zx_iload_n (i := 2) (zd me_X12_goBy 39 rfl) rfl 2 rfl ?_
      refine zx_imul (zd me_X12_goBy 40 rfl) ?_
      refine zx_iload (zd me_X12_goBy 41 rfl) 0 rfl ?_
      refine zx_iadd (zd me_X12_goBy 42 rfl) ?_
      exact zx_iret (zd me_X12_goBy 43 rfl) rfl
  · refine zx_aload_n (i := 0) (zd me_X12_goBy 15 rfl) rfl 2 rfl ?_
    refine zx_getR (zd me_X12_goBy 16 rfl) fl_X12_98 (zi12_c h0) rfl (zi12_r14 h0) ?_
    refine zx_bipush (v := 56) (zd me_X12_goBy 17 rfl) (by decide) ?_
    refine zx_iald (zd me_X12_goBy 18 rfl) (zi12_t14 h0) (fun j11 hj11 => ?_)
    refine zx_iload_n (i := 3) (zd me_X12_goBy 19 rfl) rfl 0 rfl ?_
    refine zx_iadd (zd me_X12_goBy 20 rfl) ?_
    refine zx_sipush (v := 1000) (zd me_X12_goBy 21 rfl) (by decide) ?_
    refine zx_icmp_le (tgt := 39) (zd me_X12_goBy 22 rfl) (by decide) (fun c12 => ?_) (fun c12 => ?_)
    · refine zx_aload_n (i := 0) (zd me_X12_goBy 25 rfl) rfl 2 rfl ?_
      refine zx_iload_n (i := 3) (zd me_X12_goBy 26 rfl) rfl 0 rfl ?_
      refine zx_callVI1 (zd me_X12_goBy 27 rfl) (mc_X12_passMinutes (zl C) h0 x4 M) lk_X12_324 ⟨(Nat.le_of_ble_eq_true rfl), (Nat.le_of_ble_eq_true rfl)⟩ (Nat.le_of_ble_eq_true rfl) (zi12_c h0) rfl (fun r14 M13 => ?_)
      refine zx_pop (zd me_X12_goBy 28 rfl) rfl ?_
      refine zx_iconst (v := 0) (zd me_X12_goBy 29 rfl) (by decide) ?_
      exact zx_iret (zd me_X12_goBy 30 rfl) rfl
    · refine zx_bipush (v := 41) (zd me_X12_goBy 23 rfl) (by decide) ?_
      exact zx_iret (zd me_X12_goBy 24 rfl) rfl
def mf_X12_stay (R : zRR) (a0 : Nat) (i1 : Int32) (M : zMem) : Option (Unit × zMem) :=
  zcl (mf_X12_save R a0 (zrf R a0 18) 56 (0 : Int32) M) fun _ M1 =>
  zcl (mf_X12_comeBack R a0 (zrf R a0 20) 56 (0 : Int32) M1) fun _ M3 =>
  if i1 = 0 then
    (some ((), M3))
  else
    (zcl (mf_X12_snap R a0 M3) fun _ M6 =>
    zcl (mf_X12_comeBack R a0 (zrf R a0 18) 56 (0 : Int32) M6) fun _ M8 =>
    some ((), M8))
theorem mc_X12_stay (l : Launch) {T : zTT} {R : zRR} {a0 : Nat} (h0 : zi12 T R a0) (i1 : Int32) (M : zMem) : zMS l yX12_stay mi_X12_stay zrvV (mf_X12_stay R a0 i1 M) [.ref a0, .int i1] T R M := by
  refine zMS.of (by decide +kernel) rfl ⟨rfl, rfl⟩ (Nat.le_of_ble_eq_true rfl) (fun C ad _ => ?_)
  show zX C mi_X12_stay (zFin C zrvV ad T R) 0 0 (mf_X12_stay R a0 i1 M) 0 [(0, .ref a0), (1, .int i1)] [] ad T R M
  unfold mf_X12_stay
  refine zx_aload_n (i := 0) (zd me_X12_stay 0 rfl) rfl 0 rfl ?_
  refine zx_aload_n (i := 0) (zd me_X12_stay 1 rfl) rfl 0 rfl ?_
  refine zx_getR (zd me_X12_stay 2 rfl) fl_X12_110 (zi12_c h0) rfl (zi12_r18 h0) ?_
  refine zx_iconst (v := 0) (zd me_X12_stay 3 rfl) (by decide) ?_
  refine zx_callVV2 (zd me_X12_stay 4 rfl) (mc_X12_save (zl C) h0 (zi12_t18 h0) (0 : Int32) M) lk_X12_273 ⟨(Nat.le_of_ble_eq_true rfl), (Nat.le_of_ble_eq_true rfl)⟩ (Nat.le_of_ble_eq_true rfl) (zi12_c h0) rfl (fun r2 M1 => ?_)
  refine zx_aload_n (i := 0) (zd me_X12_stay 5 rfl) rfl 0 rfl ?_
  refine zx_aload_n (i := 0) (zd me_X12_stay 6 rfl) rfl 0 rfl ?_
  refine zx_getR (zd me_X12_stay 7 rfl) fl_X12_116 (zi12_c h0) rfl (zi12_r20 h0) ?_
  refine zx_iconst (v := 0) (zd me_X12_stay 8 rfl) (by decide) ?_
  refine zx_callVV2 (zd me_X12_stay 9 rfl) (mc_X12_comeBack (zl C) h0 (zi12_t20 h0) (0 : Int32) M1) lk_X12_309 ⟨(Nat.le_of_ble_eq_true rfl), (Nat.le_of_ble_eq_true rfl)⟩ (Nat.le_of_ble_eq_true rfl) (zi12_c h0) rfl (fun r4 M3 => ?_)
  refine zx_iload_n (i := 1) (zd me_X12_stay 10 rfl) rfl 1 rfl ?_
  refine zx_if_ne (tgt := 23) (zd me_X12_stay 11 rfl) (by decide) (fun c5 => ?_) (fun c5 => ?_)
  · refine zx_aload_n (i := 0) (zd me_X12_stay 13 rfl) rfl 0 rfl ?_
    refine zx_callVV0 (zd me_X12_stay 14 rfl) (mc_X12_snap (zl C) h0 M3) lk_X12_299 ⟨(Nat.le_of_ble_eq_true rfl), (Nat.le_of_ble_eq_true rfl)⟩ (Nat.le_of_ble_eq_true rfl) (zi12_c h0) rfl (fun r7 M6 => ?_)
    refine zx_aload_n (i := 0) (zd me_X12_stay 15 rfl) rfl 0 rfl ?_
    refine zx_aload_n (i := 0) (zd me_X12_stay 16 rfl) rfl 0 rfl ?_
    refine zx_getR (zd me_X12_stay 17 rfl) fl_X12_110 (zi12_c h0) rfl (zi12_r18 h0) ?_
    refine zx_iconst (v := 0) (zd me_X12_stay 18 rfl) (by decide) ?_
    refine zx_callVV2 (zd me_X12_stay 19 rfl) (mc_X12_comeBack (zl C) h0 (zi12_t18 h0) (0 : Int32) M6) lk_X12_309 ⟨(Nat.le_of_ble_eq_true rfl), (Nat.le_of_ble_eq_true rfl)⟩ (Nat.le_of_ble_eq_true rfl) (zi12_c h0) rfl (fun r9 M8 => ?_)
    exact zx_vret (zd me_X12_stay 20 rfl) rfl
  · exact zx_vret (zd me_X12_stay 12 rfl) rfl
def mf_X12_book_b166 (R : zRR) (a0 : Nat) (i2 : Int32) (i3 : Int32) (s0 : Int32) (M : zMem) : Option (Int32 × zMem) :=
  zcl (mf_X12_stay R a0 s0 M) fun _ M34 =>
  if i3 = 0 then
    (some ((-1 : Int32), M34))
  else
    (some (i2, M34))
theorem mt_X12_book_b166 {C : zCx} {ad : Nat → Nat} {T : zTT} {R : zRR} {a0 : Nat} (h0 : zi12 T R a0) (i2 : Int32) (i3 : Int32) (s0 : Int32) (M : zMem) : zX C mi_X12_book (zFin C zrvI ad T R) 0 0 (mf_X12_book_b166 R a0 i2 i3 s0 M) 166 [(2, .int i2), (3, .int i3)] [.int s0, .ref a0] ad T R M := by
  unfold mf_X12_book_b166
  refine zx_callVV1 (zd me_X12_book 96 rfl) (mc_X12_stay (zl C) h0 s0 M) lk_X12_446 ⟨(Nat.le_of_ble_eq_true rfl), (Nat.le_of_ble_eq_true rfl)⟩ (Nat.le_of_ble_eq_true rfl) (zi12_c h0) rfl (fun r35 M34 => ?_)
  refine zx_iload_n (i := 3) (zd me_X12_book 97 rfl) rfl 1 rfl ?_
  refine zx_if_ne (tgt := 177) (zd me_X12_book 98 rfl) (by decide) (fun c36 => ?_) (fun c36 => ?_)
  · refine zx_iload_n (i := 2) (zd me_X12_book 101 rfl) rfl 0 rfl ?_
    exact zx_iret (zd me_X12_book 102 rfl) rfl
  · refine zx_iconst (v := (-1)) (zd me_X12_book 99 rfl) (by decide) ?_
    refine zx_goto (tgt := 178) (zd me_X12_book 100 rfl) (by decide) ?_
    exact zx_iret (zd me_X12_book 102 rfl) rfl
def mf_X12_book_b165 (R : zRR) (a0 : Nat) (i2 : Int32) (i3 : Int32) (M : zMem) : Option (Int32 × zMem) :=
  mf_X12_book_b166 R a0 i2 i3 (0 : Int32) M
theorem mt_X12_book_b165 {C : zCx} {ad : Nat → Nat} {T : zTT} {R : zRR} {a0 : Nat} (h0 : zi12 T R a0) (i2 : Int32) (i3 : Int32) (M : zMem) : zX C mi_X12_book (zFin C zrvI ad T R) 0 0 (mf_X12_book_b165 R a0 i2 i3 M) 165 [(2, .int i2), (3, .int i3)] [.ref a0] ad T R M := by
  unfold mf_X12_book_b165
  refine zx_iconst (v := 0) (zd me_X12_book 95 rfl) (by decide) ?_
  exact mt_X12_book_b166 h0 i2 i3 (0 : Int32) M
def mf_X12_book_b108 (R : zRR) (a0 : Nat) (i1 : Int32) (i2 : Int32) (i3 : Int32) (M : zMem) : Option (Int32 × zMem) :=
  zald 4 (0 : Int32) fun j20 =>
  zlet (zwI M (zrf R a0 44) j20 i3) fun M21 =>
  zald 4 (1 : Int32) fun j22 =>
  zlet (zwI M21 (zrf R a0 44) j22 i2) fun M23 =>
  zald 354 (56 : Int32) fun j24 =>
  zald 4 (2 : Int32) fun j25 =>
  zlet (zwI M23 (zrf R a0 44) j25 (M23.1 (zrf R a0 14) j24)) fun M26 =>
  zcl (mf_X12_those R a0 (2 : Int32) M26) fun r28 M27 =>
  zald 4 (3 : Int32) fun j29 =>
  zlet (zwI M27 (zrf R a0 44) j29 r28) fun M30 =>
  zlet (zwI M30 a0 46 (1 : Int32)) fun M31 =>
  if i1 = (1 : Int32) then
    (if i2 ≤ 0 then
      (mf_X12_book_b165 R a0 i2 i3 M31)
    else
      (mf_X12_book_b166 R a0 i2 i3 (1 : Int32) M31))
  else
    (mf_X12_book_b165 R a0 i2 i3 M31)
theorem mt_X12_book_b108 {C : zCx} {ad : Nat → Nat} {T : zTT} {R : zRR} {a0 : Nat} (h0 : zi12 T R a0) (i1 : Int32) (i2 : Int32) (i3 : Int32) (M : zMem) : zX C mi_X12_book (zFin C zrvI ad T R) 0 0 (mf_X12_book_b108 R a0 i1 i2 i3 M) 108 [(0, .ref a0), (1, .int i1), (2, .int i2), (3, .int i3)] [] ad T R M := by
  unfold mf_X12_book_b108
  refine zx_aload_n (i := 0) (zd me_X12_book 59 rfl) rfl 0 rfl ?_
  refine zx_getR (zd me_X12_book 60 rfl) fl_X12_166 (zi12_c h0) rfl (zi12_r44 h0) ?_
  refine zx_iconst (v := 0) (zd me_X12_book 61 rfl) (by decide) ?_
  refine zx_iload_n (i := 3) (zd me_X12_book 62 rfl) rfl 3 rfl ?_
  refine zx_iast (zd me_X12_book 63 rfl) (zi12_t44 h0) (fun M21 => ?_)
  refine zx_aload_n (i := 0) (zd me_X12_book 64 rfl) rfl 0 rfl ?_
  refine zx_getR (zd me_X12_book 65 rfl) fl_X12_166 (zi12_c h0) rfl (zi12_r44 h0) ?_
  refine zx_iconst (v := 1) (zd me_X12_book 66 rfl) (by decide) ?_
  refine zx_iload_n (i := 2) (zd me_X12_book 67 rfl) rfl 2 rfl ?_
  refine zx_iast (zd me_X12_book 68 rfl) (zi12_t44 h0) (fun M23 => ?_)
  refine zx_aload_n (i := 0) (zd me_X12_book 69 rfl) rfl 0 rfl ?_
  refine zx_getR (zd me_X12_book 70 rfl) fl_X12_166 (zi12_c h0) rfl (zi12_r44 h0) ?_
  refine zx_iconst (v := 2) (zd me_X12_book 71 rfl) (by decide) ?_
  refine zx_aload_n (i := 0) (zd me_X12_book 72 rfl) rfl 0 rfl ?_
  refine zx_getR (zd me_X12_book 73 rfl) fl_X12_98 (zi12_c h0) rfl (zi12_r14 h0) ?_
  refine zx_bipush (v := 56) (zd me_X12_book 74 rfl) (by decide) ?_
  refine zx_iald (zd me_X12_book 75 rfl) (zi12_t14 h0) (fun j24 hj24 => ?_)
  refine zx_iast (zd me_X12_book 76 rfl) (zi12_t44 h0) (fun M26 => ?_)
  refine zx_aload_n (i := 0) (zd me_X12_book 77 rfl) rfl 0 rfl ?_
  refine zx_getR (zd me_X12_book 78 rfl) fl_X12_166 (zi12_c h0) rfl (zi12_r44 h0) ?_
  refine zx_iconst (v := 3) (zd me_X12_book 79 rfl) (by decide) ?_
  refine zx_aload_n (i := 0) (zd me_X12_book 80 rfl) rfl 0 rfl ?_
  refine zx_iconst (v := 2) (zd me_X12_book 81 rfl) (by decide) ?_
  refine zx_callVI1 (zd me_X12_book 82 rfl) (mc_X12_those (zl C) h0 (2 : Int32) M26) lk_X12_267 ⟨(Nat.le_of_ble_eq_true rfl), (Nat.le_of_ble_eq_true rfl)⟩ (Nat.le_of_ble_eq_true rfl) (zi12_c h0) rfl (fun r28 M27 => ?_)
  refine zx_iast (zd me_X12_book 83 rfl) (zi12_t44 h0) (fun M30 => ?_)
  refine zx_aload_n (i := 0) (zd me_X12_book 84 rfl) rfl 0 rfl ?_
  refine zx_iconst (v := 1) (zd me_X12_book 85 rfl) (by decide) ?_
  refine zx_putZ (zd me_X12_book 86 rfl) fp_X12_442 (zi12_c h0) rfl (Or.inr rfl) (fun M31 _ => ?_)
  refine zx_aload_n (i := 0) (zd me_X12_book 87 rfl) rfl 0 rfl ?_
  refine zx_iload_n (i := 1) (zd me_X12_book 88 rfl) rfl 1 rfl ?_
  refine zx_iconst (v := 1) (zd me_X12_book 89 rfl) (by decide) ?_
  refine zx_icmp_ne (tgt := 165) (zd me_X12_book 90 rfl) (by decide) (fun c32 => ?_) (fun c32 => ?_)
  · refine zx_loc [2, 3] rfl ?_
    exact mt_X12_book_b165 h0 i2 i3 M31
  · refine zx_iload_n (i := 2) (zd me_X12_book 91 rfl) rfl 2 rfl ?_
    refine zx_if_le (tgt := 165) (zd me_X12_book 92 rfl) (by decide) (fun c33 => ?_) (fun c33 => ?_)
    · refine zx_loc [2, 3] rfl ?_
      exact mt_X12_book_b165 h0 i2 i3 M31
    · refine zx_iconst (v := 1) (zd me_X12_book 93 rfl) (by decide) ?_
      refine zx_goto (tgt := 166) (zd me_X12_book 94 rfl) (by decide) ?_
      refine zx_loc [2, 3] rfl ?_
      exact mt_X12_book_b166 h0 i2 i3 (1 : Int32) M31
def mf_X12_book_l78 (R : zRR) (a0 : Nat) : Nat → Int32 → Int32 → Int32 → zMem → Option (Int32 × zMem)
  | 0, _, _, _, _ => none
  | fuel + 1, i1, i2, i3, M =>
    if (M.1 a0 45) ≤ i2 then
      (mf_X12_book_b108 R a0 i1 i2 i3 M)
    else
      (if i3 = 0 then
        (zcl (mf_X12_goBy R a0 ((2 : Int32) * i2) M) fun r18 M17 =>
        if r18 = 0 then
          (mf_X12_book_l78 R a0 fuel i1 (i2 + 1) r18 M17)
        else
          (mf_X12_book_l78 R a0 fuel i1 i2 r18 M17))
      else
        (mf_X12_book_b108 R a0 i1 i2 i3 M))
theorem mt_X12_book_l78 {C : zCx} {ad : Nat → Nat} {T : zTT} {R : zRR} {a0 : Nat} (h0 : zi12 T R a0) : ∀ (fuel : Nat) (i1 : Int32) (i2 : Int32) (i3 : Int32) (M : zMem), zX C mi_X12_book (zFin C zrvI ad T R) 0 0 (mf_X12_book_l78 R a0 fuel i1 i2 i3 M) 78 [(0, .ref a0), (1, .int i1), (2, .int i2), (3, .int i3)] [] ad T R M := by
  intro fuel
  induction fuel with
  | zero => intros; exact zx_none
  | succ fuel ih =>
    intro i1 i2 i3 M
    rw [mf_X12_book_l78]
    refine zx_iload_n (i := 2) (zd me_X12_book 43 rfl) rfl 2 rfl ?_
    refine zx_aload_n (i := 0) (zd me_X12_book 44 rfl) rfl 0 rfl ?_
    refine zx_getI (zd me_X12_book 45 rfl) fl_X12_427 (zi12_c h0) rfl ?_
    refine zx_icmp_ge (tgt := 108) (zd me_X12_book 46 rfl) (by decide) (fun c15 => ?_) (fun c15 => ?_)
    · exact mt_X12_book_b108 h0 i1 i2 i3 M
    · refine zx_iload_n (i := 3) (zd me_X12_book 47 rfl) rfl 3 rfl ?_
      refine zx_if_ne (tgt := 108) (zd me_X12_book 48 rfl) (by decide) (fun c16 => ?_) (fun c16 => ?_)
      · exact mt_X12_book_b108 h0 i1 i2 i3 M
      · refine zx_aload_n (i := 0) (zd me_X12_book 49 rfl) rfl 0 rfl ?_
        refine zx_iconst (v := 2) (zd me_X12_book 50 rfl) (by decide) ?_
        refine zx_iload_n (i := 2) (zd me_X12_book 51 rfl) rfl 2 rfl ?_
        refine zx_imul (zd me_X12_book 52 rfl) ?_
        refine zx_callVI1 (zd me_X12_book 53 rfl) (mc_X12_goBy (zl C) h0 ((2 : Int32) * i2) M) lk_X12_439 ⟨(Nat.le_of_ble_eq_true rfl), (Nat.le_of_ble_eq_true rfl)⟩ (Nat.le_of_ble_eq_true rfl) (zi12_c h0) rfl (fun r18 M17 => ?_)
        refine zx_istore_n (i := 3) (ls' := [(3, .int r18), (0, .ref a0), (1, .int i1), (2, .int i2)]) (zd me_X12_book 54 rfl) rfl (Nat.le_of_ble_eq_true rfl) rfl ?_
        refine zx_iload_n (i := 3) (zd me_X12_book 55 rfl) rfl 0 rfl ?_
        refine zx_if_ne (tgt := 78) (zd me_X12_book 56 rfl) (by decide) (fun c19 => ?_) (fun c19 => ?_)
        · refine zx_loc [1, 2, 3, 0] rfl ?_
          exact ih i1 i2 r18 M17
        · refine zx_iinc (v := 1) (ls' := [(2, .int (i2 + 1)), (3, .int r18), (0, .ref a0), (1, .int i1)]) (zd me_X12_book 57 rfl) (Nat.le_of_ble_eq_true rfl) 3 rfl (by decide) rfl ?_
          refine zx_goto (tgt := 78) (zd me_X12_book 58 rfl) (by decide) ?_
          refine zx_loc [2, 3, 0, 1] rfl ?_
          exact ih i1 (i2 + 1) r18 M17
def mf_X12_book_l30 (R : zRR) (a0 : Nat) : Nat → Int32 → zMem → Option (Int32 × zMem)
  | 0, _, _ => none
  | fuel + 1, i1, M =>
    if (M.1 a0 7) = 0 then
      (zcl (mf_X12_save R a0 (zrf R a0 20) 56 (0 : Int32) M) fun _ M9 =>
      mf_X12_book_l78 R a0 zF i1 (0 : Int32) (0 : Int32) M9)
    else
      (zcl (mf_X12_readBookLine R a0 M) fun r12 M11 =>
      if r12 = 0 then
        (some (((-2 : Int32) - (M11.1 a0 11)), M11))
      else
        (zlet (zwI M11 a0 45 ((M11.1 a0 45) + (1 : Int32))) fun M14 =>
        mf_X12_book_l30 R a0 fuel i1 M14))
theorem mt_X12_book_l30 {C : zCx} {ad : Nat → Nat} {T : zTT} {R : zRR} {a0 : Nat} (h0 : zi12 T R a0) : ∀ (fuel : Nat) (i1 : Int32) (M : zMem), zX C mi_X12_book (zFin C zrvI ad T R) 0 0 (mf_X12_book_l30 R a0 fuel i1 M) 30 [(0, .ref a0), (1, .int i1)] [] ad T R M := by
  intro fuel
  induction fuel with
  | zero => intros; exact zx_none
  | succ fuel ih =>
    intro i1 M
    rw [mf_X12_book_l30]
    refine zx_aload_n (i := 0) (zd me_X12_book 16 rfl) rfl 0 rfl ?_
    refine zx_getI (zd me_X12_book 17 rfl) fl_X12_30 (zi12_c h0) rfl ?_
    refine zx_if_eq (tgt := 65) (zd me_X12_book 18 rfl) (by decide) (fun c8 => ?_) (fun c8 => ?_)
    · refine zx_aload_n (i := 0) (zd me_X12_book 34 rfl) rfl 0 rfl ?_
      refine zx_aload_n (i := 0) (zd me_X12_book 35 rfl) rfl 0 rfl ?_
      refine zx_getR (zd me_X12_book 36 rfl) fl_X12_116 (zi12_c h0) rfl (zi12_r20 h0) ?_
      refine zx_iconst (v := 0) (zd me_X12_book 37 rfl) (by decide) ?_
      refine zx_callVV2 (zd me_X12_book 38 rfl) (mc_X12_save (zl C) h0 (zi12_t20 h0) (0 : Int32) M) lk_X12_273 ⟨(Nat.le_of_ble_eq_true rfl), (Nat.le_of_ble_eq_true rfl)⟩ (Nat.le_of_ble_eq_true rfl) (zi12_c h0) rfl (fun r10 M9 => ?_)
      refine zx_iconst (v := 0) (zd me_X12_book 39 rfl) (by decide) ?_
      refine zx_istore_n (i := 2) (ls' := [(2, .int (0 : Int32)), (0, .ref a0), (1, .int i1)]) (zd me_X12_book 40 rfl) rfl (Nat.le_of_ble_eq_true rfl) rfl ?_
      refine zx_iconst (v := 0) (zd me_X12_book 41 rfl) (by decide) ?_
      refine zx_istore_n (i := 3) (ls' := [(3, .int (0 : Int32)), (2, .int (0 : Int32)), (0, .ref a0), (1, .int i1)]) (zd me_X12_book 42 rfl) rfl (Nat.le_of_ble_eq_true rfl) rfl ?_
      refine zx_loc [2, 3, 1, 0] rfl ?_
      exact mt_X12_book_l78 h0 zF i1 (0 : Int32) (0 : Int32) M9
    · refine zx_aload_n (i := 0) (zd me_X12_book 19 rfl) rfl 0 rfl ?_
      refine zx_callVI0 (zd me_X12_book 20 rfl) (mc_X12_readBookLine (zl C) h0 M) lk_X12_436 ⟨(Nat.le_of_ble_eq_true rfl), (Nat.le_of_ble_eq_true rfl)⟩ (Nat.le_of_ble_eq_true rfl) (zi12_c h0) rfl (fun r12 M11 => ?_)
      refine zx_if_ne (tgt := 52) (zd me_X12_book 21 rfl) (by decide) (fun c13 => ?_) (fun c13 => ?_)
      · refine zx_aload_n (i := 0) (zd me_X12_book 27 rfl) rfl 0 rfl ?_
        refine zx_dup (zd me_X12_book 28 rfl) rfl ?_
        refine zx_getI (zd me_X12_book 29 rfl) fl_X12_427 (zi12_c h0) rfl ?_
        refine zx_iconst (v := 1) (zd me_X12_book 30 rfl) (by decide) ?_
        refine zx_iadd (zd me_X12_book 31 rfl) ?_
        refine zx_putI (zd me_X12_book 32 rfl) fp_X12_427 (zi12_c h0) rfl (fun M14 _ => ?_)
        refine zx_goto (tgt := 30) (zd me_X12_book 33 rfl) (by decide) ?_
        exact ih i1 M14
      · refine zx_bipush (v := (-2)) (zd me_X12_book 22 rfl) (by decide) ?_
        refine zx_aload_n (i := 0) (zd me_X12_book 23 rfl) rfl 0 rfl ?_
        refine zx_getI (zd me_X12_book 24 rfl) fl_X12_69 (zi12_c h0) rfl ?_
        refine zx_isub (zd me_X12_book 25 rfl) ?_
        exact zx_iret (zd me_X12_book 26 rfl) rfl
def mf_X12_book (R : zRR) (a0 : Nat) (i1 : Int32) (M : zMem) : Option (Int32 × zMem) :=
  zlet (zwI M a0 0 (0 : Int32)) fun M1 =>
  zcl (mf_X12_isIn R i1 (0 : Int32) (1 : Int32) M1) fun r3 M2 =>
  if r3 = 0 then
    (some ((-1000 : Int32), M2))
  else
    (zcl (mf_X12_begin R a0 (400 : Int32) M2) fun _ M5 =>
    zlet (zwI M5 a0 45 (0 : Int32)) fun M7 =>
    mf_X12_book_l30 R a0 zF i1 M7)
theorem mc_X12_book (l : Launch) {T : zTT} {R : zRR} {a0 : Nat} (h0 : zi12 T R a0) (i1 : Int32) (M : zMem) : zMS l yX12_book mi_X12_book zrvI (mf_X12_book R a0 i1 M) [.ref a0, .int i1] T R M := by
  refine zMS.of (by decide +kernel) rfl ⟨rfl, rfl⟩ (Nat.le_of_ble_eq_true rfl) (fun C ad _ => ?_)
  show zX C mi_X12_book (zFin C zrvI ad T R) 0 0 (mf_X12_book R a0 i1 M) 0 [(0, .ref a0), (1, .int i1)] [] ad T R M
  unfold mf_X12_book
  refine zx_aload_n (i := 0) (zd me_X12_book 0 rfl) rfl 0 rfl ?_
  refine zx_iconst (v := 0) (zd me_X12_book 1 rfl) (by decide) ?_
  refine zx_putI (zd me_X12_book 2 rfl) fp_X12_1 (zi12_c h0) rfl (fun M1 _ => ?_)
  refine zx_iload_n (i := 1) (zd me_X12_book 3 rfl) rfl 1 rfl ?_
  refine zx_iconst (v := 0) (zd me_X12_book 4 rfl) (by decide) ?_
  refine zx_iconst (v := 1) (zd me_X12_book 5 rfl) (by decide) ?_
  refine zx_callSI3 (zd me_X12_book 6 rfl) (mc_X12_isIn (zl C) i1 (0 : Int32) (1 : Int32) M1) lk_X12_75 ⟨(Nat.le_of_ble_eq_true rfl), (Nat.le_of_ble_eq_true rfl)⟩ (Nat.le_of_ble_eq_true rfl) (fun r3 M2 => ?_)
  refine zx_if_ne (tgt := 18) (zd me_X12_book 7 rfl) (by decide) (fun c4 => ?_) (fun c4 => ?_)
  · refine zx_aload_n (i := 0) (zd me_X12_book 10 rfl) rfl 0 rfl ?_
    refine zx_sipush (v := 400) (zd me_X12_book 11 rfl) (by decide) ?_
    refine zx_callVV1 (zd me_X12_book 12 rfl) (mc_X12_begin (zl C) h0 (400 : Int32) M2) lk_X12_218 ⟨(Nat.le_of_ble_eq_true rfl), (Nat.le_of_ble_eq_true rfl)⟩ (Nat.le_of_ble_eq_true rfl) (zi12_c h0) rfl (fun r6 M5 => ?_)
    refine zx_aload_n (i := 0) (zd me_X12_book 13 rfl) rfl 0 rfl ?_
    refine zx_iconst (v := 0) (zd me_X12_book 14 rfl) (by decide) ?_
    refine zx_putI (zd me_X12_book 15 rfl) fp_X12_427 (zi12_c h0) rfl (fun M7 _ => ?_)
    exact mt_X12_book_l30 h0 zF i1 M7
  · refine zx_sipush (v := (-1000)) (zd me_X12_book 8 rfl) (by decide) ?_
    exact zx_iret (zd me_X12_book 9 rfl) rfl
def mf_X12_told (R : zRR) (a0 : Nat) (i1 : Int32) (M : zMem) : Option (Int32 × zMem) :=
  zlet (zwI M a0 0 (0 : Int32)) fun M1 =>
  if (M1.1 a0 46) = 0 then
    (some ((-1 : Int32), M1))
  else
    (zcl (mf_X12_isIn R i1 (0 : Int32) (3 : Int32) M1) fun r4 M3 =>
    if r4 = 0 then
      (some ((-1 : Int32), M3))
    else
      (zald 4 i1 fun j6 =>
      some ((M3.1 (zrf R a0 44) j6), M3)))
theorem mc_X12_told (l : Launch) {T : zTT} {R : zRR} {a0 : Nat} (h0 : zi12 T R a0) (i1 : Int32) (M : zMem) : zMS l yX12_told mi_X12_told zrvI (mf_X12_told R a0 i1 M) [.ref a0, .int i1] T R M := by
  refine zMS.of (by decide +kernel) rfl ⟨rfl, rfl⟩ (Nat.le_of_ble_eq_true rfl) (fun C ad _ => ?_)
  show zX C mi_X12_told (zFin C zrvI ad T R) 0 0 (mf_X12_told R a0 i1 M) 0 [(0, .ref a0), (1, .int i1)] [] ad T R M
  unfold mf_X12_told
  refine zx_aload_n (i := 0) (zd me_X12_told 0 rfl) rfl 0 rfl ?_
  refine zx_iconst (v := 0) (zd me_X12_told 1 rfl) (by decide) ?_
  refine zx_putI (zd me_X12_told 2 rfl) fp_X12_1 (zi12_c h0) rfl (fun M1 _ => ?_)
  refine zx_aload_n (i := 0) (zd me_X12_told 3 rfl) rfl 0 rfl ?_
  refine zx_getI (zd me_X12_told 4 rfl) fl_X12_442 (zi12_c h0) rfl ?_
  refine zx_if_eq (tgt := 30) (zd me_X12_told 5 rfl) (by decide) (fun c2 => ?_) (fun c2 => ?_)
  · refine zx_iconst (v := (-1)) (zd me_X12_told 16 rfl) (by decide) ?_
    exact zx_iret (zd me_X12_told 17 rfl) rfl
  · refine zx_iload_n (i := 1) (zd me_X12_told 6 rfl) rfl 1 rfl ?_
    refine zx_iconst (v := 0) (zd me_X12_told 7 rfl) (by decide) ?_
    refine zx_iconst (v := 3) (zd me_X12_told 8 rfl) (by decide) ?_
    refine zx_callSI3 (zd me_X12_told 9 rfl) (mc_X12_isIn (zl C) i1 (0 : Int32) (3 : Int32) M1) lk_X12_75 ⟨(Nat.le_of_ble_eq_true rfl), (Nat.le_of_ble_eq_true rfl)⟩ (Nat.le_of_ble_eq_true rfl) (fun r4 M3 => ?_)
    refine zx_if_eq (tgt := 30) (zd me_X12_told 10 rfl) (by decide) (fun c5 => ?_) (fun c5 => ?_)
    · refine zx_iconst (v := (-1)) (zd me_X12_told 16 rfl) (by decide) ?_
      exact zx_iret (zd me_X12_told 17 rfl) rfl
    · refine zx_aload_n (i := 0) (zd me_X12_told 11 rfl) rfl 0 rfl ?_
      refine zx_getR (zd me_X12_told 12 rfl) fl_X12_166 (zi12_c h0) rfl (zi12_r44 h0) ?_
      refine zx_iload_n (i := 1) (zd me_X12_told 13 rfl) rfl 1 rfl ?_
      refine zx_iald (zd me_X12_told 14 rfl) (zi12_t44 h0) (fun j6 hj6 => ?_)
      refine zx_goto (tgt := 31) (zd me_X12_told 15 rfl) (by decide) ?_
      exact zx_iret (zd me_X12_told 17 rfl) rfl
def mf_X12_readThat (R : zRR) (a0 : Nat) (i1 : Int32) (M : zMem) : Option (Int32 × zMem) :=
  if i1 = (18 : Int32) then
    (zcl (mf_X12_readBathName R a0 M) fun r6 M5 =>
    zchk (r6 = 0 ∨ r6 = 1) (some (r6, M5)))
  else
    (zald 354 (1 : Int32) fun j2 =>
    zcl (mf_X12_readNamed R a0 (6 : Int32) (M.1 (zrf R a0 14) j2) M) fun r4 M3 =>
    zchk (r4 = 0 ∨ r4 = 1) (some (r4, M3)))
theorem mc_X12_readThat (l : Launch) {T : zTT} {R : zRR} {a0 : Nat} (h0 : zi12 T R a0) (i1 : Int32) (M : zMem) : zMS l yX12_readThat mi_X12_readThat zrvI (mf_X12_readThat R a0 i1 M) [.ref a0, .int i1] T R M := by
  refine zMS.of (by decide +kernel) rfl ⟨rfl, rfl⟩ (Nat.le_of_ble_eq_true rfl) (fun C ad _ => ?_)
  show zX C mi_X12_readThat (zFin C zrvI ad T R) 0 0 (mf_X12_readThat R a0 i1 M) 0 [(0, .ref a0), (1, .int i1)] [] ad T R M
  unfold mf_X12_readThat
  refine zx_iload_n (i := 1) (zd me_X12_readThat 0 rfl) rfl 1 rfl ?_
  refine zx_bipush (v := 18) (zd me_X12_readThat 1 rfl) (by decide) ?_
  refine zx_icmp_ne (tgt := 13) (zd me_X12_readThat 2 rfl) (by decide) (fun c1 => ?_) (fun c1 => ?_)
  · refine zx_aload_n (i := 0) (zd me_X12_readThat 6 rfl) rfl 0 rfl ?_
    refine zx_bipush (v := 6) (zd me_X12_readThat 7 rfl) (by decide) ?_
    refine zx_aload_n (i := 0) (zd me_X12_readThat 8 rfl) rfl 0 rfl ?_
    refine zx_getR (zd me_X12_readThat 9 rfl) fl_X12_98 (zi12_c h0) rfl (zi12_r14 h0) ?_
    refine zx_iconst (v := 1) (zd me_X12_readThat 10 rfl) (by decide) ?_
    refine zx_iald (zd me_X12_readThat 11 rfl) (zi12_t14 h0) (fun j2 hj2 => ?_)
    refine zx_callVI2 (zd me_X12_readThat 12 rfl) (mc_X12_readNamed (zl C) h0 (6 : Int32) (M.1 (zrf R a0 14) j2) M) lk_X12_424 ⟨(Nat.le_of_ble_eq_true rfl), (Nat.le_of_ble_eq_true rfl)⟩ (Nat.le_of_ble_eq_true rfl) (zi12_c h0) rfl (fun r4 M3 => ?_)
    exact zx_zretC (zd me_X12_readThat 13 rfl) rfl
  · refine zx_aload_n (i := 0) (zd me_X12_readThat 3 rfl) rfl 0 rfl ?_
    refine zx_callVI0 (zd me_X12_readThat 4 rfl) (mc_X12_readBathName (zl C) h0 M) lk_X12_430 ⟨(Nat.le_of_ble_eq_true rfl), (Nat.le_of_ble_eq_true rfl)⟩ (Nat.le_of_ble_eq_true rfl) (zi12_c h0) rfl (fun r6 M5 => ?_)
    refine zx_goto (tgt := 25) (zd me_X12_readThat 5 rfl) (by decide) ?_
    exact zx_zretC (zd me_X12_readThat 13 rfl) rfl
def mf_X12_saysOne (R : zRR) (a0 : Nat) (i1 : Int32) (i2 : Int32) (i3 : Int32) (i4 : Int32) (M : zMem) : Option (Int32 × zMem) :=
  zlet (((4 : Int32) * (M.1 a0 48)) : Int32) fun x1 =>
  zald 240 x1 fun j2 =>
  zlet (zwI M (zrf R a0 47) j2 i1) fun M3 =>
  zald 240 (x1 + (1 : Int32)) fun j4 =>
  zlet (zwI M3 (zrf R a0 47) j4 i2) fun M5 =>
  zald 240 (x1 + (2 : Int32)) fun j6 =>
  zlet (zwI M5 (zrf R a0 47) j6 i3) fun M7 =>
  zald 240 (x1 + (3 : Int32)) fun j8 =>
  zlet (zwI M7 (zrf R a0 47) j8 i4) fun M9 =>
  zlet (zwI M9 a0 48 ((M9.1 a0 48) + (1 : Int32))) fun M10 =>
  some (((M10.1 a0 48) - (1 : Int32)), M10)
theorem mc_X12_saysOne (l : Launch) {T : zTT} {R : zRR} {a0 : Nat} (h0 : zi12 T R a0) (i1 : Int32) (i2 : Int32) (i3 : Int32) (i4 : Int32) (M : zMem) : zMS l yX12_saysOne mi_X12_saysOne zrvI (mf_X12_saysOne R a0 i1 i2 i3 i4 M) [.ref a0, .int i1, .int i2, .int i3, .int i4] T R M := by
  refine zMS.of (by decide +kernel) rfl ⟨rfl, rfl⟩ (Nat.le_of_ble_eq_true rfl) (fun C ad _ => ?_)
  show zX C mi_X12_saysOne (zFin C zrvI ad T R) 0 0 (mf_X12_saysOne R a0 i1 i2 i3 i4 M) 0 [(0, .ref a0), (1, .int i1), (2, .int i2), (3, .int i3), (4, .int i4)] [] ad T R M
  unfold mf_X12_saysOne
  refine zx_iconst (v := 4) (zd me_X12_saysOne 0 rfl) (by decide) ?_
  refine zx_aload_n (i := 0) (zd me_X12_saysOne 1 rfl) rfl 0 rfl ?_
  refine zx_getI (zd me_X12_saysOne 2 rfl) fl_X12_450 (zi12_c h0) rfl ?_
  refine zx_imul (zd me_X12_saysOne 3 rfl) ?_
  refine zx_leti (fun x1 => ?_)
  refine zx_istore (ls' := [(5, .int x1), (0, .ref a0), (1, .int i1), (2, .int i2), (3, .int i3), (4, .int i4)]) (zd me_X12_saysOne 4 rfl) (Nat.le_of_ble_eq_true rfl) rfl ?_
  refine zx_aload_n (i := 0) (zd me_X12_saysOne 5 rfl) rfl 1 rfl ?_
  refine zx_getR (zd me_X12_saysOne 6 rfl) fl_X12_169 (zi12_c h0) rfl (zi12_r47 h0) ?_
  refine zx_iload (zd me_X12_saysOne 7 rfl) 0 rfl ?_
  refine zx_iload_n (i := 1) (zd me_X12_saysOne 8 rfl) rfl 2 rfl ?_
  refine zx_iast (zd me_X12_saysOne 9 rfl) (zi12_t47 h0) (fun M3 => ?_)
  refine zx_aload_n (i := 0) (zd me_X12_saysOne 10 rfl) rfl 1 rfl ?_
  refine zx_getR (zd me_X12_saysOne 11 rfl) fl_X12_169 (zi12_c h0) rfl (zi12_r47 h0) ?_
  refine zx_iload (zd me_X12_saysOne 12 rfl) 0 rfl ?_
  refine zx_iconst (v := 1) (zd me_X12_saysOne 13 rfl) (by decide) ?_
  refine zx_iadd (zd me_X12_saysOne 14 rfl) ?_
  refine zx_iload_n (i := 2) (zd me_X12_saysOne 15 rfl) rfl 3 rfl ?_
  refine zx_iast (zd me_X12_saysOne 16 rfl) (zi12_t47 h0) (fun M5 => ?_)
  refine zx_aload_n (i := 0) (zd me_X12_saysOne 17 rfl) rfl 1 rfl ?_
  refine zx_getR (zd me_X12_saysOne 18 rfl) fl_X12_169 (zi12_c h0) rfl (zi12_r47 h0) ?_
  refine zx_iload (zd me_X12_saysOne 19 rfl) 0 rfl ?_
  refine zx_iconst (v := 2) (zd me_X12_saysOne 20 rfl) (by decide) ?_
  refine zx_iadd (zd me_X12_saysOne 21 rfl) ?_
  refine zx_iload_n (i := 3) (zd me_X12_saysOne 22 rfl) rfl 4 rfl ?_
  refine zx_iast (zd me_X12_saysOne 23 rfl) (zi12_t47 h0) (fun M7 => ?_)
  refine zx_aload_n (i := 0) (zd me_X12_saysOne 24 rfl) rfl 1 rfl ?_
  refine zx_getR (zd me_X12_saysOne 25 rfl) fl_X12_169 (zi12_c h0) rfl (zi12_r47 h0) ?_
  refine zx_iload (zd me_X12_saysOne 26 rfl) 0 rfl ?_
  refine zx_iconst (v := 3) (zd me_X12_saysOne 27 rfl) (by decide) ?_
  refine zx_iadd (zd me_X12_saysOne 28 rfl) ?_
  refine zx_iload (zd me_X12_saysOne 29 rfl) 5 rfl ?_
  refine zx_iast (zd me_X12_saysOne 30 rfl) (zi12_t47 h0) (fun M9 => ?_)
  refine zx_aload_n (i := 0) (zd me_X12_saysOne 31 rfl) rfl 1 rfl ?_
  refine zx_dup (zd me_X12_saysOne 32 rfl) rfl ?_
  refine zx_getI (zd me_X12_saysOne 33 rfl) fl_X12_450 (zi12_c h0) rfl ?_
  refine zx_iconst (v := 1) (zd me_X12_saysOne 34 rfl) (by decide) ?_
  refine zx_iadd (zd me_X12_saysOne 35 rfl) ?_
  refine zx_putI (zd me_X12_saysOne 36 rfl) fp_X12_450 (zi12_c h0) rfl (fun M10 _ => ?_)
  refine zx_aload_n (i := 0) (zd me_X12_saysOne 37 rfl) rfl 1 rfl ?_
  refine zx_getI (zd me_X12_saysOne 38 rfl) fl_X12_450 (zi12_c h0) rfl ?_
  refine zx_iconst (v := 1) (zd me_X12_saysOne 39 rfl) (by decide) ?_
  refine zx_isub (zd me_X12_saysOne 40 rfl) ?_
  exact zx_iret (zd me_X12_saysOne 41 rfl) rfl
def mf_X12_readOf (R : zRR) (a0 : Nat) (i1 : Int32) (M : zMem) : Option (Int32 × zMem) :=
  zcl (mf_X12_readThat R a0 i1 M) fun r2 M1 =>
  if r2 = 0 then
    (some ((0 : Int32), M1))
  else
    (zcl (mf_X12_saysOne R a0 ((50 : Int32) + i1) (M1.1 a0 13) (0 : Int32) (0 : Int32) M1) fun r5 M4 =>
    zlet (zwI M4 a0 51 r5) fun M6 =>
    some ((1 : Int32), M6))
theorem mc_X12_readOf (l : Launch) {T : zTT} {R : zRR} {a0 : Nat} (h0 : zi12 T R a0) (i1 : Int32) (M : zMem) : zMS l yX12_readOf mi_X12_readOf zrvI (mf_X12_readOf R a0 i1 M) [.ref a0, .int i1] T R M := by
  refine zMS.of (by decide +kernel) rfl ⟨rfl, rfl⟩ (Nat.le_of_ble_eq_true rfl) (fun C ad _ => ?_)
  show zX C mi_X12_readOf (zFin C zrvI ad T R) 0 0 (mf_X12_readOf R a0 i1 M) 0 [(0, .ref a0), (1, .int i1)] [] ad T R M
  unfold mf_X12_readOf
  refine zx_aload_n (i := 0) (zd me_X12_readOf 0 rfl) rfl 0 rfl ?_
  refine zx_iload_n (i := 1) (zd me_X12_readOf 1 rfl) rfl 1 rfl ?_
  refine zx_callVI1 (zd me_X12_readOf 2 rfl) (mc_X12_readThat (zl C) h0 i1 M) lk_X12_487 ⟨(Nat.le_of_ble_eq_true rfl), (Nat.le_of_ble_eq_true rfl)⟩ (Nat.le_of_ble_eq_true rfl) (zi12_c h0) rfl (fun r2 M1 => ?_)
  refine zx_if_ne (tgt := 10) (zd me_X12_readOf 3 rfl) (by decide) (fun c3 => ?_) (fun c3 => ?_)
  · refine zx_aload_n (i := 0) (zd me_X12_readOf 6 rfl) rfl 0 rfl ?_
    refine zx_aload_n (i := 0) (zd me_X12_readOf 7 rfl) rfl 0 rfl ?_
    refine zx_bipush (v := 50) (zd me_X12_readOf 8 rfl) (by decide) ?_
    refine zx_iload_n (i := 1) (zd me_X12_readOf 9 rfl) rfl 1 rfl ?_
    refine zx_iadd (zd me_X12_readOf 10 rfl) ?_
    refine zx_aload_n (i := 0) (zd me_X12_readOf 11 rfl) rfl 0 rfl ?_
    refine zx_getI (zd me_X12_readOf 12 rfl) fl_X12_79 (zi12_c h0) rfl ?_
    refine zx_iconst (v := 0) (zd me_X12_readOf 13 rfl) (by decide) ?_
    refine zx_iconst (v := 0) (zd me_X12_readOf 14 rfl) (by decide) ?_
    refine zx_callVI4 (zd me_X12_readOf 15 rfl) (mc_X12_saysOne (zl C) h0 ((50 : Int32) + i1) (M1.1 a0 13) (0 : Int32) (0 : Int32) M1) lk_X12_459 ⟨(Nat.le_of_ble_eq_true rfl), (Nat.le_of_ble_eq_true rfl)⟩ (Nat.le_of_ble_eq_true rfl) (zi12_c h0) rfl (fun r5 M4 => ?_)
    refine zx_putI (zd me_X12_readOf 16 rfl) fp_X12_456 (zi12_c h0) rfl (fun M6 _ => ?_)
    refine zx_iconst (v := 1) (zd me_X12_readOf 17 rfl) (by decide) ?_
    exact zx_zret (zd me_X12_readOf 18 rfl) rfl rfl
  · refine zx_iconst (v := 0) (zd me_X12_readOf 4 rfl) (by decide) ?_
    exact zx_zret (zd me_X12_readOf 5 rfl) rfl rfl
def mf_X12_readCompare_b33 (R : zRR) (a0 : Nat) (i1 : Int32) (M : zMem) : Option (Int32 × zMem) :=
  zlet ((M.1 a0 9) : Int32) fun x12 =>
  zcl (mf_X12_go R a0 M) fun _ M13 =>
  zcl (mf_X12_readNumber R a0 (0 : Int32) (999 : Int32) M13) fun r16 M15 =>
  if r16 = 0 then
    (some ((0 : Int32), M15))
  else
    (zcl (mf_X12_saysOne R a0 ((50 : Int32) + i1) (0 : Int32) (M15.1 a0 13) x12 M15) fun r19 M18 =>
    zlet (zwI M18 a0 51 r19) fun M20 =>
    some ((1 : Int32), M20))
theorem mt_X12_readCompare_b33 {C : zCx} {ad : Nat → Nat} {T : zTT} {R : zRR} {a0 : Nat} (h0 : zi12 T R a0) (i1 : Int32) (M : zMem) : zX C mi_X12_readCompare (zFin C zrvI ad T R) 0 0 (mf_X12_readCompare_b33 R a0 i1 M) 33 [(0, .ref a0), (1, .int i1)] [] ad T R M := by
  unfold mf_X12_readCompare_b33
  refine zx_aload_n (i := 0) (zd me_X12_readCompare 16 rfl) rfl 0 rfl ?_
  refine zx_getI (zd me_X12_readCompare 17 rfl) fl_X12_40 (zi12_c h0) rfl ?_
  refine zx_leti (fun x12 => ?_)
  refine zx_istore_n (i := 2) (ls' := [(2, .int x12), (0, .ref a0), (1, .int i1)]) (zd me_X12_readCompare 18 rfl) rfl (Nat.le_of_ble_eq_true rfl) rfl ?_
  refine zx_aload_n (i := 0) (zd me_X12_readCompare 19 rfl) rfl 1 rfl ?_
  refine zx_callVV0 (zd me_X12_readCompare 20 rfl) (mc_X12_go (zl C) h0 M) lk_X12_82 ⟨(Nat.le_of_ble_eq_true rfl), (Nat.le_of_ble_eq_true rfl)⟩ (Nat.le_of_ble_eq_true rfl) (zi12_c h0) rfl (fun r14 M13 => ?_)
  refine zx_aload_n (i := 0) (zd me_X12_readCompare 21 rfl) rfl 1 rfl ?_
  refine zx_iconst (v := 0) (zd me_X12_readCompare 22 rfl) (by decide) ?_
  refine zx_sipush (v := 999) (zd me_X12_readCompare 23 rfl) (by decide) ?_
  refine zx_callVI2 (zd me_X12_readCompare 24 rfl) (mc_X12_readNumber (zl C) h0 (0 : Int32) (999 : Int32) M13) lk_X12_190 ⟨(Nat.le_of_ble_eq_true rfl), (Nat.le_of_ble_eq_true rfl)⟩ (Nat.le_of_ble_eq_true rfl) (zi12_c h0) rfl (fun r16 M15 => ?_)
  refine zx_if_ne (tgt := 55) (zd me_X12_readCompare 25 rfl) (by decide) (fun c17 => ?_) (fun c17 => ?_)
  · refine zx_aload_n (i := 0) (zd me_X12_readCompare 28 rfl) rfl 1 rfl ?_
    refine zx_aload_n (i := 0) (zd me_X12_readCompare 29 rfl) rfl 1 rfl ?_
    refine zx_bipush (v := 50) (zd me_X12_readCompare 30 rfl) (by decide) ?_
    refine zx_iload_n (i := 1) (zd me_X12_readCompare 31 rfl) rfl 2 rfl ?_
    refine zx_iadd (zd me_X12_readCompare 32 rfl) ?_
    refine zx_iconst (v := 0) (zd me_X12_readCompare 33 rfl) (by decide) ?_
    refine zx_aload_n (i := 0) (zd me_X12_readCompare 34 rfl) rfl 1 rfl ?_
    refine zx_getI (zd me_X12_readCompare 35 rfl) fl_X12_79 (zi12_c h0) rfl ?_
    refine zx_iload_n (i := 2) (zd me_X12_readCompare 36 rfl) rfl 0 rfl ?_
    refine zx_callVI4 (zd me_X12_readCompare 37 rfl) (mc_X12_saysOne (zl C) h0 ((50 : Int32) + i1) (0 : Int32) (M15.1 a0 13) x12 M15) lk_X12_459 ⟨(Nat.le_of_ble_eq_true rfl), (Nat.le_of_ble_eq_true rfl)⟩ (Nat.le_of_ble_eq_true rfl) (zi12_c h0) rfl (fun r19 M18 => ?_)
    refine zx_putI (zd me_X12_readCompare 38 rfl) fp_X12_456 (zi12_c h0) rfl (fun M20 _ => ?_)
    refine zx_iconst (v := 1) (zd me_X12_readCompare 39 rfl) (by decide) ?_
    exact zx_zret (zd me_X12_readCompare 40 rfl) rfl rfl
  · refine zx_iconst (v := 0) (zd me_X12_readCompare 26 rfl) (by decide) ?_
    exact zx_zret (zd me_X12_readCompare 27 rfl) rfl rfl
def mf_X12_readCompare (R : zRR) (a0 : Nat) (i1 : Int32) (M : zMem) : Option (Int32 × zMem) :=
  zcl (mf_X12_isSign R a0 (60 : Int32) M) fun r2 M1 =>
  if r2 = 0 then
    (zcl (mf_X12_isSign R a0 (61 : Int32) M1) fun r5 M4 =>
    if r5 = 0 then
      (zcl (mf_X12_isSign R a0 (62 : Int32) M4) fun r8 M7 =>
      if r8 = 0 then
        (zcl (mf_X12_bad R a0 (1 : Int32) M7) fun r11 M10 =>
        zchk (r11 = 0 ∨ r11 = 1) (some (r11, M10)))
      else
        (mf_X12_readCompare_b33 R a0 i1 M7))
    else
      (mf_X12_readCompare_b33 R a0 i1 M4))
  else
    (mf_X12_readCompare_b33 R a0 i1 M1)
theorem mc_X12_readCompare (l : Launch) {T : zTT} {R : zRR} {a0 : Nat} (h0 : zi12 T R a0) (i1 : Int32) (M : zMem) : zMS l yX12_readCompare mi_X12_readCompare zrvI (mf_X12_readCompare R a0 i1 M) [.ref a0, .int i1] T R M := by
  refine zMS.of (by decide +kernel) rfl ⟨rfl, rfl⟩ (Nat.le_of_ble_eq_true rfl) (fun C ad _ => ?_)
  show zX C mi_X12_readCompare (zFin C zrvI ad T R) 0 0 (mf_X12_readCompare R a0 i1 M) 0 [(0, .ref a0), (1, .int i1)] [] ad T R M
  unfold mf_X12_readCompare
  refine zx_aload_n (i := 0) (zd me_X12_readCompare 0 rfl) rfl 0 rfl ?_
  refine zx_bipush (v := 60) (zd me_X12_readCompare 1 rfl) (by decide) ?_
  refine zx_callVI1 (zd me_X12_readCompare 2 rfl) (mc_X12_isSign (zl C) h0 (60 : Int32) M) lk_X12_86 ⟨(Nat.le_of_ble_eq_true rfl), (Nat.le_of_ble_eq_true rfl)⟩ (Nat.le_of_ble_eq_true rfl) (zi12_c h0) rfl (fun r2 M1 => ?_)
  refine zx_if_ne (tgt := 33) (zd me_X12_readCompare 3 rfl) (by decide) (fun c3 => ?_) (fun c3 => ?_)
  · exact mt_X12_readCompare_b33 h0 i1 M1
  · refine zx_aload_n (i := 0) (zd me_X12_readCompare 4 rfl) rfl 0 rfl ?_
    refine zx_bipush (v := 61) (zd me_X12_readCompare 5 rfl) (by decide) ?_
    refine zx_callVI1 (zd me_X12_readCompare 6 rfl) (mc_X12_isSign (zl C) h0 (61 : Int32) M1) lk_X12_86 ⟨(Nat.le_of_ble_eq_true rfl), (Nat.le_of_ble_eq_true rfl)⟩ (Nat.le_of_ble_eq_true rfl) (zi12_c h0) rfl (fun r5 M4 => ?_)
    refine zx_if_ne (tgt := 33) (zd me_X12_readCompare 7 rfl) (by decide) (fun c6 => ?_) (fun c6 => ?_)
    · exact mt_X12_readCompare_b33 h0 i1 M4
    · refine zx_aload_n (i := 0) (zd me_X12_readCompare 8 rfl) rfl 0 rfl ?_
      refine zx_bipush (v := 62) (zd me_X12_readCompare 9 rfl) (by decide) ?_
      refine zx_callVI1 (zd me_X12_readCompare 10 rfl) (mc_X12_isSign (zl C) h0 (62 : Int32) M4) lk_X12_86 ⟨(Nat.le_of_ble_eq_true rfl), (Nat.le_of_ble_eq_true rfl)⟩ (Nat.le_of_ble_eq_true rfl) (zi12_c h0) rfl (fun r8 M7 => ?_)
      refine zx_if_ne (tgt := 33) (zd me_X12_readCompare 11 rfl) (by decide) (fun c9 => ?_) (fun c9 => ?_)
      · exact mt_X12_readCompare_b33 h0 i1 M7
      · refine zx_aload_n (i := 0) (zd me_X12_readCompare 12 rfl) rfl 0 rfl ?_
        refine zx_iconst (v := 1) (zd me_X12_readCompare 13 rfl) (by decide) ?_
        refine zx_callVI1 (zd me_X12_readCompare 14 rfl) (mc_X12_bad (zl C) h0 (1 : Int32) M7) lk_X12_72 ⟨(Nat.le_of_ble_eq_true rfl), (Nat.le_of_ble_eq_true rfl)⟩ (Nat.le_of_ble_eq_true rfl) (zi12_c h0) rfl (fun r11 M10 => ?_)
        exact zx_zretC (zd me_X12_readCompare 15 rfl) rfl
def mf_X12_readOr_l14 (R : zRR) (F_readOr : zRR → Nat → zMem → Option (Int32 × zMem)) (F_readAnd : zRR → Nat → zMem → Option (Int32 × zMem)) (F_readSaid : zRR → Nat → zMem → Option (Int32 × zMem)) (F_readNot : zRR → Nat → zMem → Option (Int32 × zMem)) (F_readBracket : zRR → Nat → zMem → Option (Int32 × zMem)) (a0 : Nat) : Nat → Int32 → zMem → Option (Int32 × zMem)
  | 0, _, _ => none
  | fuel + 1, i1, M =>
    zcl (mf_X12_isWord R a0 (11 : Int32) M) fun r6 M5 =>
    if r6 = 0 then
      (zlet (zwI M5 a0 51 i1) fun M8 =>
      some ((1 : Int32), M8))
    else
      (zcl (mf_X12_go R a0 M5) fun _ M9 =>
      zcl (F_readAnd R a0 M9) fun r12 M11 =>
      if r12 = 0 then
        (some ((0 : Int32), M11))
      else
        (zcl (mf_X12_saysOne R a0 (3 : Int32) i1 (M11.1 a0 51) (0 : Int32) M11) fun r15 M14 =>
        mf_X12_readOr_l14 R F_readOr F_readAnd F_readSaid F_readNot F_readBracket a0 fuel r15 M14))
theorem mt_X12_readOr_l14 {d : Nat} {C : zCx} {ad : Nat → Nat} {T : zTT} {R : zRR} {F_readOr : zRR → Nat → zMem → Option (Int32 × zMem)} {F_readAnd : zRR → Nat → zMem → Option (Int32 × zMem)} {F_readSaid : zRR → Nat → zMem → Option (Int32 × zMem)} {F_readNot : zRR → Nat → zMem → Option (Int32 × zMem)} {F_readBracket : zRR → Nat → zMem → Option (Int32 × zMem)} {a0 : Nat} (hF_readOr : ∀ (l : Launch) {a0 : Nat} (h0 : zi12 T R a0)  (M : zMem), zMS l yX12_readOr (mi_X12_readOr d) zrvI (F_readOr R a0 M) [.ref a0] T R M) (hF_readAnd : ∀ (l : Launch) {a0 : Nat} (h0 : zi12 T R a0)  (M : zMem), zMS l yX12_readAnd (mi_X12_readAnd d) zrvI (F_readAnd R a0 M) [.ref a0] T R M) (hF_readSaid : ∀ (l : Launch) {a0 : Nat} (h0 : zi12 T R a0)  (M : zMem), zMS l yX12_readSaid (mi_X12_readSaid d) zrvI (F_readSaid R a0 M) [.ref a0] T R M) (hF_readNot : ∀ (l : Launch) {a0 : Nat} (h0 : zi12 T R a0)  (M : zMem), zMS l yX12_readNot (mi_X12_readNot d) zrvI (F_readNot R a0 M) [.ref a0] T R M) (hF_readBracket : ∀ (l : Launch) {a0 : Nat} (h0 : zi12 T R a0)  (M : zMem), zMS l yX12_readBracket (mi_X12_readBracket d) zrvI (F_readBracket R a0 M) [.ref a0] T R M) (h0 : zi12 T R a0) : ∀ (fuel : Nat) (i1 : Int32) (M : zMem), zX C (mi_X12_readOr (d + 1)) (zFin C zrvI ad T R) 0 0 (mf_X12_readOr_l14 R F_readOr F_readAnd F_readSaid F_readNot F_readBracket a0 fuel i1 M) 14 [(0, .ref a0), (1, .int i1)] [] ad T R M := by
  intro fuel
  induction fuel with
  | zero => intros; exact zx_none
  | succ fuel ih =>
    intro i1 M
    rw [mf_X12_readOr_l14]
    refine zx_aload_n (i := 0) (zd me_X12_readOr 8 rfl) rfl 0 rfl ?_
    refine zx_bipush (v := 11) (zd me_X12_readOr 9 rfl) (by decide) ?_
    refine zx_callVI1 (zd me_X12_readOr 10 rfl) (mc_X12_isWord (zl C) h0 (11 : Int32) M) lk_X12_203 ⟨Nat.le_trans (m := 8) (Nat.le_of_ble_eq_true rfl) (Nat.le_add_right 8 _), Nat.le_trans (m := 183) (Nat.le_of_ble_eq_true rfl) (Nat.le_add_right 183 _)⟩ (Nat.le_of_ble_eq_true rfl) (zi12_c h0) rfl (fun r6 M5 => ?_)
    refine zx_if_eq (tgt := 51) (zd me_X12_readOr 11 rfl) (by decide) (fun c7 => ?_) (fun c7 => ?_)
    · refine zx_aload_n (i := 0) (zd me_X12_readOr 28 rfl) rfl 0 rfl ?_
      refine zx_iload_n (i := 1) (zd me_X12_readOr 29 rfl) rfl 1 rfl ?_
      refine zx_putI (zd me_X12_readOr 30 rfl) fp_X12_456 (zi12_c h0) rfl (fun M8 _ => ?_)
      refine zx_iconst (v := 1) (zd me_X12_readOr 31 rfl) (by decide) ?_
      exact zx_zret (zd me_X12_readOr 32 rfl) rfl rfl
    · refine zx_aload_n (i := 0) (zd me_X12_readOr 12 rfl) rfl 0 rfl ?_
      refine zx_callVV0 (zd me_X12_readOr 13 rfl) (mc_X12_go (zl C) h0 M5) lk_X12_82 ⟨Nat.le_trans (m := 8) (Nat.le_of_ble_eq_true rfl) (Nat.le_add_right 8 _), Nat.le_trans (m := 183) (Nat.le_of_ble_eq_true rfl) (Nat.le_add_right 183 _)⟩ (Nat.le_of_ble_eq_true rfl) (zi12_c h0) rfl (fun r10 M9 => ?_)
      refine zx_aload_n (i := 0) (zd me_X12_readOr 14 rfl) rfl 0 rfl ?_
      refine zx_callVI0 (zd me_X12_readOr 15 rfl) (hF_readAnd (zl C) h0 M9) (lk_X12_453 d) ⟨Nat.le_refl _, by show 8 + (2 + 11) + (183 + 23 * d) ≤ 183 + 23 * (d + 1); omega⟩ (Nat.le_of_ble_eq_true rfl) (zi12_c h0) rfl (fun r12 M11 => ?_)
      refine zx_if_ne (tgt := 36) (zd me_X12_readOr 16 rfl) (by decide) (fun c13 => ?_) (fun c13 => ?_)
      · refine zx_aload_n (i := 0) (zd me_X12_readOr 19 rfl) rfl 0 rfl ?_
        refine zx_iconst (v := 3) (zd me_X12_readOr 20 rfl) (by decide) ?_
        refine zx_iload_n (i := 1) (zd me_X12_readOr 21 rfl) rfl 1 rfl ?_
        refine zx_aload_n (i := 0) (zd me_X12_readOr 22 rfl) rfl 0 rfl ?_
        refine zx_getI (zd me_X12_readOr 23 rfl) fl_X12_456 (zi12_c h0) rfl ?_
        refine zx_iconst (v := 0) (zd me_X12_readOr 24 rfl) (by decide) ?_
        refine zx_callVI4 (zd me_X12_readOr 25 rfl) (mc_X12_saysOne (zl C) h0 (3 : Int32) i1 (M11.1 a0 51) (0 : Int32) M11) lk_X12_459 ⟨Nat.le_trans (m := 8) (Nat.le_of_ble_eq_true rfl) (Nat.le_add_right 8 _), Nat.le_trans (m := 183) (Nat.le_of_ble_eq_true rfl) (Nat.le_add_right 183 _)⟩ (Nat.le_of_ble_eq_true rfl) (zi12_c h0) rfl (fun r15 M14 => ?_)
        refine zx_istore_n (i := 1) (ls' := [(1, .int r15), (0, .ref a0)]) (zd me_X12_readOr 26 rfl) rfl (Nat.le_of_ble_eq_true rfl) rfl ?_
        refine zx_goto (tgt := 14) (zd me_X12_readOr 27 rfl) (by decide) ?_
        refine zx_loc [1, 0] rfl ?_
        exact ih r15 M14
      · refine zx_iconst (v := 0) (zd me_X12_readOr 17 rfl) (by decide) ?_
        exact zx_zret (zd me_X12_readOr 18 rfl) rfl rfl
def mf_X12_readOr (R : zRR) (F_readOr : zRR → Nat → zMem → Option (Int32 × zMem)) (F_readAnd : zRR → Nat → zMem → Option (Int32 × zMem)) (F_readSaid : zRR → Nat → zMem → Option (Int32 × zMem)) (F_readNot : zRR → Nat → zMem → Option (Int32 × zMem)) (F_readBracket : zRR → Nat → zMem → Option (Int32 × zMem)) (a0 : Nat) (M : zMem) : Option (Int32 × zMem) :=
  zcl (F_readAnd R a0 M) fun r2 M1 =>
  if r2 = 0 then
    (some ((0 : Int32), M1))
  else
    (zlet ((M1.1 a0 51) : Int32) fun x4 =>
    mf_X12_readOr_l14 R F_readOr F_readAnd F_readSaid F_readNot F_readBracket a0 zF x4 M1)
theorem mm_X12_readOr {d : Nat} (l : Launch) {T : zTT} {R : zRR} {F_readOr : zRR → Nat → zMem → Option (Int32 × zMem)} {F_readAnd : zRR → Nat → zMem → Option (Int32 × zMem)} {F_readSaid : zRR → Nat → zMem → Option (Int32 × zMem)} {F_readNot : zRR → Nat → zMem → Option (Int32 × zMem)} {F_readBracket : zRR → Nat → zMem → Option (Int32 × zMem)} {a0 : Nat} (hF_readOr : ∀ (l : Launch) {a0 : Nat} (h0 : zi12 T R a0)  (M : zMem), zMS l yX12_readOr (mi_X12_readOr d) zrvI (F_readOr R a0 M) [.ref a0] T R M) (hF_readAnd : ∀ (l : Launch) {a0 : Nat} (h0 : zi12 T R a0)  (M : zMem), zMS l yX12_readAnd (mi_X12_readAnd d) zrvI (F_readAnd R a0 M) [.ref a0] T R M) (hF_readSaid : ∀ (l : Launch) {a0 : Nat} (h0 : zi12 T R a0)  (M : zMem), zMS l yX12_readSaid (mi_X12_readSaid d) zrvI (F_readSaid R a0 M) [.ref a0] T R M) (hF_readNot : ∀ (l : Launch) {a0 : Nat} (h0 : zi12 T R a0)  (M : zMem), zMS l yX12_readNot (mi_X12_readNot d) zrvI (F_readNot R a0 M) [.ref a0] T R M) (hF_readBracket : ∀ (l : Launch) {a0 : Nat} (h0 : zi12 T R a0)  (M : zMem), zMS l yX12_readBracket (mi_X12_readBracket d) zrvI (F_readBracket R a0 M) [.ref a0] T R M) (h0 : zi12 T R a0) (M : zMem) : zMS l yX12_readOr (mi_X12_readOr (d + 1)) zrvI (mf_X12_readOr R F_readOr F_readAnd F_readSaid F_readNot F_readBracket a0 M) [.ref a0] T R M := by
  refine zMS.of (by decide +kernel) rfl ⟨rfl, rfl⟩ (Nat.le_of_ble_eq_true rfl) (fun C ad _ => ?_)
  show zX C (mi_X12_readOr (d + 1)) (zFin C zrvI ad T R) 0 0 (mf_X12_readOr R F_readOr F_readAnd F_readSaid F_readNot F_readBracket a0 M) 0 [(0, .ref a0)] [] ad T R M
  unfold mf_X12_readOr
  refine zx_aload_n (i := 0) (zd me_X12_readOr 0 rfl) rfl 0 rfl ?_
  refine zx_callVI0 (zd me_X12_readOr 1 rfl) (hF_readAnd (zl C) h0 M) (lk_X12_453 d) ⟨Nat.le_refl _, by show 8 + (2 + 11) + (183 + 23 * d) ≤ 183 + 23 * (d + 1); omega⟩ (Nat.le_of_ble_eq_true rfl) (zi12_c h0) rfl (fun r2 M1 => ?_)
  refine zx_if_ne (tgt := 9) (zd me_X12_readOr 2 rfl) (by decide) (fun c3 => ?_) (fun c3 => ?_)
  · refine zx_aload_n (i := 0) (zd me_X12_readOr 5 rfl) rfl 0 rfl ?_
    refine zx_getI (zd me_X12_readOr 6 rfl) fl_X12_456 (zi12_c h0) rfl ?_
    refine zx_leti (fun x4 => ?_)
    refine zx_istore_n (i := 1) (ls' := [(1, .int x4), (0, .ref a0)]) (zd me_X12_readOr 7 rfl) rfl (Nat.le_of_ble_eq_true rfl) rfl ?_
    refine zx_loc [1, 0] rfl ?_
    exact mt_X12_readOr_l14 hF_readOr hF_readAnd hF_readSaid hF_readNot hF_readBracket h0 zF x4 M1
  · refine zx_iconst (v := 0) (zd me_X12_readOr 3 rfl) (by decide) ?_
    exact zx_zret (zd me_X12_readOr 4 rfl) rfl rfl
def mf_X12_readAnd_l14 (R : zRR) (F_readOr : zRR → Nat → zMem → Option (Int32 × zMem)) (F_readAnd : zRR → Nat → zMem → Option (Int32 × zMem)) (F_readSaid : zRR → Nat → zMem → Option (Int32 × zMem)) (F_readNot : zRR → Nat → zMem → Option (Int32 × zMem)) (F_readBracket : zRR → Nat → zMem → Option (Int32 × zMem)) (a0 : Nat) : Nat → Int32 → zMem → Option (Int32 × zMem)
  | 0, _, _ => none
  | fuel + 1, i1, M =>
    zcl (mf_X12_isWord R a0 (12 : Int32) M) fun r6 M5 =>
    if r6 = 0 then
      (zlet (zwI M5 a0 51 i1) fun M8 =>
      some ((1 : Int32), M8))
    else
      (zcl (mf_X12_go R a0 M5) fun _ M9 =>
      zcl (F_readSaid R a0 M9) fun r12 M11 =>
      if r12 = 0 then
        (some ((0 : Int32), M11))
      else
        (zcl (mf_X12_saysOne R a0 (2 : Int32) i1 (M11.1 a0 51) (0 : Int32) M11) fun r15 M14 =>
        mf_X12_readAnd_l14 R F_readOr F_readAnd F_readSaid F_readNot F_readBracket a0 fuel r15 M14))
theorem mt_X12_readAnd_l14 {d : Nat} {C : zCx} {ad : Nat → Nat} {T : zTT} {R : zRR} {F_readOr : zRR → Nat → zMem → Option (Int32 × zMem)} {F_readAnd : zRR → Nat → zMem → Option (Int32 × zMem)} {F_readSaid : zRR → Nat → zMem → Option (Int32 × zMem)} {F_readNot : zRR → Nat → zMem → Option (Int32 × zMem)} {F_readBracket : zRR → Nat → zMem → Option (Int32 × zMem)} {a0 : Nat} (hF_readOr : ∀ (l : Launch) {a0 : Nat} (h0 : zi12 T R a0)  (M : zMem), zMS l yX12_readOr (mi_X12_readOr d) zrvI (F_readOr R a0 M) [.ref a0] T R M) (hF_readAnd : ∀ (l : Launch) {a0 : Nat} (h0 : zi12 T R a0)  (M : zMem), zMS l yX12_readAnd (mi_X12_readAnd d) zrvI (F_readAnd R a0 M) [.ref a0] T R M) (hF_readSaid : ∀ (l : Launch) {a0 : Nat} (h0 : zi12 T R a0)  (M : zMem), zMS l yX12_readSaid (mi_X12_readSaid d) zrvI (F_readSaid R a0 M) [.ref a0] T R M) (hF_readNot : ∀ (l : Launch) {a0 : Nat} (h0 : zi12 T R a0)  (M : zMem), zMS l yX12_readNot (mi_X12_readNot d) zrvI (F_readNot R a0 M) [.ref a0] T R M) (hF_readBracket : ∀ (l : Launch) {a0 : Nat} (h0 : zi12 T R a0)  (M : zMem), zMS l yX12_readBracket (mi_X12_readBracket d) zrvI (F_readBracket R a0 M) [.ref a0] T R M) (h0 : zi12 T R a0) : ∀ (fuel : Nat) (i1 : Int32) (M : zMem), zX C (mi_X12_readAnd (d + 1)) (zFin C zrvI ad T R) 0 0 (mf_X12_readAnd_l14 R F_readOr F_readAnd F_readSaid F_readNot F_readBracket a0 fuel i1 M) 14 [(0, .ref a0), (1, .int i1)] [] ad T R M := by
  intro fuel
  induction fuel with
  | zero => intros; exact zx_none
  | succ fuel ih =>
    intro i1 M
    rw [mf_X12_readAnd_l14]
    refine zx_aload_n (i := 0) (zd me_X12_readAnd 8 rfl) rfl 0 rfl ?_
    refine zx_bipush (v := 12) (zd me_X12_readAnd 9 rfl) (by decide) ?_
    refine zx_callVI1 (zd me_X12_readAnd 10 rfl) (mc_X12_isWord (zl C) h0 (12 : Int32) M) lk_X12_203 ⟨Nat.le_trans (m := 8) (Nat.le_of_ble_eq_true rfl) (Nat.le_add_right 8 _), Nat.le_trans (m := 183) (Nat.le_of_ble_eq_true rfl) (Nat.le_add_right 183 _)⟩ (Nat.le_of_ble_eq_true rfl) (zi12_c h0) rfl (fun r6 M5 => ?_)
    refine zx_if_eq (tgt := 51) (zd me_X12_readAnd 11 rfl) (by decide) (fun c7 => ?_) (fun c7 => ?_)
    · refine zx_aload_n (i := 0) (zd me_X12_readAnd 28 rfl) rfl 0 rfl ?_
      refine zx_iload_n (i := 1) (zd me_X12_readAnd 29 rfl) rfl 1 rfl ?_
      refine zx_putI (zd me_X12_readAnd 30 rfl) fp_X12_456 (zi12_c h0) rfl (fun M8 _ => ?_)
      refine zx_iconst (v := 1) (zd me_X12_readAnd 31 rfl) (by decide) ?_
      exact zx_zret (zd me_X12_readAnd 32 rfl) rfl rfl
    · refine zx_aload_n (i := 0) (zd me_X12_readAnd 12 rfl) rfl 0 rfl ?_
      refine zx_callVV0 (zd me_X12_readAnd 13 rfl) (mc_X12_go (zl C) h0 M5) lk_X12_82 ⟨Nat.le_trans (m := 8) (Nat.le_of_ble_eq_true rfl) (Nat.le_add_right 8 _), Nat.le_trans (m := 183) (Nat.le_of_ble_eq_true rfl) (Nat.le_add_right 183 _)⟩ (Nat.le_of_ble_eq_true rfl) (zi12_c h0) rfl (fun r10 M9 => ?_)
      refine zx_aload_n (i := 0) (zd me_X12_readAnd 14 rfl) rfl 0 rfl ?_
      refine zx_callVI0 (zd me_X12_readAnd 15 rfl) (hF_readSaid (zl C) h0 M9) (lk_X12_463 d) ⟨Nat.le_refl _, by show 8 + (4 + 11) + (183 + 23 * d) ≤ 183 + 23 * (d + 1); omega⟩ (Nat.le_of_ble_eq_true rfl) (zi12_c h0) rfl (fun r12 M11 => ?_)
      refine zx_if_ne (tgt := 36) (zd me_X12_readAnd 16 rfl) (by decide) (fun c13 => ?_) (fun c13 => ?_)
      · refine zx_aload_n (i := 0) (zd me_X12_readAnd 19 rfl) rfl 0 rfl ?_
        refine zx_iconst (v := 2) (zd me_X12_readAnd 20 rfl) (by decide) ?_
        refine zx_iload_n (i := 1) (zd me_X12_readAnd 21 rfl) rfl 1 rfl ?_
        refine zx_aload_n (i := 0) (zd me_X12_readAnd 22 rfl) rfl 0 rfl ?_
        refine zx_getI (zd me_X12_readAnd 23 rfl) fl_X12_456 (zi12_c h0) rfl ?_
        refine zx_iconst (v := 0) (zd me_X12_readAnd 24 rfl) (by decide) ?_
        refine zx_callVI4 (zd me_X12_readAnd 25 rfl) (mc_X12_saysOne (zl C) h0 (2 : Int32) i1 (M11.1 a0 51) (0 : Int32) M11) lk_X12_459 ⟨Nat.le_trans (m := 8) (Nat.le_of_ble_eq_true rfl) (Nat.le_add_right 8 _), Nat.le_trans (m := 183) (Nat.le_of_ble_eq_true rfl) (Nat.le_add_right 183 _)⟩ (Nat.le_of_ble_eq_true rfl) (zi12_c h0) rfl (fun r15 M14 => ?_)
        refine zx_istore_n (i := 1) (ls' := [(1, .int r15), (0, .ref a0)]) (zd me_X12_readAnd 26 rfl) rfl (Nat.le_of_ble_eq_true rfl) rfl ?_
        refine zx_goto (tgt := 14) (zd me_X12_readAnd 27 rfl) (by decide) ?_
        refine zx_loc [1, 0] rfl ?_
        exact ih r15 M14
      · refine zx_iconst (v := 0) (zd me_X12_readAnd 17 rfl) (by decide) ?_
        exact zx_zret (zd me_X12_readAnd 18 rfl) rfl rfl
def mf_X12_readAnd (R : zRR) (F_readOr : zRR → Nat → zMem → Option (Int32 × zMem)) (F_readAnd : zRR → Nat → zMem → Option (Int32 × zMem)) (F_readSaid : zRR → Nat → zMem → Option (Int32 × zMem)) (F_readNot : zRR → Nat → zMem → Option (Int32 × zMem)) (F_readBracket : zRR → Nat → zMem → Option (Int32 × zMem)) (a0 : Nat) (M : zMem) : Option (Int32 × zMem) :=
  zcl (F_readSaid R a0 M) fun r2 M1 =>
  if r2 = 0 then
    (some ((0 : Int32), M1))
  else
    (zlet ((M1.1 a0 51) : Int32) fun x4 =>
    mf_X12_readAnd_l14 R F_readOr F_readAnd F_readSaid F_readNot F_readBracket a0 zF x4 M1)
theorem mm_X12_readAnd {d : Nat} (l : Launch) {T : zTT} {R : zRR} {F_readOr : zRR → Nat → zMem → Option (Int32 × zMem)} {F_readAnd : zRR → Nat → zMem → Option (Int32 × zMem)} {F_readSaid : zRR → Nat → zMem → Option (Int32 × zMem)} {F_readNot : zRR → Nat → zMem → Option (Int32 × zMem)} {F_readBracket : zRR → Nat → zMem → Option (Int32 × zMem)} {a0 : Nat} (hF_readOr : ∀ (l : Launch) {a0 : Nat} (h0 : zi12 T R a0)  (M : zMem), zMS l yX12_readOr (mi_X12_readOr d) zrvI (F_readOr R a0 M) [.ref a0] T R M) (hF_readAnd : ∀ (l : Launch) {a0 : Nat} (h0 : zi12 T R a0)  (M : zMem), zMS l yX12_readAnd (mi_X12_readAnd d) zrvI (F_readAnd R a0 M) [.ref a0] T R M) (hF_readSaid : ∀ (l : Launch) {a0 : Nat} (h0 : zi12 T R a0)  (M : zMem), zMS l yX12_readSaid (mi_X12_readSaid d) zrvI (F_readSaid R a0 M) [.ref a0] T R M) (hF_readNot : ∀ (l : Launch) {a0 : Nat} (h0 : zi12 T R a0)  (M : zMem), zMS l yX12_readNot (mi_X12_readNot d) zrvI (F_readNot R a0 M) [.ref a0] T R M) (hF_readBracket : ∀ (l : Launch) {a0 : Nat} (h0 : zi12 T R a0)  (M : zMem), zMS l yX12_readBracket (mi_X12_readBracket d) zrvI (F_readBracket R a0 M) [.ref a0] T R M) (h0 : zi12 T R a0) (M : zMem) : zMS l yX12_readAnd (mi_X12_readAnd (d + 1)) zrvI (mf_X12_readAnd R F_readOr F_readAnd F_readSaid F_readNot F_readBracket a0 M) [.ref a0] T R M := by
  refine zMS.of (by decide +kernel) rfl ⟨rfl, rfl⟩ (Nat.le_of_ble_eq_true rfl) (fun C ad _ => ?_)
  show zX C (mi_X12_readAnd (d + 1)) (zFin C zrvI ad T R) 0 0 (mf_X12_readAnd R F_readOr F_readAnd F_readSaid F_readNot F_readBracket a0 M) 0 [(0, .ref a0)] [] ad T R M
  unfold mf_X12_readAnd
  refine zx_aload_n (i := 0) (zd me_X12_readAnd 0 rfl) rfl 0 rfl ?_
  refine zx_callVI0 (zd me_X12_readAnd 1 rfl) (hF_readSaid (zl C) h0 M) (lk_X12_463 d) ⟨Nat.le_refl _, by show 8 + (4 + 11) + (183 + 23 * d) ≤ 183 + 23 * (d + 1); omega⟩ (Nat.le_of_ble_eq_true rfl) (zi12_c h0) rfl (fun r2 M1 => ?_)
  refine zx_if_ne (tgt := 9) (zd me_X12_readAnd 2 rfl) (by decide) (fun c3 => ?_) (fun c3 => ?_)
  · refine zx_aload_n (i := 0) (zd me_X12_readAnd 5 rfl) rfl 0 rfl ?_
    refine zx_getI (zd me_X12_readAnd 6 rfl) fl_X12_456 (zi12_c h0) rfl ?_
    refine zx_leti (fun x4 => ?_)
    refine zx_istore_n (i := 1) (ls' := [(1, .int x4), (0, .ref a0)]) (zd me_X12_readAnd 7 rfl) rfl (Nat.le_of_ble_eq_true rfl) rfl ?_
    refine zx_loc [1, 0] rfl ?_
    exact mt_X12_readAnd_l14 hF_readOr hF_readAnd hF_readSaid hF_readNot hF_readBracket h0 zF x4 M1
  · refine zx_iconst (v := 0) (zd me_X12_readAnd 3 rfl) (by decide) ?_
    exact zx_zret (zd me_X12_readAnd 4 rfl) rfl rfl
def mf_X12_readSaid_b64 (R : zRR) (F_readOr : zRR → Nat → zMem → Option (Int32 × zMem)) (F_readAnd : zRR → Nat → zMem → Option (Int32 × zMem)) (F_readSaid : zRR → Nat → zMem → Option (Int32 × zMem)) (F_readNot : zRR → Nat → zMem → Option (Int32 × zMem)) (F_readBracket : zRR → Nat → zMem → Option (Int32 × zMem)) (a0 : Nat) (M : zMem) : Option (Int32 × zMem) :=
  zcl (mf_X12_bad R a0 (4 : Int32) M) fun r33 M32 =>
  zchk (r33 = 0 ∨ r33 = 1) (some (r33, M32))
theorem mt_X12_readSaid_b64 {d : Nat} {C : zCx} {ad : Nat → Nat} {T : zTT} {R : zRR} {F_readOr : zRR → Nat → zMem → Option (Int32 × zMem)} {F_readAnd : zRR → Nat → zMem → Option (Int32 × zMem)} {F_readSaid : zRR → Nat → zMem → Option (Int32 × zMem)} {F_readNot : zRR → Nat → zMem → Option (Int32 × zMem)} {F_readBracket : zRR → Nat → zMem → Option (Int32 × zMem)} {a0 : Nat} (hF_readOr : ∀ (l : Launch) {a0 : Nat} (h0 : zi12 T R a0)  (M : zMem), zMS l yX12_readOr (mi_X12_readOr d) zrvI (F_readOr R a0 M) [.ref a0] T R M) (hF_readAnd : ∀ (l : Launch) {a0 : Nat} (h0 : zi12 T R a0)  (M : zMem), zMS l yX12_readAnd (mi_X12_readAnd d) zrvI (F_readAnd R a0 M) [.ref a0] T R M) (hF_readSaid : ∀ (l : Launch) {a0 : Nat} (h0 : zi12 T R a0)  (M : zMem), zMS l yX12_readSaid (mi_X12_readSaid d) zrvI (F_readSaid R a0 M) [.ref a0] T R M) (hF_readNot : ∀ (l : Launch) {a0 : Nat} (h0 : zi12 T R a0)  (M : zMem), zMS l yX12_readNot (mi_X12_readNot d) zrvI (F_readNot R a0 M) [.ref a0] T R M) (hF_readBracket : ∀ (l : Launch) {a0 : Nat} (h0 : zi12 T R a0)  (M : zMem), zMS l yX12_readBracket (mi_X12_readBracket d) zrvI (F_readBracket R a0 M) [.ref a0] T R M) (h0 : zi12 T R a0) (M : zMem) : zX C (mi_X12_readSaid (d + 1)) (zFin C zrvI ad T R) 0 0 (mf_X12_readSaid_b64 R F_readOr F_readAnd F_readSaid F_readNot F_readBracket a0 M) 64 [(0, .ref a0)] [] ad T R M := by
  unfold mf_X12_readSaid_b64
  refine zx_aload_n (i := 0) (zd me_X12_readSaid 32 rfl) rfl 0 rfl ?_
  refine zx_iconst (v := 4) (zd me_X12_readSaid 33 rfl) (by decide) ?_
  refine zx_callVI1 (zd me_X12_readSaid 34 rfl) (mc_X12_bad (zl C) h0 (4 : Int32) M) lk_X12_72 ⟨Nat.le_trans (m := 8) (Nat.le_of_ble_eq_true rfl) (Nat.le_add_right 8 _), Nat.le_trans (m := 183) (Nat.le_of_ble_eq_true rfl) (Nat.le_add_right 183 _)⟩ (Nat.le_of_ble_eq_true rfl) (zi12_c h0) rfl (fun r33 M32 => ?_)
  exact zx_zretC (zd me_X12_readSaid 35 rfl) rfl
def mf_X12_readSaid_b166 (R : zRR) (F_readOr : zRR → Nat → zMem → Option (Int32 × zMem)) (F_readAnd : zRR → Nat → zMem → Option (Int32 × zMem)) (F_readSaid : zRR → Nat → zMem → Option (Int32 × zMem)) (F_readNot : zRR → Nat → zMem → Option (Int32 × zMem)) (F_readBracket : zRR → Nat → zMem → Option (Int32 × zMem)) (a0 : Nat) (i3 : Int32) (M : zMem) : Option (Int32 × zMem) :=
  zlet (zwI M a0 50 ((M.1 a0 50) - (1 : Int32))) fun M34 =>
  zchk (i3 = 0 ∨ i3 = 1) (some (i3, M34))
theorem mt_X12_readSaid_b166 {d : Nat} {C : zCx} {ad : Nat → Nat} {T : zTT} {R : zRR} {F_readOr : zRR → Nat → zMem → Option (Int32 × zMem)} {F_readAnd : zRR → Nat → zMem → Option (Int32 × zMem)} {F_readSaid : zRR → Nat → zMem → Option (Int32 × zMem)} {F_readNot : zRR → Nat → zMem → Option (Int32 × zMem)} {F_readBracket : zRR → Nat → zMem → Option (Int32 × zMem)} {a0 : Nat} (hF_readOr : ∀ (l : Launch) {a0 : Nat} (h0 : zi12 T R a0)  (M : zMem), zMS l yX12_readOr (mi_X12_readOr d) zrvI (F_readOr R a0 M) [.ref a0] T R M) (hF_readAnd : ∀ (l : Launch) {a0 : Nat} (h0 : zi12 T R a0)  (M : zMem), zMS l yX12_readAnd (mi_X12_readAnd d) zrvI (F_readAnd R a0 M) [.ref a0] T R M) (hF_readSaid : ∀ (l : Launch) {a0 : Nat} (h0 : zi12 T R a0)  (M : zMem), zMS l yX12_readSaid (mi_X12_readSaid d) zrvI (F_readSaid R a0 M) [.ref a0] T R M) (hF_readNot : ∀ (l : Launch) {a0 : Nat} (h0 : zi12 T R a0)  (M : zMem), zMS l yX12_readNot (mi_X12_readNot d) zrvI (F_readNot R a0 M) [.ref a0] T R M) (hF_readBracket : ∀ (l : Launch) {a0 : Nat} (h0 : zi12 T R a0)  (M : zMem), zMS l yX12_readBracket (mi_X12_readBracket d) zrvI (F_readBracket R a0 M) [.ref a0] T R M) (h0 : zi12 T R a0) (i3 : Int32) (M : zMem) : zX C (mi_X12_readSaid (d + 1)) (zFin C zrvI ad T R) 0 0 (mf_X12_readSaid_b166 R F_readOr F_readAnd F_readSaid F_readNot F_readBracket a0 i3 M) 166 [(0, .ref a0), (3, .int i3)] [] ad T R M := by
  unfold mf_X12_readSaid_b166
  refine zx_aload_n (i := 0) (zd me_X12_readSaid 90 rfl) rfl 0 rfl ?_
  refine zx_dup (zd me_X12_readSaid 91 rfl) rfl ?_
  refine zx_getI (zd me_X12_readSaid 92 rfl) fl_X12_469 (zi12_c h0) rfl ?_
  refine zx_iconst (v := 1) (zd me_X12_readSaid 93 rfl) (by decide) ?_
  refine zx_isub (zd me_X12_readSaid 94 rfl) ?_
  refine zx_putI (zd me_X12_readSaid 95 rfl) fp_X12_469 (zi12_c h0) rfl (fun M34 _ => ?_)
  refine zx_iload_n (i := 3) (zd me_X12_readSaid 96 rfl) rfl 1 rfl ?_
  exact zx_zretC (zd me_X12_readSaid 97 rfl) rfl
def mf_X12_readSaid_b165 (R : zRR) (F_readOr : zRR → Nat → zMem → Option (Int32 × zMem)) (F_readAnd : zRR → Nat → zMem → Option (Int32 × zMem)) (F_readSaid : zRR → Nat → zMem → Option (Int32 × zMem)) (F_readNot : zRR → Nat → zMem → Option (Int32 × zMem)) (F_readBracket : zRR → Nat → zMem → Option (Int32 × zMem)) (a0 : Nat) (s0 : Int32) (M : zMem) : Option (Int32 × zMem) :=
  mf_X12_readSaid_b166 R F_readOr F_readAnd F_readSaid F_readNot F_readBracket a0 s0 M
theorem mt_X12_readSaid_b165 {d : Nat} {C : zCx} {ad : Nat → Nat} {T : zTT} {R : zRR} {F_readOr : zRR → Nat → zMem → Option (Int32 × zMem)} {F_readAnd : zRR → Nat → zMem → Option (Int32 × zMem)} {F_readSaid : zRR → Nat → zMem → Option (Int32 × zMem)} {F_readNot : zRR → Nat → zMem → Option (Int32 × zMem)} {F_readBracket : zRR → Nat → zMem → Option (Int32 × zMem)} {a0 : Nat} (hF_readOr : ∀ (l : Launch) {a0 : Nat} (h0 : zi12 T R a0)  (M : zMem), zMS l yX12_readOr (mi_X12_readOr d) zrvI (F_readOr R a0 M) [.ref a0] T R M) (hF_readAnd : ∀ (l : Launch) {a0 : Nat} (h0 : zi12 T R a0)  (M : zMem), zMS l yX12_readAnd (mi_X12_readAnd d) zrvI (F_readAnd R a0 M) [.ref a0] T R M) (hF_readSaid : ∀ (l : Launch) {a0 : Nat} (h0 : zi12 T R a0)  (M : zMem), zMS l yX12_readSaid (mi_X12_readSaid d) zrvI (F_readSaid R a0 M) [.ref a0] T R M) (hF_readNot : ∀ (l : Launch) {a0 : Nat} (h0 : zi12 T R a0)  (M : zMem), zMS l yX12_readNot (mi_X12_readNot d) zrvI (F_readNot R a0 M) [.ref a0] T R M) (hF_readBracket : ∀ (l : Launch) {a0 : Nat} (h0 : zi12 T R a0)  (M : zMem), zMS l yX12_readBracket (mi_X12_readBracket d) zrvI (F_readBracket R a0 M) [.ref a0] T R M) (h0 : zi12 T R a0) (s0 : Int32) (M : zMem) : zX C (mi_X12_readSaid (d + 1)) (zFin C zrvI ad T R) 0 0 (mf_X12_readSaid_b165 R F_readOr F_readAnd F_readSaid F_readNot F_readBracket a0 s0 M) 165 [(0, .ref a0)] [.int s0] ad T R M := by
  unfold mf_X12_readSaid_b165
  refine zx_istore_n (i := 3) (ls' := [(3, .int s0), (0, .ref a0)]) (zd me_X12_readSaid 89 rfl) rfl (Nat.le_of_ble_eq_true rfl) rfl ?_
  refine zx_loc [1, 0] rfl ?_
  exact mt_X12_readSaid_b166 hF_readOr hF_readAnd hF_readSaid hF_readNot hF_readBracket h0 s0 M
def mf_X12_readSaid_b46 (R : zRR) (F_readOr : zRR → Nat → zMem → Option (Int32 × zMem)) (F_readAnd : zRR → Nat → zMem → Option (Int32 × zMem)) (F_readSaid : zRR → Nat → zMem → Option (Int32 × zMem)) (F_readNot : zRR → Nat → zMem → Option (Int32 × zMem)) (F_readBracket : zRR → Nat → zMem → Option (Int32 × zMem)) (a0 : Nat) (i1 : Int32) (i2 : Int32) (M : zMem) : Option (Int32 × zMem) :=
  if (M.1 a0 49) = (20 : Int32) then
    (mf_X12_readSaid_b64 R F_readOr F_readAnd F_readSaid F_readNot F_readBracket a0 M)
  else
    (if (M.1 a0 50) = (8 : Int32) then
      (mf_X12_readSaid_b64 R F_readOr F_readAnd F_readSaid F_readNot F_readBracket a0 M)
    else
      (zlet (zwI M a0 49 ((M.1 a0 49) + (1 : Int32))) fun M13 =>
      zlet (zwI M13 a0 50 ((M13.1 a0 50) + (1 : Int32))) fun M14 =>
      zcl (mf_X12_go R a0 M14) fun _ M15 =>
      if i1 = 0 then
        (if i2 = (13 : Int32) then
          (zcl (F_readNot R a0 M15) fun r29 M28 =>
          mf_X12_readSaid_b166 R F_readOr F_readAnd F_readSaid F_readNot F_readBracket a0 r29 M28)
        else
          (if (18 : Int32) ≤ i2 then
            (if (20 : Int32) ≤ i2 then
              (zcl (mf_X12_readCompare R a0 i2 M15) fun r22 M21 =>
              mf_X12_readSaid_b165 R F_readOr F_readAnd F_readSaid F_readNot F_readBracket a0 r22 M21)
            else
              (zcl (mf_X12_readOf R a0 i2 M15) fun r24 M23 =>
              mf_X12_readSaid_b165 R F_readOr F_readAnd F_readSaid F_readNot F_readBracket a0 r24 M23))
          else
            (zcl (mf_X12_saysOne R a0 ((50 : Int32) + i2) (0 : Int32) (0 : Int32) (0 : Int32) M15) fun r26 M25 =>
            zlet (zwI M25 a0 51 r26) fun M27 =>
            mf_X12_readSaid_b166 R F_readOr F_readAnd F_readSaid F_readNot F_readBracket a0 (1 : Int32) M27)))
      else
        (zcl (F_readBracket R a0 M15) fun r31 M30 =>
        mf_X12_readSaid_b166 R F_readOr F_readAnd F_readSaid F_readNot F_readBracket a0 r31 M30)))
theorem mt_X12_readSaid_b46 {d : Nat} {C : zCx} {ad : Nat → Nat} {T : zTT} {R : zRR} {F_readOr : zRR → Nat → zMem → Option (Int32 × zMem)} {F_readAnd : zRR → Nat → zMem → Option (Int32 × zMem)} {F_readSaid : zRR → Nat → zMem → Option (Int32 × zMem)} {F_readNot : zRR → Nat → zMem → Option (Int32 × zMem)} {F_readBracket : zRR → Nat → zMem → Option (Int32 × zMem)} {a0 : Nat} (hF_readOr : ∀ (l : Launch) {a0 : Nat} (h0 : zi12 T R a0)  (M : zMem), zMS l yX12_readOr (mi_X12_readOr d) zrvI (F_readOr R a0 M) [.ref a0] T R M) (hF_readAnd : ∀ (l : Launch) {a0 : Nat} (h0 : zi12 T R a0)  (M : zMem), zMS l yX12_readAnd (mi_X12_readAnd d) zrvI (F_readAnd R a0 M) [.ref a0] T R M) (hF_readSaid : ∀ (l : Launch) {a0 : Nat} (h0 : zi12 T R a0)  (M : zMem), zMS l yX12_readSaid (mi_X12_readSaid d) zrvI (F_readSaid R a0 M) [.ref a0] T R M) (hF_readNot : ∀ (l : Launch) {a0 : Nat} (h0 : zi12 T R a0)  (M : zMem), zMS l yX12_readNot (mi_X12_readNot d) zrvI (F_readNot R a0 M) [.ref a0] T R M) (hF_readBracket : ∀ (l : Launch) {a0 : Nat} (h0 : zi12 T R a0)  (M : zMem), zMS l yX12_readBracket (mi_X12_readBracket d) zrvI (F_readBracket R a0 M) [.ref a0] T R M) (h0 : zi12 T R a0) (i1 : Int32) (i2 : Int32) (M : zMem) : zX C (mi_X12_readSaid (d + 1)) (zFin C zrvI ad T R) 0 0 (mf_X12_readSaid_b46 R F_readOr F_readAnd F_readSaid F_readNot F_readBracket a0 i1 i2 M) 46 [(0, .ref a0), (1, .int i1), (2, .int i2)] [] ad T R M := by
  unfold mf_X12_readSaid_b46
  refine zx_aload_n (i := 0) (zd me_X12_readSaid 24 rfl) rfl 0 rfl ?_
  refine zx_getI (zd me_X12_readSaid 25 rfl) fl_X12_466 (zi12_c h0) rfl ?_
  refine zx_bipush (v := 20) (zd me_X12_readSaid 26 rfl) (by decide) ?_
  refine zx_icmp_eq (tgt := 64) (zd me_X12_readSaid 27 rfl) (by decide) (fun c11 => ?_) (fun c11 => ?_)
  · refine zx_loc [0] rfl ?_
    exact mt_X12_readSaid_b64 hF_readOr hF_readAnd hF_readSaid hF_readNot hF_readBracket h0 M
  · refine zx_aload_n (i := 0) (zd me_X12_readSaid 28 rfl) rfl 0 rfl ?_
    refine zx_getI (zd me_X12_readSaid 29 rfl) fl_X12_469 (zi12_c h0) rfl ?_
    refine zx_bipush (v := 8) (zd me_X12_readSaid 30 rfl) (by decide) ?_
    refine zx_icmp_ne (tgt := 70) (zd me_X12_readSaid 31 rfl) (by decide) (fun c12 => ?_) (fun c12 => ?_)
    · refine zx_aload_n (i := 0) (zd me_X12_readSaid 36 rfl) rfl 0 rfl ?_
      refine zx_dup (zd me_X12_readSaid 37 rfl) rfl ?_
      refine zx_getI (zd me_X12_readSaid 38 rfl) fl_X12_466 (zi12_c h0) rfl ?_
      refine zx_iconst (v := 1) (zd me_X12_readSaid 39 rfl) (by decide) ?_
      refine zx_iadd (zd me_X12_readSaid 40 rfl) ?_
      refine zx_putI (zd me_X12_readSaid 41 rfl) fp_X12_466 (zi12_c h0) rfl (fun M13 _ => ?_)
      refine zx_aload_n (i := 0) (zd me_X12_readSaid 42 rfl) rfl 0 rfl ?_
      refine zx_dup (zd me_X12_readSaid 43 rfl) rfl ?_
      refine zx_getI (zd me_X12_readSaid 44 rfl) fl_X12_469 (zi12_c h0) rfl ?_
      refine zx_iconst (v := 1) (zd me_X12_readSaid 45 rfl) (by decide) ?_
      refine zx_iadd (zd me_X12_readSaid 46 rfl) ?_
      refine zx_putI (zd me_X12_readSaid 47 rfl) fp_X12_469 (zi12_c h0) rfl (fun M14 _ => ?_)
      refine zx_aload_n (i := 0) (zd me_X12_readSaid 48 rfl) rfl 0 rfl ?_
      refine zx_callVV0 (zd me_X12_readSaid 49 rfl) (mc_X12_go (zl C) h0 M14) lk_X12_82 ⟨Nat.le_trans (m := 8) (Nat.le_of_ble_eq_true rfl) (Nat.le_add_right 8 _), Nat.le_trans (m := 183) (Nat.le_of_ble_eq_true rfl) (Nat.le_add_right 183 _)⟩ (Nat.le_of_ble_eq_true rfl) (zi12_c h0) rfl (fun r16 M15 => ?_)
      refine zx_iconst (v := 1) (zd me_X12_readSaid 50 rfl) (by decide) ?_
      refine zx_istore_n (i := 3) (ls' := [(3, .int (1 : Int32)), (0, .ref a0), (1, .int i1), (2, .int i2)]) (zd me_X12_readSaid 51 rfl) rfl (Nat.le_of_ble_eq_true rfl) rfl ?_
      refine zx_iload_n (i := 1) (zd me_X12_readSaid 52 rfl) rfl 2 rfl ?_
      refine zx_if_eq (tgt := 108) (zd me_X12_readSaid 53 rfl) (by decide) (fun c17 => ?_) (fun c17 => ?_)
      · refine zx_iload_n (i := 2) (zd me_X12_readSaid 58 rfl) rfl 3 rfl ?_
        refine zx_bipush (v := 13) (zd me_X12_readSaid 59 rfl) (by decide) ?_
        refine zx_icmp_ne (tgt := 122) (zd me_X12_readSaid 60 rfl) (by decide) (fun c18 => ?_) (fun c18 => ?_)
        · refine zx_iload_n (i := 2) (zd me_X12_readSaid 65 rfl) rfl 3 rfl ?_
          refine zx_bipush (v := 18) (zd me_X12_readSaid 66 rfl) (by decide) ?_
          refine zx_icmp_ge (tgt := 146) (zd me_X12_readSaid 67 rfl) (by decide) (fun c19 => ?_) (fun c19 => ?_)
          · refine zx_iload_n (i := 2) (zd me_X12_readSaid 79 rfl) rfl 3 rfl ?_
            refine zx_bipush (v := 20) (zd me_X12_readSaid 80 rfl) (by decide) ?_
            refine zx_icmp_ge (tgt := 160) (zd me_X12_readSaid 81 rfl) (by decide) (fun c20 => ?_) (fun c20 => ?_)
            · refine zx_aload_n (i := 0) (zd me_X12_readSaid 86 rfl) rfl 1 rfl ?_
              refine zx_iload_n (i := 2) (zd me_X12_readSaid 87 rfl) rfl 3 rfl ?_
              refine zx_callVI1 (zd me_X12_readSaid 88 rfl) (mc_X12_readCompare (zl C) h0 i2 M15) lk_X12_481 ⟨Nat.le_trans (m := 8) (Nat.le_of_ble_eq_true rfl) (Nat.le_add_right 8 _), Nat.le_trans (m := 183) (Nat.le_of_ble_eq_true rfl) (Nat.le_add_right 183 _)⟩ (Nat.le_of_ble_eq_true rfl) (zi12_c h0) rfl (fun r22 M21 => ?_)
              refine zx_loc [1] rfl ?_
              exact mt_X12_readSaid_b165 hF_readOr hF_readAnd hF_readSaid hF_readNot hF_readBracket h0 r22 M21
            · refine zx_aload_n (i := 0) (zd me_X12_readSaid 82 rfl) rfl 1 rfl ?_
              refine zx_iload_n (i := 2) (zd me_X12_readSaid 83 rfl) rfl 3 rfl ?_
              refine zx_callVI1 (zd me_X12_readSaid 84 rfl) (mc_X12_readOf (zl C) h0 i2 M15) lk_X12_478 ⟨Nat.le_trans (m := 8) (Nat.le_of_ble_eq_true rfl) (Nat.le_add_right 8 _), Nat.le_trans (m := 183) (Nat.le_of_ble_eq_true rfl) (Nat.le_add_right 183 _)⟩ (Nat.le_of_ble_eq_true rfl) (zi12_c h0) rfl (fun r24 M23 => ?_)
              refine zx_goto (tgt := 165) (zd me_X12_readSaid 85 rfl) (by decide) ?_
              refine zx_loc [1] rfl ?_
              exact mt_X12_readSaid_b165 hF_readOr hF_readAnd hF_readSaid hF_readNot hF_readBracket h0 r24 M23
          · refine zx_aload_n (i := 0) (zd me_X12_readSaid 68 rfl) rfl 1 rfl ?_
            refine zx_aload_n (i := 0) (zd me_X12_readSaid 69 rfl) rfl 1 rfl ?_
            refine zx_bipush (v := 50) (zd me_X12_readSaid 70 rfl) (by decide) ?_
            refine zx_iload_n (i := 2) (zd me_X12_readSaid 71 rfl) rfl 3 rfl ?_
            refine zx_iadd (zd me_X12_readSaid 72 rfl) ?_
            refine zx_iconst (v := 0) (zd me_X12_readSaid 73 rfl) (by decide) ?_
            refine zx_iconst (v := 0) (zd me_X12_readSaid 74 rfl) (by decide) ?_
            refine zx_iconst (v := 0) (zd me_X12_readSaid 75 rfl) (by decide) ?_
            refine zx_callVI4 (zd me_X12_readSaid 76 rfl) (mc_X12_saysOne (zl C) h0 ((50 : Int32) + i2) (0 : Int32) (0 : Int32) (0 : Int32) M15) lk_X12_459 ⟨Nat.le_trans (m := 8) (Nat.le_of_ble_eq_true rfl) (Nat.le_add_right 8 _), Nat.le_trans (m := 183) (Nat.le_of_ble_eq_true rfl) (Nat.le_add_right 183 _)⟩ (Nat.le_of_ble_eq_true rfl) (zi12_c h0) rfl (fun r26 M25 => ?_)
            refine zx_putI (zd me_X12_readSaid 77 rfl) fp_X12_456 (zi12_c h0) rfl (fun M27 _ => ?_)
            refine zx_goto (tgt := 166) (zd me_X12_readSaid 78 rfl) (by decide) ?_
            refine zx_loc [1, 0] rfl ?_
            exact mt_X12_readSaid_b166 hF_readOr hF_readAnd hF_readSaid hF_readNot hF_readBracket h0 (1 : Int32) M27
        · refine zx_aload_n (i := 0) (zd me_X12_readSaid 61 rfl) rfl 1 rfl ?_
          refine zx_callVI0 (zd me_X12_readSaid 62 rfl) (hF_readNot (zl C) h0 M15) (lk_X12_475 d) ⟨Nat.le_refl _, by show 8 + (1 + 11) + (183 + 23 * d) ≤ 183 + 23 * (d + 1); omega⟩ (Nat.le_of_ble_eq_true rfl) (zi12_c h0) rfl (fun r29 M28 => ?_)
          refine zx_istore_n (i := 3) (ls' := [(3, .int r29), (0, .ref a0), (1, .int i1), (2, .int i2)]) (zd me_X12_readSaid 63 rfl) rfl (Nat.le_of_ble_eq_true rfl) rfl ?_
          refine zx_goto (tgt := 166) (zd me_X12_readSaid 64 rfl) (by decide) ?_
          refine zx_loc [1, 0] rfl ?_
          exact mt_X12_readSaid_b166 hF_readOr hF_readAnd hF_readSaid hF_readNot hF_readBracket h0 r29 M28
      · refine zx_aload_n (i := 0) (zd me_X12_readSaid 54 rfl) rfl 1 rfl ?_
        refine zx_callVI0 (zd me_X12_readSaid 55 rfl) (hF_readBracket (zl C) h0 M15) (lk_X12_472 d) ⟨Nat.le_refl _, by show 8 + (1 + 11) + (183 + 23 * d) ≤ 183 + 23 * (d + 1); omega⟩ (Nat.le_of_ble_eq_true rfl) (zi12_c h0) rfl (fun r31 M30 => ?_)
        refine zx_istore_n (i := 3) (ls' := [(3, .int r31), (0, .ref a0), (1, .int i1), (2, .int i2)]) (zd me_X12_readSaid 56 rfl) rfl (Nat.le_of_ble_eq_true rfl) rfl ?_
        refine zx_goto (tgt := 166) (zd me_X12_readSaid 57 rfl) (by decide) ?_
        refine zx_loc [1, 0] rfl ?_
        exact mt_X12_readSaid_b166 hF_readOr hF_readAnd hF_readSaid hF_readNot hF_readBracket h0 r31 M30
    · refine zx_loc [0] rfl ?_
      exact mt_X12_readSaid_b64 hF_readOr hF_readAnd hF_readSaid hF_readNot hF_readBracket h0 M
def mf_X12_readSaid_b30 (R : zRR) (F_readOr : zRR → Nat → zMem → Option (Int32 × zMem)) (F_readAnd : zRR → Nat → zMem → Option (Int32 × zMem)) (F_readSaid : zRR → Nat → zMem → Option (Int32 × zMem)) (F_readNot : zRR → Nat → zMem → Option (Int32 × zMem)) (F_readBracket : zRR → Nat → zMem → Option (Int32 × zMem)) (a0 : Nat) (i1 : Int32) (i2 : Int32) (M : zMem) : Option (Int32 × zMem) :=
  if i1 = 0 then
    (if i2 ≤ (23 : Int32) then
      (mf_X12_readSaid_b46 R F_readOr F_readAnd F_readSaid F_readNot F_readBracket a0 i1 i2 M)
    else
      (zcl (mf_X12_bad R a0 (1 : Int32) M) fun r10 M9 =>
      zchk (r10 = 0 ∨ r10 = 1) (some (r10, M9))))
  else
    (mf_X12_readSaid_b46 R F_readOr F_readAnd F_readSaid F_readNot F_readBracket a0 i1 i2 M)
theorem mt_X12_readSaid_b30 {d : Nat} {C : zCx} {ad : Nat → Nat} {T : zTT} {R : zRR} {F_readOr : zRR → Nat → zMem → Option (Int32 × zMem)} {F_readAnd : zRR → Nat → zMem → Option (Int32 × zMem)} {F_readSaid : zRR → Nat → zMem → Option (Int32 × zMem)} {F_readNot : zRR → Nat → zMem → Option (Int32 × zMem)} {F_readBracket : zRR → Nat → zMem → Option (Int32 × zMem)} {a0 : Nat} (hF_readOr : ∀ (l : Launch) {a0 : Nat} (h0 : zi12 T R a0)  (M : zMem), zMS l yX12_readOr (mi_X12_readOr d) zrvI (F_readOr R a0 M) [.ref a0] T R M) (hF_readAnd : ∀ (l : Launch) {a0 : Nat} (h0 : zi12 T R a0)  (M : zMem), zMS l yX12_readAnd (mi_X12_readAnd d) zrvI (F_readAnd R a0 M) [.ref a0] T R M) (hF_readSaid : ∀ (l : Launch) {a0 : Nat} (h0 : zi12 T R a0)  (M : zMem), zMS l yX12_readSaid (mi_X12_readSaid d) zrvI (F_readSaid R a0 M) [.ref a0] T R M) (hF_readNot : ∀ (l : Launch) {a0 : Nat} (h0 : zi12 T R a0)  (M : zMem), zMS l yX12_readNot (mi_X12_readNot d) zrvI (F_readNot R a0 M) [.ref a0] T R M) (hF_readBracket : ∀ (l : Launch) {a0 : Nat} (h0 : zi12 T R a0)  (M : zMem), zMS l yX12_readBracket (mi_X12_readBracket d) zrvI (F_readBracket R a0 M) [.ref a0] T R M) (h0 : zi12 T R a0) (i1 : Int32) (i2 : Int32) (M : zMem) : zX C (mi_X12_readSaid (d + 1)) (zFin C zrvI ad T R) 0 0 (mf_X12_readSaid_b30 R F_readOr F_readAnd F_readSaid F_readNot F_readBracket a0 i1 i2 M) 30 [(0, .ref a0), (1, .int i1), (2, .int i2)] [] ad T R M := by
  unfold mf_X12_readSaid_b30
  refine zx_iload_n (i := 1) (zd me_X12_readSaid 15 rfl) rfl 1 rfl ?_
  refine zx_if_ne (tgt := 46) (zd me_X12_readSaid 16 rfl) (by decide) (fun c7 => ?_) (fun c7 => ?_)
  · exact mt_X12_readSaid_b46 hF_readOr hF_readAnd hF_readSaid hF_readNot hF_readBracket h0 i1 i2 M
  · refine zx_iload_n (i := 2) (zd me_X12_readSaid 17 rfl) rfl 2 rfl ?_
    refine zx_bipush (v := 23) (zd me_X12_readSaid 18 rfl) (by decide) ?_
    refine zx_icmp_le (tgt := 46) (zd me_X12_readSaid 19 rfl) (by decide) (fun c8 => ?_) (fun c8 => ?_)
    · exact mt_X12_readSaid_b46 hF_readOr hF_readAnd hF_readSaid hF_readNot hF_readBracket h0 i1 i2 M
    · refine zx_aload_n (i := 0) (zd me_X12_readSaid 20 rfl) rfl 0 rfl ?_
      refine zx_iconst (v := 1) (zd me_X12_readSaid 21 rfl) (by decide) ?_
      refine zx_callVI1 (zd me_X12_readSaid 22 rfl) (mc_X12_bad (zl C) h0 (1 : Int32) M) lk_X12_72 ⟨Nat.le_trans (m := 8) (Nat.le_of_ble_eq_true rfl) (Nat.le_add_right 8 _), Nat.le_trans (m := 183) (Nat.le_of_ble_eq_true rfl) (Nat.le_add_right 183 _)⟩ (Nat.le_of_ble_eq_true rfl) (zi12_c h0) rfl (fun r10 M9 => ?_)
      exact zx_zretC (zd me_X12_readSaid 23 rfl) rfl
def mf_X12_readSaid_l10 (R : zRR) (F_readOr : zRR → Nat → zMem → Option (Int32 × zMem)) (F_readAnd : zRR → Nat → zMem → Option (Int32 × zMem)) (F_readSaid : zRR → Nat → zMem → Option (Int32 × zMem)) (F_readNot : zRR → Nat → zMem → Option (Int32 × zMem)) (F_readBracket : zRR → Nat → zMem → Option (Int32 × zMem)) (a0 : Nat) : Nat → Int32 → Int32 → zMem → Option (Int32 × zMem)
  | 0, _, _, _ => none
  | fuel + 1, i1, i2, M =>
    if (23 : Int32) < i2 then
      (mf_X12_readSaid_b30 R F_readOr F_readAnd F_readSaid F_readNot F_readBracket a0 i1 i2 M)
    else
      (zcl (mf_X12_isWord R a0 i2 M) fun r5 M4 =>
      if r5 = 0 then
        (mf_X12_readSaid_l10 R F_readOr F_readAnd F_readSaid F_readNot F_readBracket a0 fuel i1 (i2 + 1) M4)
      else
        (mf_X12_readSaid_b30 R F_readOr F_readAnd F_readSaid F_readNot F_readBracket a0 i1 i2 M4))
theorem mt_X12_readSaid_l10 {d : Nat} {C : zCx} {ad : Nat → Nat} {T : zTT} {R : zRR} {F_readOr : zRR → Nat → zMem → Option (Int32 × zMem)} {F_readAnd : zRR → Nat → zMem → Option (Int32 × zMem)} {F_readSaid : zRR → Nat → zMem → Option (Int32 × zMem)} {F_readNot : zRR → Nat → zMem → Option (Int32 × zMem)} {F_readBracket : zRR → Nat → zMem → Option (Int32 × zMem)} {a0 : Nat} (hF_readOr : ∀ (l : Launch) {a0 : Nat} (h0 : zi12 T R a0)  (M : zMem), zMS l yX12_readOr (mi_X12_readOr d) zrvI (F_readOr R a0 M) [.ref a0] T R M) (hF_readAnd : ∀ (l : Launch) {a0 : Nat} (h0 : zi12 T R a0)  (M : zMem), zMS l yX12_readAnd (mi_X12_readAnd d) zrvI (F_readAnd R a0 M) [.ref a0] T R M) (hF_readSaid : ∀ (l : Launch) {a0 : Nat} (h0 : zi12 T R a0)  (M : zMem), zMS l yX12_readSaid (mi_X12_readSaid d) zrvI (F_readSaid R a0 M) [.ref a0] T R M) (hF_readNot : ∀ (l : Launch) {a0 : Nat} (h0 : zi12 T R a0)  (M : zMem), zMS l yX12_readNot (mi_X12_readNot d) zrvI (F_readNot R a0 M) [.ref a0] T R M) (hF_readBracket : ∀ (l : Launch) {a0 : Nat} (h0 : zi12 T R a0)  (M : zMem), zMS l yX12_readBracket (mi_X12_readBracket d) zrvI (F_readBracket R a0 M) [.ref a0] T R M) (h0 : zi12 T R a0) : ∀ (fuel : Nat) (i1 : Int32) (i2 : Int32) (M : zMem), zX C (mi_X12_readSaid (d + 1)) (zFin C zrvI ad T R) 0 0 (mf_X12_readSaid_l10 R F_readOr F_readAnd F_readSaid F_readNot F_readBracket a0 fuel i1 i2 M) 10 [(0, .ref a0), (1, .int i1), (2, .int i2)] [] ad T R M := by
  intro fuel
  induction fuel with
  | zero => intros; exact zx_none
  | succ fuel ih =>
    intro i1 i2 M
    rw [mf_X12_readSaid_l10]
    refine zx_iload_n (i := 2) (zd me_X12_readSaid 6 rfl) rfl 2 rfl ?_
    refine zx_bipush (v := 23) (zd me_X12_readSaid 7 rfl) (by decide) ?_
    refine zx_icmp_gt (tgt := 30) (zd me_X12_readSaid 8 rfl) (by decide) (fun c3 => ?_) (fun c3 => ?_)
    · exact mt_X12_readSaid_b30 hF_readOr hF_readAnd hF_readSaid hF_readNot hF_readBracket h0 i1 i2 M
    · refine zx_aload_n (i := 0) (zd me_X12_readSaid 9 rfl) rfl 0 rfl ?_
      refine zx_iload_n (i := 2) (zd me_X12_readSaid 10 rfl) rfl 2 rfl ?_
      refine zx_callVI1 (zd me_X12_readSaid 11 rfl) (mc_X12_isWord (zl C) h0 i2 M) lk_X12_203 ⟨Nat.le_trans (m := 8) (Nat.le_of_ble_eq_true rfl) (Nat.le_add_right 8 _), Nat.le_trans (m := 183) (Nat.le_of_ble_eq_true rfl) (Nat.le_add_right 183 _)⟩ (Nat.le_of_ble_eq_true rfl) (zi12_c h0) rfl (fun r5 M4 => ?_)
      refine zx_if_ne (tgt := 30) (zd me_X12_readSaid 12 rfl) (by decide) (fun c6 => ?_) (fun c6 => ?_)
      · exact mt_X12_readSaid_b30 hF_readOr hF_readAnd hF_readSaid hF_readNot hF_readBracket h0 i1 i2 M4
      · refine zx_iinc (v := 1) (ls' := [(2, .int (i2 + 1)), (0, .ref a0), (1, .int i1)]) (zd me_X12_readSaid 13 rfl) (Nat.le_of_ble_eq_true rfl) 2 rfl (by decide) rfl ?_
        refine zx_goto (tgt := 10) (zd me_X12_readSaid 14 rfl) (by decide) ?_
        refine zx_loc [1, 2, 0] rfl ?_
        exact ih i1 (i2 + 1) M4
def mf_X12_readSaid (R : zRR) (F_readOr : zRR → Nat → zMem → Option (Int32 × zMem)) (F_readAnd : zRR → Nat → zMem → Option (Int32 × zMem)) (F_readSaid : zRR → Nat → zMem → Option (Int32 × zMem)) (F_readNot : zRR → Nat → zMem → Option (Int32 × zMem)) (F_readBracket : zRR → Nat → zMem → Option (Int32 × zMem)) (a0 : Nat) (M : zMem) : Option (Int32 × zMem) :=
  zcl (mf_X12_isSign R a0 (40 : Int32) M) fun r2 M1 =>
  mf_X12_readSaid_l10 R F_readOr F_readAnd F_readSaid F_readNot F_readBracket a0 zF r2 (13 : Int32) M1
theorem mm_X12_readSaid {d : Nat} (l : Launch) {T : zTT} {R : zRR} {F_readOr : zRR → Nat → zMem → Option (Int32 × zMem)} {F_readAnd : zRR → Nat → zMem → Option (Int32 × zMem)} {F_readSaid : zRR → Nat → zMem → Option (Int32 × zMem)} {F_readNot : zRR → Nat → zMem → Option (Int32 × zMem)} {F_readBracket : zRR → Nat → zMem → Option (Int32 × zMem)} {a0 : Nat} (hF_readOr : ∀ (l : Launch) {a0 : Nat} (h0 : zi12 T R a0)  (M : zMem), zMS l yX12_readOr (mi_X12_readOr d) zrvI (F_readOr R a0 M) [.ref a0] T R M) (hF_readAnd : ∀ (l : Launch) {a0 : Nat} (h0 : zi12 T R a0)  (M : zMem), zMS l yX12_readAnd (mi_X12_readAnd d) zrvI (F_readAnd R a0 M) [.ref a0] T R M) (hF_readSaid : ∀ (l : Launch) {a0 : Nat} (h0 : zi12 T R a0)  (M : zMem), zMS l yX12_readSaid (mi_X12_readSaid d) zrvI (F_readSaid R a0 M) [.ref a0] T R M) (hF_readNot : ∀ (l : Launch) {a0 : Nat} (h0 : zi12 T R a0)  (M : zMem), zMS l yX12_readNot (mi_X12_readNot d) zrvI (F_readNot R a0 M) [.ref a0] T R M) (hF_readBracket : ∀ (l : Launch) {a0 : Nat} (h0 : zi12 T R a0)  (M : zMem), zMS l yX12_readBracket (mi_X12_readBracket d) zrvI (F_readBracket R a0 M) [.ref a0] T R M) (h0 : zi12 T R a0) (M : zMem) : zMS l yX12_readSaid (mi_X12_readSaid (d + 1)) zrvI (mf_X12_readSaid R F_readOr F_readAnd F_readSaid F_readNot F_readBracket a0 M) [.ref a0] T R M := by
  refine zMS.of (by decide +kernel) rfl ⟨rfl, rfl⟩ (Nat.le_of_ble_eq_true rfl) (fun C ad _ => ?_)
  show zX C (mi_X12_readSaid (d + 1)) (zFin C zrvI ad T R) 0 0 (mf_X12_readSaid R F_readOr F_readAnd F_readSaid F_readNot F_readBracket a0 M) 0 [(0, .ref a0)] [] ad T R M
  unfold mf_X12_readSaid
  refine zx_aload_n (i := 0) (zd me_X12_readSaid 0 rfl) rfl 0 rfl ?_
  refine zx_bipush (v := 40) (zd me_X12_readSaid 1 rfl) (by decide) ?_
  refine zx_callVI1 (zd me_X12_readSaid 2 rfl) (mc_X12_isSign (zl C) h0 (40 : Int32) M) lk_X12_86 ⟨Nat.le_trans (m := 8) (Nat.le_of_ble_eq_true rfl) (Nat.le_add_right 8 _), Nat.le_trans (m := 183) (Nat.le_of_ble_eq_true rfl) (Nat.le_add_right 183 _)⟩ (Nat.le_of_ble_eq_true rfl) (zi12_c h0) rfl (fun r2 M1 => ?_)
  refine zx_istore_n (i := 1) (ls' := [(1, .int r2), (0, .ref a0)]) (zd me_X12_readSaid 3 rfl) rfl (Nat.le_of_ble_eq_true rfl) rfl ?_
  refine zx_bipush (v := 13) (zd me_X12_readSaid 4 rfl) (by decide) ?_
  refine zx_istore_n (i := 2) (ls' := [(2, .int (13 : Int32)), (1, .int r2), (0, .ref a0)]) (zd me_X12_readSaid 5 rfl) rfl (Nat.le_of_ble_eq_true rfl) rfl ?_
  refine zx_loc [2, 1, 0] rfl ?_
  exact mt_X12_readSaid_l10 hF_readOr hF_readAnd hF_readSaid hF_readNot hF_readBracket h0 zF r2 (13 : Int32) M1
def mf_X12_readNot (R : zRR) (F_readOr : zRR → Nat → zMem → Option (Int32 × zMem)) (F_readAnd : zRR → Nat → zMem → Option (Int32 × zMem)) (F_readSaid : zRR → Nat → zMem → Option (Int32 × zMem)) (F_readNot : zRR → Nat → zMem → Option (Int32 × zMem)) (F_readBracket : zRR → Nat → zMem → Option (Int32 × zMem)) (a0 : Nat) (M : zMem) : Option (Int32 × zMem) :=
  zcl (F_readSaid R a0 M) fun r2 M1 =>
  if r2 = 0 then
    (some ((0 : Int32), M1))
  else
    (zcl (mf_X12_saysOne R a0 (1 : Int32) (M1.1 a0 51) (0 : Int32) (0 : Int32) M1) fun r5 M4 =>
    zlet (zwI M4 a0 51 r5) fun M6 =>
    some ((1 : Int32), M6))
theorem mm_X12_readNot {d : Nat} (l : Launch) {T : zTT} {R : zRR} {F_readOr : zRR → Nat → zMem → Option (Int32 × zMem)} {F_readAnd : zRR → Nat → zMem → Option (Int32 × zMem)} {F_readSaid : zRR → Nat → zMem → Option (Int32 × zMem)} {F_readNot : zRR → Nat → zMem → Option (Int32 × zMem)} {F_readBracket : zRR → Nat → zMem → Option (Int32 × zMem)} {a0 : Nat} (hF_readOr : ∀ (l : Launch) {a0 : Nat} (h0 : zi12 T R a0)  (M : zMem), zMS l yX12_readOr (mi_X12_readOr d) zrvI (F_readOr R a0 M) [.ref a0] T R M) (hF_readAnd : ∀ (l : Launch) {a0 : Nat} (h0 : zi12 T R a0)  (M : zMem), zMS l yX12_readAnd (mi_X12_readAnd d) zrvI (F_readAnd R a0 M) [.ref a0] T R M) (hF_readSaid : ∀ (l : Launch) {a0 : Nat} (h0 : zi12 T R a0)  (M : zMem), zMS l yX12_readSaid (mi_X12_readSaid d) zrvI (F_readSaid R a0 M) [.ref a0] T R M) (hF_readNot : ∀ (l : Launch) {a0 : Nat} (h0 : zi12 T R a0)  (M : zMem), zMS l yX12_readNot (mi_X12_readNot d) zrvI (F_readNot R a0 M) [.ref a0] T R M) (hF_readBracket : ∀ (l : Launch) {a0 : Nat} (h0 : zi12 T R a0)  (M : zMem), zMS l yX12_readBracket (mi_X12_readBracket d) zrvI (F_readBracket R a0 M) [.ref a0] T R M) (h0 : zi12 T R a0) (M : zMem) : zMS l yX12_readNot (mi_X12_readNot (d + 1)) zrvI (mf_X12_readNot R F_readOr F_readAnd F_readSaid F_readNot F_readBracket a0 M) [.ref a0] T R M := by
  refine zMS.of (by decide +kernel) rfl ⟨rfl, rfl⟩ (Nat.le_of_ble_eq_true rfl) (fun C ad _ => ?_)
  show zX C (mi_X12_readNot (d + 1)) (zFin C zrvI ad T R) 0 0 (mf_X12_readNot R F_readOr F_readAnd F_readSaid F_readNot F_readBracket a0 M) 0 [(0, .ref a0)] [] ad T R M
  unfold mf_X12_readNot
  refine zx_aload_n (i := 0) (zd me_X12_readNot 0 rfl) rfl 0 rfl ?_
  refine zx_callVI0 (zd me_X12_readNot 1 rfl) (hF_readSaid (zl C) h0 M) (lk_X12_463 d) ⟨Nat.le_refl _, by show 8 + (4 + 11) + (183 + 23 * d) ≤ 183 + 23 * (d + 1); omega⟩ (Nat.le_of_ble_eq_true rfl) (zi12_c h0) rfl (fun r2 M1 => ?_)
  refine zx_if_ne (tgt := 9) (zd me_X12_readNot 2 rfl) (by decide) (fun c3 => ?_) (fun c3 => ?_)
  · refine zx_aload_n (i := 0) (zd me_X12_readNot 5 rfl) rfl 0 rfl ?_
    refine zx_aload_n (i := 0) (zd me_X12_readNot 6 rfl) rfl 0 rfl ?_
    refine zx_iconst (v := 1) (zd me_X12_readNot 7 rfl) (by decide) ?_
    refine zx_aload_n (i := 0) (zd me_X12_readNot 8 rfl) rfl 0 rfl ?_
    refine zx_getI (zd me_X12_readNot 9 rfl) fl_X12_456 (zi12_c h0) rfl ?_
    refine zx_iconst (v := 0) (zd me_X12_readNot 10 rfl) (by decide) ?_
    refine zx_iconst (v := 0) (zd me_X12_readNot 11 rfl) (by decide) ?_
    refine zx_callVI4 (zd me_X12_readNot 12 rfl) (mc_X12_saysOne (zl C) h0 (1 : Int32) (M1.1 a0 51) (0 : Int32) (0 : Int32) M1) lk_X12_459 ⟨Nat.le_trans (m := 8) (Nat.le_of_ble_eq_true rfl) (Nat.le_add_right 8 _), Nat.le_trans (m := 183) (Nat.le_of_ble_eq_true rfl) (Nat.le_add_right 183 _)⟩ (Nat.le_of_ble_eq_true rfl) (zi12_c h0) rfl (fun r5 M4 => ?_)
    refine zx_putI (zd me_X12_readNot 13 rfl) fp_X12_456 (zi12_c h0) rfl (fun M6 _ => ?_)
    refine zx_iconst (v := 1) (zd me_X12_readNot 14 rfl) (by decide) ?_
    exact zx_zret (zd me_X12_readNot 15 rfl) rfl rfl
  · refine zx_iconst (v := 0) (zd me_X12_readNot 3 rfl) (by decide) ?_
    exact zx_zret (zd me_X12_readNot 4 rfl) rfl rfl
def mf_X12_readBracket (R : zRR) (F_readOr : zRR → Nat → zMem → Option (Int32 × zMem)) (F_readAnd : zRR → Nat → zMem → Option (Int32 × zMem)) (F_readSaid : zRR → Nat → zMem → Option (Int32 × zMem)) (F_readNot : zRR → Nat → zMem → Option (Int32 × zMem)) (F_readBracket : zRR → Nat → zMem → Option (Int32 × zMem)) (a0 : Nat) (M : zMem) : Option (Int32 × zMem) :=
  zcl (F_readOr R a0 M) fun r2 M1 =>
  if r2 = 0 then
    (some ((0 : Int32), M1))
  else
    (zcl (mf_X12_isSign R a0 (41 : Int32) M1) fun r5 M4 =>
    if r5 = 0 then
      (zcl (mf_X12_bad R a0 (1 : Int32) M4) fun r10 M9 =>
      zchk (r10 = 0 ∨ r10 = 1) (some (r10, M9)))
    else
      (zcl (mf_X12_go R a0 M4) fun _ M7 =>
      some ((1 : Int32), M7)))
theorem mm_X12_readBracket {d : Nat} (l : Launch) {T : zTT} {R : zRR} {F_readOr : zRR → Nat → zMem → Option (Int32 × zMem)} {F_readAnd : zRR → Nat → zMem → Option (Int32 × zMem)} {F_readSaid : zRR → Nat → zMem → Option (Int32 × zMem)} {F_readNot : zRR → Nat → zMem → Option (Int32 × zMem)} {F_readBracket : zRR → Nat → zMem → Option (Int32 × zMem)} {a0 : Nat} (hF_readOr : ∀ (l : Launch) {a0 : Nat} (h0 : zi12 T R a0)  (M : zMem), zMS l yX12_readOr (mi_X12_readOr d) zrvI (F_readOr R a0 M) [.ref a0] T R M) (hF_readAnd : ∀ (l : Launch) {a0 : Nat} (h0 : zi12 T R a0)  (M : zMem), zMS l yX12_readAnd (mi_X12_readAnd d) zrvI (F_readAnd R a0 M) [.ref a0] T R M) (hF_readSaid : ∀ (l : Launch) {a0 : Nat} (h0 : zi12 T R a0)  (M : zMem), zMS l yX12_readSaid (mi_X12_readSaid d) zrvI (F_readSaid R a0 M) [.ref a0] T R M) (hF_readNot : ∀ (l : Launch) {a0 : Nat} (h0 : zi12 T R a0)  (M : zMem), zMS l yX12_readNot (mi_X12_readNot d) zrvI (F_readNot R a0 M) [.ref a0] T R M) (hF_readBracket : ∀ (l : Launch) {a0 : Nat} (h0 : zi12 T R a0)  (M : zMem), zMS l yX12_readBracket (mi_X12_readBracket d) zrvI (F_readBracket R a0 M) [.ref a0] T R M) (h0 : zi12 T R a0) (M : zMem) : zMS l yX12_readBracket (mi_X12_readBracket (d + 1)) zrvI (mf_X12_readBracket R F_readOr F_readAnd F_readSaid F_readNot F_readBracket a0 M) [.ref a0] T R M := by
  refine zMS.of (by decide +kernel) rfl ⟨rfl, rfl⟩ (Nat.le_of_ble_eq_true rfl) (fun C ad _ => ?_)
  show zX C (mi_X12_readBracket (d + 1)) (zFin C zrvI ad T R) 0 0 (mf_X12_readBracket R F_readOr F_readAnd F_readSaid F_readNot F_readBracket a0 M) 0 [(0, .ref a0)] [] ad T R M
  unfold mf_X12_readBracket
  refine zx_aload_n (i := 0) (zd me_X12_readBracket 0 rfl) rfl 0 rfl ?_
  refine zx_callVI0 (zd me_X12_readBracket 1 rfl) (hF_readOr (zl C) h0 M) (lk_X12_484 d) ⟨Nat.le_refl _, by show 8 + (2 + 11) + (183 + 23 * d) ≤ 183 + 23 * (d + 1); omega⟩ (Nat.le_of_ble_eq_true rfl) (zi12_c h0) rfl (fun r2 M1 => ?_)
  refine zx_if_ne (tgt := 9) (zd me_X12_readBracket 2 rfl) (by decide) (fun c3 => ?_) (fun c3 => ?_)
  · refine zx_aload_n (i := 0) (zd me_X12_readBracket 5 rfl) rfl 0 rfl ?_
    refine zx_bipush (v := 41) (zd me_X12_readBracket 6 rfl) (by decide) ?_
    refine zx_callVI1 (zd me_X12_readBracket 7 rfl) (mc_X12_isSign (zl C) h0 (41 : Int32) M1) lk_X12_86 ⟨Nat.le_trans (m := 8) (Nat.le_of_ble_eq_true rfl) (Nat.le_add_right 8 _), Nat.le_trans (m := 183) (Nat.le_of_ble_eq_true rfl) (Nat.le_add_right 183 _)⟩ (Nat.le_of_ble_eq_true rfl) (zi12_c h0) rfl (fun r5 M4 => ?_)
    refine zx_if_ne (tgt := 24) (zd me_X12_readBracket 8 rfl) (by decide) (fun c6 => ?_) (fun c6 => ?_)
    · refine zx_aload_n (i := 0) (zd me_X12_readBracket 13 rfl) rfl 0 rfl ?_
      refine zx_callVV0 (zd me_X12_readBracket 14 rfl) (mc_X12_go (zl C) h0 M4) lk_X12_82 ⟨Nat.le_trans (m := 8) (Nat.le_of_ble_eq_true rfl) (Nat.le_add_right 8 _), Nat.le_trans (m := 183) (Nat.le_of_ble_eq_true rfl) (Nat.le_add_right 183 _)⟩ (Nat.le_of_ble_eq_true rfl) (zi12_c h0) rfl (fun r8 M7 => ?_)
      refine zx_iconst (v := 1) (zd me_X12_readBracket 15 rfl) (by decide) ?_
      exact zx_zret (zd me_X12_readBracket 16 rfl) rfl rfl
    · refine zx_aload_n (i := 0) (zd me_X12_readBracket 9 rfl) rfl 0 rfl ?_
      refine zx_iconst (v := 1) (zd me_X12_readBracket 10 rfl) (by decide) ?_
      refine zx_callVI1 (zd me_X12_readBracket 11 rfl) (mc_X12_bad (zl C) h0 (1 : Int32) M4) lk_X12_72 ⟨Nat.le_trans (m := 8) (Nat.le_of_ble_eq_true rfl) (Nat.le_add_right 8 _), Nat.le_trans (m := 183) (Nat.le_of_ble_eq_true rfl) (Nat.le_add_right 183 _)⟩ (Nat.le_of_ble_eq_true rfl) (zi12_c h0) rfl (fun r10 M9 => ?_)
      exact zx_zretC (zd me_X12_readBracket 12 rfl) rfl
  · refine zx_iconst (v := 0) (zd me_X12_readBracket 3 rfl) (by decide) ?_
    exact zx_zret (zd me_X12_readBracket 4 rfl) rfl rfl
def mg_X12a : Nat → (zRR → Nat → zMem → Option (Int32 × zMem)) × (zRR → Nat → zMem → Option (Int32 × zMem)) × (zRR → Nat → zMem → Option (Int32 × zMem)) × (zRR → Nat → zMem → Option (Int32 × zMem)) × (zRR → Nat → zMem → Option (Int32 × zMem))
  | 0 => (fun _ _ _ => none, fun _ _ _ => none, fun _ _ _ => none, fun _ _ _ => none, fun _ _ _ => none)
  | d + 1 => (fun R => mf_X12_readOr R (mg_X12a d).1 (mg_X12a d).2.1 (mg_X12a d).2.2.1 (mg_X12a d).2.2.2.1 (mg_X12a d).2.2.2.2, fun R => mf_X12_readAnd R (mg_X12a d).1 (mg_X12a d).2.1 (mg_X12a d).2.2.1 (mg_X12a d).2.2.2.1 (mg_X12a d).2.2.2.2, fun R => mf_X12_readSaid R (mg_X12a d).1 (mg_X12a d).2.1 (mg_X12a d).2.2.1 (mg_X12a d).2.2.2.1 (mg_X12a d).2.2.2.2, fun R => mf_X12_readNot R (mg_X12a d).1 (mg_X12a d).2.1 (mg_X12a d).2.2.1 (mg_X12a d).2.2.2.1 (mg_X12a d).2.2.2.2, fun R => mf_X12_readBracket R (mg_X12a d).1 (mg_X12a d).2.1 (mg_X12a d).2.2.1 (mg_X12a d).2.2.2.1 (mg_X12a d).2.2.2.2)
def mr_X12_readOr (d : Nat) : zRR → Nat → zMem → Option (Int32 × zMem) := (mg_X12a d).1
def mr_X12_readAnd (d : Nat) : zRR → Nat → zMem → Option (Int32 × zMem) := (mg_X12a d).2.1
def mr_X12_readSaid (d : Nat) : zRR → Nat → zMem → Option (Int32 × zMem) := (mg_X12a d).2.2.1
def mr_X12_readNot (d : Nat) : zRR → Nat → zMem → Option (Int32 × zMem) := (mg_X12a d).2.2.2.1
def mr_X12_readBracket (d : Nat) : zRR → Nat → zMem → Option (Int32 × zMem) := (mg_X12a d).2.2.2.2
theorem mgc_X12a : ∀ d : Nat, (∀ (l : Launch) {T : zTT} {R : zRR} {a0 : Nat} (h0 : zi12 T R a0)  (M : zMem), zMS l yX12_readOr (mi_X12_readOr (d)) zrvI (mr_X12_readOr (d) R a0 M) [.ref a0] T R M) ∧ (∀ (l : Launch) {T : zTT} {R : zRR} {a0 : Nat} (h0 : zi12 T R a0)  (M : zMem), zMS l yX12_readAnd (mi_X12_readAnd (d)) zrvI (mr_X12_readAnd (d) R a0 M) [.ref a0] T R M) ∧ (∀ (l : Launch) {T : zTT} {R : zRR} {a0 : Nat} (h0 : zi12 T R a0)  (M : zMem), zMS l yX12_readSaid (mi_X12_readSaid (d)) zrvI (mr_X12_readSaid (d) R a0 M) [.ref a0] T R M) ∧ (∀ (l : Launch) {T : zTT} {R : zRR} {a0 : Nat} (h0 : zi12 T R a0)  (M : zMem), zMS l yX12_readNot (mi_X12_readNot (d)) zrvI (mr_X12_readNot (d) R a0 M) [.ref a0] T R M) ∧ (∀ (l : Launch) {T : zTT} {R : zRR} {a0 : Nat} (h0 : zi12 T R a0)  (M : zMem), zMS l yX12_readBracket (mi_X12_readBracket (d)) zrvI (mr_X12_readBracket (d) R a0 M) [.ref a0] T R M) := by
  intro d
  induction d with
  | zero => exact ⟨(by intros; intro r M1 h; cases (show (none : Option (Int32 × zMem)) = some (r, M1) from h)), (by intros; intro r M1 h; cases (show (none : Option (Int32 × zMem)) = some (r, M1) from h)), (by intros; intro r M1 h; cases (show (none : Option (Int32 × zMem)) = some (r, M1) from h)), (by intros; intro r M1 h; cases (show (none : Option (Int32 × zMem)) = some (r, M1) from h)), (by intros; intro r M1 h; cases (show (none : Option (Int32 × zMem)) = some (r, M1) from h))⟩
  | succ d ih =>
    obtain ⟨q0, q1, q2, q3, q4⟩ := ih
    exact ⟨fun l {T} {R} {a0} h0 M => mm_X12_readOr l (T := T) (R := R) (fun l {a0} h0 M => q0 l h0 M) (fun l {a0} h0 M => q1 l h0 M) (fun l {a0} h0 M => q2 l h0 M) (fun l {a0} h0 M => q3 l h0 M) (fun l {a0} h0 M => q4 l h0 M) h0 M, fun l {T} {R} {a0} h0 M => mm_X12_readAnd l (T := T) (R := R) (fun l {a0} h0 M => q0 l h0 M) (fun l {a0} h0 M => q1 l h0 M) (fun l {a0} h0 M => q2 l h0 M) (fun l {a0} h0 M => q3 l h0 M) (fun l {a0} h0 M => q4 l h0 M) h0 M, fun l {T} {R} {a0} h0 M => mm_X12_readSaid l (T := T) (R := R) (fun l {a0} h0 M => q0 l h0 M) (fun l {a0} h0 M => q1 l h0 M) (fun l {a0} h0 M => q2 l h0 M) (fun l {a0} h0 M => q3 l h0 M) (fun l {a0} h0 M => q4 l h0 M) h0 M, fun l {T} {R} {a0} h0 M => mm_X12_readNot l (T := T) (R := R) (fun l {a0} h0 M => q0 l h0 M) (fun l {a0} h0 M => q1 l h0 M) (fun l {a0} h0 M => q2 l h0 M) (fun l {a0} h0 M => q3 l h0 M) (fun l {a0} h0 M => q4 l h0 M) h0 M, fun l {T} {R} {a0} h0 M => mm_X12_readBracket l (T := T) (R := R) (fun l {a0} h0 M => q0 l h0 M) (fun l {a0} h0 M => q1 l h0 M) (fun l {a0} h0 M => q2 l h0 M) (fun l {a0} h0 M => q3 l h0 M) (fun l {a0} h0 M => q4 l h0 M) h0 M⟩
theorem mc_X12_readOr (l : Launch) {T : zTT} {R : zRR} {a0 : Nat} (h0 : zi12 T R a0)  (M : zMem) : zMS l yX12_readOr (mi_X12_readOr zD) zrvI (mr_X12_readOr zD R a0 M) [.ref a0] T R M := (mgc_X12a zD).1 l h0 M
theorem mc_X12_readAnd (l : Launch) {T : zTT} {R : zRR} {a0 : Nat} (h0 : zi12 T R a0)  (M : zMem) : zMS l yX12_readAnd (mi_X12_readAnd zD) zrvI (mr_X12_readAnd zD R a0 M) [.ref a0] T R M := (mgc_X12a zD).2.1 l h0 M
theorem mc_X12_readSaid (l : Launch) {T : zTT} {R : zRR} {a0 : Nat} (h0 : zi12 T R a0)  (M : zMem) : zMS l yX12_readSaid (mi_X12_readSaid zD) zrvI (mr_X12_readSaid zD R a0 M) [.ref a0] T R M := (mgc_X12a zD).2.2.1 l h0 M
theorem mc_X12_readNot (l : Launch) {T : zTT} {R : zRR} {a0 : Nat} (h0 : zi12 T R a0)  (M : zMem) : zMS l yX12_readNot (mi_X12_readNot zD) zrvI (mr_X12_readNot zD R a0 M) [.ref a0] T R M := (mgc_X12a zD).2.2.2.1 l h0 M
theorem mc_X12_readBracket (l : Launch) {T : zTT} {R : zRR} {a0 : Nat} (h0 : zi12 T R a0)  (M : zMem) : zMS l yX12_readBracket (mi_X12_readBracket zD) zrvI (mr_X12_readBracket zD R a0 M) [.ref a0] T R M := (mgc_X12a zD).2.2.2.2 l h0 M
def mf_X12_sentence_l77 (R : zRR) (a0 : Nat) : Nat → Int32 → zMem → Option (Int32 × zMem)
  | 0, _, _ => none
  | fuel + 1, i1, M =>
    if (240 : Int32) ≤ i1 then
      (some ((M.1 a0 49), M))
    else
      (zald 240 i1 fun j17 =>
      zald 354 ((114 : Int32) + i1) fun j18 =>
      zlet (zwI M (zrf R a0 14) j18 (M.1 (zrf R a0 47) j17)) fun M19 =>
      mf_X12_sentence_l77 R a0 fuel (i1 + 1) M19)
theorem mt_X12_sentence_l77 {C : zCx} {ad : Nat → Nat} {T : zTT} {R : zRR} {a0 : Nat} (h0 : zi12 T R a0) : ∀ (fuel : Nat) (i1 : Int32) (M : zMem), zX C mi_X12_sentence (zFin C zrvI ad T R) 0 0 (mf_X12_sentence_l77 R a0 fuel i1 M) 77 [(0, .ref a0), (1, .int i1)] [] ad T R M := by
  intro fuel
  induction fuel with
  | zero => intros; exact zx_none
  | succ fuel ih =>
    intro i1 M
    rw [mf_X12_sentence_l77]
    refine zx_iload_n (i := 1) (zd me_X12_sentence 45 rfl) rfl 1 rfl ?_
    refine zx_sipush (v := 240) (zd me_X12_sentence 46 rfl) (by decide) ?_
    refine zx_icmp_ge (tgt := 105) (zd me_X12_sentence 47 rfl) (by decide) (fun c16 => ?_) (fun c16 => ?_)
    · refine zx_aload_n (i := 0) (zd me_X12_sentence 60 rfl) rfl 0 rfl ?_
      refine zx_getI (zd me_X12_sentence 61 rfl) fl_X12_466 (zi12_c h0) rfl ?_
      exact zx_iret (zd me_X12_sentence 62 rfl) rfl
    · refine zx_aload_n (i := 0) (zd me_X12_sentence 48 rfl) rfl 0 rfl ?_
      refine zx_getR (zd me_X12_sentence 49 rfl) fl_X12_98 (zi12_c h0) rfl (zi12_r14 h0) ?_
      refine zx_bipush (v := 114) (zd me_X12_sentence 50 rfl) (by decide) ?_
      refine zx_iload_n (i := 1) (zd me_X12_sentence 51 rfl) rfl 1 rfl ?_
      refine zx_iadd (zd me_X12_sentence 52 rfl) ?_
      refine zx_aload_n (i := 0) (zd me_X12_sentence 53 rfl) rfl 0 rfl ?_
      refine zx_getR (zd me_X12_sentence 54 rfl) fl_X12_169 (zi12_c h0) rfl (zi12_r47 h0) ?_
      refine zx_iload_n (i := 1) (zd me_X12_sentence 55 rfl) rfl 1 rfl ?_
      refine zx_iald (zd me_X12_sentence 56 rfl) (zi12_t47 h0) (fun j17 hj17 => ?_)
      refine zx_iast (zd me_X12_sentence 57 rfl) (zi12_t14 h0) (fun M19 => ?_)
      refine zx_iinc (v := 1) (ls' := [(1, .int (i1 + 1)), (0, .ref a0)]) (zd me_X12_sentence 58 rfl) (Nat.le_of_ble_eq_true rfl) 1 rfl (by decide) rfl ?_
      refine zx_goto (tgt := 77) (zd me_X12_sentence 59 rfl) (by decide) ?_
      refine zx_loc [1, 0] rfl ?_
      exact ih (i1 + 1) M19
def mf_X12_sentence (R : zRR) (a0 : Nat) (M : zMem) : Option (Int32 × zMem) :=
  zcl (mf_X12_begin R a0 (200 : Int32) M) fun _ M1 =>
  zlet (zwI M1 a0 48 (0 : Int32)) fun M3 =>
  zlet (zwI M3 a0 49 (0 : Int32)) fun M4 =>
  zlet (zwI M4 a0 50 (0 : Int32)) fun M5 =>
  zcl (mr_X12_readOr zD R a0 M5) fun r7 M6 =>
  if r7 = 0 then
    (some (((-1 : Int32) - (M6.1 a0 11)), M6))
  else
    (if (M6.1 a0 7) = 0 then
      (zald 354 (112 : Int32) fun j10 =>
      zlet (zwI M6 (zrf R a0 14) j10 (1 : Int32)) fun M11 =>
      zald 354 (113 : Int32) fun j12 =>
      zlet (zwI M11 (zrf R a0 14) j12 (M11.1 a0 51)) fun M13 =>
      mf_X12_sentence_l77 R a0 zF (0 : Int32) M13)
    else
      (zcl (mf_X12_bad R a0 (1 : Int32) M6) fun r15 M14 =>
      some (((-1 : Int32) - (M14.1 a0 11)), M14)))
theorem mc_X12_sentence (l : Launch) {T : zTT} {R : zRR} {a0 : Nat} (h0 : zi12 T R a0) (M : zMem) : zMS l yX12_sentence mi_X12_sentence zrvI (mf_X12_sentence R a0 M) [.ref a0] T R M := by
  refine zMS.of (by decide +kernel) rfl ⟨rfl, rfl⟩ (Nat.le_of_ble_eq_true rfl) (fun C ad _ => ?_)
  show zX C mi_X12_sentence (zFin C zrvI ad T R) 0 0 (mf_X12_sentence R a0 M) 0 [(0, .ref a0)] [] ad T R M
  unfold mf_X12_sentence
  refine zx_aload_n (i := 0) (zd me_X12_sentence 0 rfl) rfl 0 rfl ?_
  refine zx_sipush (v := 200) (zd me_X12_sentence 1 rfl) (by decide) ?_
  refine zx_callVV1 (zd me_X12_sentence 2 rfl) (mc_X12_begin (zl C) h0 (200 : Int32) M) lk_X12_218 ⟨(Nat.le_of_ble_eq_true rfl), (Nat.le_of_ble_eq_true rfl)⟩ (Nat.le_of_ble_eq_true rfl) (zi12_c h0) rfl (fun r2 M1 => ?_)
  refine zx_aload_n (i := 0) (zd me_X12_sentence 3 rfl) rfl 0 rfl ?_
  refine zx_iconst (v := 0) (zd me_X12_sentence 4 rfl) (by decide) ?_
  refine zx_putI (zd me_X12_sentence 5 rfl) fp_X12_450 (zi12_c h0) rfl (fun M3 _ => ?_)
  refine zx_aload_n (i := 0) (zd me_X12_sentence 6 rfl) rfl 0 rfl ?_
  refine zx_iconst (v := 0) (zd me_X12_sentence 7 rfl) (by decide) ?_
  refine zx_putI (zd me_X12_sentence 8 rfl) fp_X12_466 (zi12_c h0) rfl (fun M4 _ => ?_)
  refine zx_aload_n (i := 0) (zd me_X12_sentence 9 rfl) rfl 0 rfl ?_
  refine zx_iconst (v := 0) (zd me_X12_sentence 10 rfl) (by decide) ?_
  refine zx_putI (zd me_X12_sentence 11 rfl) fp_X12_469 (zi12_c h0) rfl (fun M5 _ => ?_)
  refine zx_aload_n (i := 0) (zd me_X12_sentence 12 rfl) rfl 0 rfl ?_
  refine zx_callVI0 (zd me_X12_sentence 13 rfl) (mc_X12_readOr (zl C) h0 M5) (lk_X12_484 zD) ⟨(Nat.le_of_ble_eq_true rfl), (Nat.le_of_ble_eq_true rfl)⟩ (Nat.le_of_ble_eq_true rfl) (zi12_c h0) rfl (fun r7 M6 => ?_)
  refine zx_if_ne (tgt := 36) (zd me_X12_sentence 14 rfl) (by decide) (fun c8 => ?_) (fun c8 => ?_)
  · refine zx_aload_n (i := 0) (zd me_X12_sentence 20 rfl) rfl 0 rfl ?_
    refine zx_getI (zd me_X12_sentence 21 rfl) fl_X12_30 (zi12_c h0) rfl ?_
    refine zx_if_eq (tgt := 56) (zd me_X12_sentence 22 rfl) (by decide) (fun c9 => ?_) (fun c9 => ?_)
    · refine zx_aload_n (i := 0) (zd me_X12_sentence 32 rfl) rfl 0 rfl ?_
      refine zx_getR (zd me_X12_sentence 33 rfl) fl_X12_98 (zi12_c h0) rfl (zi12_r14 h0) ?_
      refine zx_bipush (v := 112) (zd me_X12_sentence 34 rfl) (by decide) ?_
      refine zx_iconst (v := 1) (zd me_X12_sentence 35 rfl) (by decide) ?_
      refine zx_iast (zd me_X12_sentence 36 rfl) (zi12_t14 h0) (fun M11 => ?_)
      refine zx_aload_n (i := 0) (zd me_X12_sentence 37 rfl) rfl 0 rfl ?_
      refine zx_getR (zd me_X12_sentence 38 rfl) fl_X12_98 (zi12_c h0) rfl (zi12_r14 h0) ?_
      refine zx_bipush (v := 113) (zd me_X12_sentence 39 rfl) (by decide) ?_
      refine zx_aload_n (i := 0) (zd me_X12_sentence 40 rfl) rfl 0 rfl ?_
      refine zx_getI (zd me_X12_sentence 41 rfl) fl_X12_456 (zi12_c h0) rfl ?_
      refine zx_iast (zd me_X12_sentence 42 rfl) (zi12_t14 h0) (fun M13 => ?_)
      refine zx_iconst (v := 0) (zd me_X12_sentence 43 rfl) (by decide) ?_
      refine zx_istore_n (i := 1) (ls' := [(1, .int (0 : Int32)), (0, .ref a0)]) (zd me_X12_sentence 44 rfl) rfl (Nat.le_of_ble_eq_true rfl) rfl ?_
      refine zx_loc [1, 0] rfl ?_
      exact mt_X12_sentence_l77 h0 zF (0 : Int32) M13
    · refine zx_aload_n (i := 0) (zd me_X12_sentence 23 rfl) rfl 0 rfl ?_
      refine zx_iconst (v := 1) (zd me_X12_sentence 24 rfl) (by decide) ?_
      refine zx_callVI1 (zd me_X12_sentence 25 rfl) (mc_X12_bad (zl C) h0 (1 : Int32) M6) lk_X12_72 ⟨(Nat.le_of_ble_eq_true rfl), (Nat.le_of_ble_eq_true rfl)⟩ (Nat.le_of_ble_eq_true rfl) (zi12_c h0) rfl (fun r15 M14 => ?_)
      refine zx_pop (zd me_X12_sentence 26 rfl) rfl ?_
      refine zx_iconst (v := (-1)) (zd me_X12_sentence 27 rfl) (by decide) ?_
      refine zx_aload_n (i := 0) (zd me_X12_sentence 28 rfl) rfl 0 rfl ?_
      refine zx_getI (zd me_X12_sentence 29 rfl) fl_X12_69 (zi12_c h0) rfl ?_
      refine zx_isub (zd me_X12_sentence 30 rfl) ?_
      exact zx_iret (zd me_X12_sentence 31 rfl) rfl
  · refine zx_iconst (v := (-1)) (zd me_X12_sentence 15 rfl) (by decide) ?_
    refine zx_aload_n (i := 0) (zd me_X12_sentence 16 rfl) rfl 0 rfl ?_
    refine zx_getI (zd me_X12_sentence 17 rfl) fl_X12_69 (zi12_c h0) rfl ?_
    refine zx_isub (zd me_X12_sentence 18 rfl) ?_
    exact zx_iret (zd me_X12_sentence 19 rfl) rfl
def mf_X12_holds_b343 (R : zRR) (F_holds : zRR → Nat → Int32 → Int32 → zMem → Option (Int32 × zMem)) (a0 : Nat) (i3 : Int32) (i5 : Int32) (s0 : Int32) (M : zMem) : Option (Int32 × zMem) :=
  zald 354 (i3 + (3 : Int32)) fun j51 =>
  if (M.1 (zrf R a0 14) j51) = (60 : Int32) then
    (if i5 ≤ s0 then
      (some ((0 : Int32), M))
    else
      (some ((1 : Int32), M)))
  else
    (zald 354 (i3 + (3 : Int32)) fun j53 =>
    if (M.1 (zrf R a0 14) j53) = (61 : Int32) then
      (if s0 = i5 then
        (some ((1 : Int32), M))
      else
        (some ((0 : Int32), M)))
    else
      (if s0 ≤ i5 then
        (some ((0 : Int32), M))
      else
        (some ((1 : Int32), M))))
theorem mt_X12_holds_b343 {d : Nat} {C : zCx} {ad : Nat → Nat} {T : zTT} {R : zRR} {F_holds : zRR → Nat → Int32 → Int32 → zMem → Option (Int32 × zMem)} {a0 : Nat} (hF_holds : ∀ (l : Launch) {a0 : Nat} (h0 : zi12 T R a0) (i1 : Int32) (i2 : Int32) (M : zMem), zMS l yX12_holds (mi_X12_holds d) zrvI (F_holds R a0 i1 i2 M) [.ref a0, .int i1, .int i2] T R M) (h0 : zi12 T R a0) (i3 : Int32) (i5 : Int32) (s0 : Int32) (M : zMem) : zX C (mi_X12_holds (d + 1)) (zFin C zrvI ad T R) 0 0 (mf_X12_holds_b343 R F_holds a0 i3 i5 s0 M) 343 [(0, .ref a0), (3, .int i3), (5, .int i5)] [.int s0] ad T R M := by
  unfold mf_X12_holds_b343
  refine zx_istore (ls' := [(7, .int s0), (0, .ref a0), (3, .int i3), (5, .int i5)]) (zd me_X12_holds 156 rfl) (Nat.le_of_ble_eq_true rfl) rfl ?_
  refine zx_aload_n (i := 0) (zd me_X12_holds 157 rfl) rfl 1 rfl ?_
  refine zx_getR (zd me_X12_holds 158 rfl) fl_X12_98 (zi12_c h0) rfl (zi12_r14 h0) ?_
  refine zx_iload_n (i := 3) (zd me_X12_holds 159 rfl) rfl 2 rfl ?_
  refine zx_iconst (v := 3) (zd me_X12_holds 160 rfl) (by decide) ?_
  refine zx_iadd (zd me_X12_holds 161 rfl) ?_
  refine zx_iald (zd me_X12_holds 162 rfl) (zi12_t14 h0) (fun j51 hj51 => ?_)
  refine zx_bipush (v := 60) (zd me_X12_holds 163 rfl) (by decide) ?_
  refine zx_icmp_ne (tgt := 373) (zd me_X12_holds 164 rfl) (by decide) (fun c52 => ?_) (fun c52 => ?_)
  · refine zx_aload_n (i := 0) (zd me_X12_holds 172 rfl) rfl 1 rfl ?_
    refine zx_getR (zd me_X12_holds 173 rfl) fl_X12_98 (zi12_c h0) rfl (zi12_r14 h0) ?_
    refine zx_iload_n (i := 3) (zd me_X12_holds 174 rfl) rfl 2 rfl ?_
    refine zx_iconst (v := 3) (zd me_X12_holds 175 rfl) (by decide) ?_
    refine zx_iadd (zd me_X12_holds 176 rfl) ?_
    refine zx_iald (zd me_X12_holds 177 rfl) (zi12_t14 h0) (fun j53 hj53 => ?_)
    refine zx_bipush (v := 61) (zd me_X12_holds 178 rfl) (by decide) ?_
    refine zx_icmp_ne (tgt := 401) (zd me_X12_holds 179 rfl) (by decide) (fun c54 => ?_) (fun c54 => ?_)
    · refine zx_iload (zd me_X12_holds 187 rfl) 0 rfl ?_
      refine zx_iload (zd me_X12_holds 188 rfl) 3 rfl ?_
      refine zx_icmp_le (tgt := 412) (zd me_X12_holds 189 rfl) (by decide) (fun c55 => ?_) (fun c55 => ?_)
      · refine zx_iconst (v := 0) (zd me_X12_holds 192 rfl) (by decide) ?_
        exact zx_zret (zd me_X12_holds 193 rfl) rfl rfl
      · refine zx_iconst (v := 1) (zd me_X12_holds 190 rfl) (by decide) ?_
        refine zx_goto (tgt := 413) (zd me_X12_holds 191 rfl) (by decide) ?_
        exact zx_zret (zd me_X12_holds 193 rfl) rfl rfl
    · refine zx_iload (zd me_X12_holds 180 rfl) 0 rfl ?_
      refine zx_iload (zd me_X12_holds 181 rfl) 3 rfl ?_
      refine zx_icmp_ne (tgt := 397) (zd me_X12_holds 182 rfl) (by decide) (fun c56 => ?_) (fun c56 => ?_)
      · refine zx_iconst (v := 0) (zd me_X12_holds 185 rfl) (by decide) ?_
        refine zx_goto (tgt := 413) (zd me_X12_holds 186 rfl) (by decide) ?_
        exact zx_zret (zd me_X12_holds 193 rfl) rfl rfl
      · refine zx_iconst (v := 1) (zd me_X12_holds 183 rfl) (by decide) ?_
        refine zx_goto (tgt := 413) (zd me_X12_holds 184 rfl) (by decide) ?_
        exact zx_zret (zd me_X12_holds 193 rfl) rfl rfl
  · refine zx_iload (zd me_X12_holds 165 rfl) 0 rfl ?_
    refine zx_iload (zd me_X12_holds 166 rfl) 3 rfl ?_
    refine zx_icmp_ge (tgt := 369) (zd me_X12_holds 167 rfl) (by decide) (fun c57 => ?_) (fun c57 => ?_)
    · refine zx_iconst (v := 0) (zd me_X12_holds 170 rfl) (by decide) ?_
      refine zx_goto (tgt := 413) (zd me_X12_holds 171 rfl) (by decide) ?_
      exact zx_zret (zd me_X12_holds 193 rfl) rfl rfl
    · refine zx_iconst (v := 1) (zd me_X12_holds 168 rfl) (by decide) ?_
      refine zx_goto (tgt := 413) (zd me_X12_holds 169 rfl) (by decide) ?_
      exact zx_zret (zd me_X12_holds 193 rfl) rfl rfl
def mf_X12_holds (R : zRR) (F_holds : zRR → Nat → Int32 → Int32 → zMem → Option (Int32 × zMem)) (a0 : Nat) (i1 : Int32) (i2 : Int32) (M : zMem) : Option (Int32 × zMem) :=
  zlet (((114 : Int32) + ((4 : Int32) * i1)) : Int32) fun x1 =>
  zald 354 (x1 + (1 : Int32)) fun j2 =>
  zlet ((M.1 (zrf R a0 14) j2) : Int32) fun x3 =>
  zald 354 (x1 + (2 : Int32)) fun j4 =>
  zlet ((M.1 (zrf R a0 14) j4) : Int32) fun x5 =>
  zald 354 x1 fun j6 =>
  if (M.1 (zrf R a0 14) j6) = 1 then
    (zcl (F_holds R a0 x3 i2 M) fun r9 M8 =>
    if r9 = 0 then
      (some ((1 : Int32), M8))
    else
      (some ((0 : Int32), M8)))
  else
  if (M.1 (zrf R a0 14) j6) = 2 then
    (zcl (F_holds R a0 x3 i2 M) fun r13 M12 =>
    if r13 = 0 then
      (some ((0 : Int32), M12))
    else
      (zcl (F_holds R a0 x5 i2 M12) fun r16 M15 =>
      if r16 = 0 then
        (some ((0 : Int32), M15))
      else
        (some ((1 : Int32), M15))))
  else
  if (M.1 (zrf R a0 14) j6) = 3 then
    (zcl (F_holds R a0 x3 i2 M) fun r20 M19 =>
    if r20 = 0 then
      (zcl (F_holds R a0 x5 i2 M19) fun r23 M22 =>
      if r23 = 0 then
        (some ((0 : Int32), M22))
      else
        (some ((1 : Int32), M22)))
    else
      (some ((1 : Int32), M19)))
  else
  if (M.1 (zrf R a0 14) j6) = 64 then
    (zcl (mf_X12_isWaiting R a0 i2 M) fun r27 M26 =>
    zchk (r27 = 0 ∨ r27 = 1) (some (r27, M26)))
  else
  if (M.1 (zrf R a0 14) j6) = 65 then
    (zald 354 ((64 : Int32) + i2) fun j29 =>
    if (M.1 (zrf R a0 14) j29) = (2 : Int32) then
      (some ((1 : Int32), M))
    else
      (some ((0 : Int32), M)))
  else
  if (M.1 (zrf R a0 14) j6) = 66 then
    (zald 354 ((64 : Int32) + i2) fun j32 =>
    if (M.1 (zrf R a0 14) j32) = (3 : Int32) then
      (some ((1 : Int32), M))
    else
      (some ((0 : Int32), M)))
  else
  if (M.1 (zrf R a0 14) j6) = 67 then
    (zcl (mf_X12_isHeld R a0 i2 M) fun r36 M35 =>
    zchk (r36 = 0 ∨ r36 = 1) (some (r36, M35)))
  else
  if (M.1 (zrf R a0 14) j6) = 68 then
    (zald 354 ((72 : Int32) + i2) fun j38 =>
    if (M.1 (zrf R a0 14) j38) = x3 then
      (some ((1 : Int32), M))
    else
      (some ((0 : Int32), M)))
  else
  if (M.1 (zrf R a0 14) j6) = 69 then
    (zald 354 ((48 : Int32) + i2) fun j41 =>
    if (M.1 (zrf R a0 14) j41) = x3 then
      (some ((1 : Int32), M))
    else
      (some ((0 : Int32), M)))
  else
    (zald 354 x1 fun j43 =>
    zlet (((M.1 (zrf R a0 14) j43) - (50 : Int32)) : Int32) fun x44 =>
    if x44 = (20 : Int32) then
      (zald 354 ((80 : Int32) + i2) fun j50 =>
      mf_X12_holds_b343 R F_holds a0 x1 x5 (M.1 (zrf R a0 14) j50) M)
    else
      (if x44 = (21 : Int32) then
        (zald 354 ((96 : Int32) + i2) fun j49 =>
        mf_X12_holds_b343 R F_holds a0 x1 x5 (M.1 (zrf R a0 14) j49) M)
      else
        (if x44 = (22 : Int32) then
          (zald 354 ((104 : Int32) + i2) fun j48 =>
          mf_X12_holds_b343 R F_holds a0 x1 x5 (M.1 (zrf R a0 14) j48) M)
        else
          (mf_X12_holds_b343 R F_holds a0 x1 x5 i2 M))))
theorem mm_X12_holds {d : Nat} (l : Launch) {T : zTT} {R : zRR} {F_holds : zRR → Nat → Int32 → Int32 → zMem → Option (Int32 × zMem)} {a0 : Nat} (hF_holds : ∀ (l : Launch) {a0 : Nat} (h0 : zi12 T R a0) (i1 : Int32) (i2 : Int32) (M : zMem), zMS l yX12_holds (mi_X12_holds d) zrvI (F_holds R a0 i1 i2 M) [.ref a0, .int i1, .int i2] T R M) (h0 : zi12 T R a0) (i1 : Int32) (i2 : Int32) (M : zMem) : zMS l yX12_holds (mi_X12_holds (d + 1)) zrvI (mf_X12_holds R F_holds a0 i1 i2 M) [.ref a0, .int i1, .int i2] T R M := by
  refine zMS.of (by decide +kernel) rfl ⟨rfl, rfl⟩ (Nat.le_of_ble_eq_true rfl) (fun C ad _ => ?_)
  show zX C (mi_X12_holds (d + 1)) (zFin C zrvI ad T R) 0 0 (mf_X12_holds R F_holds a0 i1 i2 M) 0 [(0, .ref a0), (1, .int i1), (2, .int i2)] [] ad T R M
  unfold mf_X12_holds
  refine zx_bipush (v := 114) (zd me_X12_holds 0 rfl) (by decide) ?_
  refine zx_iconst (v := 4) (zd me_X12_holds 1 rfl) (by decide) ?_
  refine zx_iload_n (i := 1) (zd me_X12_holds 2 rfl) rfl 1 rfl ?_
  refine zx_imul (zd me_X12_holds 3 rfl) ?_
  refine zx_iadd (zd me_X12_holds 4 rfl) ?_
  refine zx_leti (fun x1 => ?_)
  refine zx_istore_n (i := 3) (ls' := [(3, .int x1), (0, .ref a0), (1, .int i1), (2, .int i2)]) (zd me_X12_holds 5 rfl) rfl (Nat.le_of_ble_eq_true rfl) rfl ?_
  refine zx_aload_n (i := 0) (zd me_X12_holds 6 rfl) rfl 1 rfl ?_
  refine zx_getR (zd me_X12_holds 7 rfl) fl_X12_98 (zi12_c h0) rfl (zi12_r14 h0) ?_
  refine zx_iload_n (i := 3) (zd me_X12_holds 8 rfl) rfl 0 rfl ?_
  refine zx_iconst (v := 1) (zd me_X12_holds 9 rfl) (by decide) ?_
  refine zx_iadd (zd me_X12_holds 10 rfl) ?_
  refine zx_iald (zd me_X12_holds 11 rfl) (zi12_t14 h0) (fun j2 hj2 => ?_)
  refine zx_leti (fun x3 => ?_)
  refine zx_istore (ls' := [(4, .int x3), (3, .int x1), (0, .ref a0), (1, .int i1), (2, .int i2)]) (zd me_X12_holds 12 rfl) (Nat.le_of_ble_eq_true rfl) rfl ?_
  refine zx_aload_n (i := 0) (zd me_X12_holds 13 rfl) rfl 2 rfl ?_
  refine zx_getR (zd me_X12_holds 14 rfl) fl_X12_98 (zi12_c h0) rfl (zi12_r14 h0) ?_
  refine zx_iload_n (i := 3) (zd me_X12_holds 15 rfl) rfl 1 rfl ?_
  refine zx_iconst (v := 2) (zd me_X12_holds 16 rfl) (by decide) ?_
  refine zx_iadd (zd me_X12_holds 17 rfl) ?_
  refine zx_iald (zd me_X12_holds 18 rfl) (zi12_t14 h0) (fun j4 hj4 => ?_)
  refine zx_leti (fun x5 => ?_)
  refine zx_istore (ls' := [(5, .int x5), (4, .int x3), (3, .int x1), (0, .ref a0), (1, .int i1), (2, .int i2)]) (zd me_X12_holds 19 rfl) (Nat.le_of_ble_eq_true rfl) rfl ?_
  refine zx_aload_n (i := 0) (zd me_X12_holds 20 rfl) rfl 3 rfl ?_
  refine zx_getR (zd me_X12_holds 21 rfl) fl_X12_98 (zi12_c h0) rfl (zi12_r14 h0) ?_
  refine zx_iload_n (i := 3) (zd me_X12_holds 22 rfl) rfl 2 rfl ?_
  refine zx_iald (zd me_X12_holds 23 rfl) (zi12_t14 h0) (fun j6 hj6 => ?_)
  refine zx_ite (fun c7 => ?_) (fun c7 => ?_)
  · refine zx_lsw (off := 83) (tgt := 116) (zd me_X12_holds 24 rfl) (by decide) (by rw [c7]; rfl) (by decide) ?_
    refine zx_aload_n (i := 0) (zd me_X12_holds 25 rfl) rfl 3 rfl ?_
    refine zx_iload (zd me_X12_holds 26 rfl) 1 rfl ?_
    refine zx_iload_n (i := 2) (zd me_X12_holds 27 rfl) rfl 5 rfl ?_
    refine zx_callVI2 (zd me_X12_holds 28 rfl) (hF_holds (zl C) h0 x3 i2 M) (lk_X12_490 d) ⟨Nat.le_refl _, by show 8 + (8 + 11) + (72 + 27 * d) ≤ 72 + 27 * (d + 1); omega⟩ (Nat.le_of_ble_eq_true rfl) (zi12_c h0) rfl (fun r9 M8 => ?_)
    refine zx_if_ne (tgt := 130) (zd me_X12_holds 29 rfl) (by decide) (fun c10 => ?_) (fun c10 => ?_)
    · refine zx_iconst (v := 0) (zd me_X12_holds 32 rfl) (by decide) ?_
      exact zx_zret (zd me_X12_holds 33 rfl) rfl rfl
    · refine zx_iconst (v := 1) (zd me_X12_holds 30 rfl) (by decide) ?_
      refine zx_goto (tgt := 131) (zd me_X12_holds 31 rfl) (by decide) ?_
      exact zx_zret (zd me_X12_holds 33 rfl) rfl rfl
  · refine zx_ite (fun c11 => ?_) (fun c11 => ?_)
    · refine zx_lsw (off := 99) (tgt := 132) (zd me_X12_holds 24 rfl) (by decide) (by rw [c11]; rfl) (by decide) ?_
      refine zx_aload_n (i := 0) (zd me_X12_holds 34 rfl) rfl 3 rfl ?_
      refine zx_iload (zd me_X12_holds 35 rfl) 1 rfl ?_
      refine zx_iload_n (i := 2) (zd me_X12_holds 36 rfl) rfl 5 rfl ?_
      refine zx_callVI2 (zd me_X12_holds 37 rfl) (hF_holds (zl C) h0 x3 i2 M) (lk_X12_490 d) ⟨Nat.le_refl _, by show 8 + (8 + 11) + (72 + 27 * d) ≤ 72 + 27 * (d + 1); omega⟩ (Nat.le_of_ble_eq_true rfl) (zi12_c h0) rfl (fun r13 M12 => ?_)
      refine zx_if_eq (tgt := 156) (zd me_X12_holds 38 rfl) (by decide) (fun c14 => ?_) (fun c14 => ?_)
      · refine zx_iconst (v := 0) (zd me_X12_holds 46 rfl) (by decide) ?_
        exact zx_zret (zd me_X12_holds 47 rfl) rfl rfl
      · refine zx_aload_n (i := 0) (zd me_X12_holds 39 rfl) rfl 3 rfl ?_
        refine zx_iload (zd me_X12_holds 40 rfl) 0 rfl ?_
        refine zx_iload_n (i := 2) (zd me_X12_holds 41 rfl) rfl 5 rfl ?_
        refine zx_callVI2 (zd me_X12_holds 42 rfl) (hF_holds (zl C) h0 x5 i2 M12) (lk_X12_490 d) ⟨Nat.le_refl _, by show 8 + (8 + 11) + (72 + 27 * d) ≤ 72 + 27 * (d + 1); omega⟩ (Nat.le_of_ble_eq_true rfl) (zi12_c h0) rfl (fun r16 M15 => ?_)
        refine zx_if_eq (tgt := 156) (zd me_X12_holds 43 rfl) (by decide) (fun c17 => ?_) (fun c17 => ?_)
        · refine zx_iconst (v := 0) (zd me_X12_holds 46 rfl) (by decide) ?_
          exact zx_zret (zd me_X12_holds 47 rfl) rfl rfl
        · refine zx_iconst (v := 1) (zd me_X12_holds 44 rfl) (by decide) ?_
          refine zx_goto (tgt := 157) (zd me_X12_holds 45 rfl) (by decide) ?_
          exact zx_zret (zd me_X12_holds 47 rfl) rfl rfl
    · refine zx_ite (fun c18 => ?_) (fun c18 => ?_)
      · refine zx_lsw (off := 125) (tgt := 158) (zd me_X12_holds 24 rfl) (by decide) (by rw [c18]; rfl) (by decide) ?_
        refine zx_aload_n (i := 0) (zd me_X12_holds 48 rfl) rfl 3 rfl ?_
        refine zx_iload (zd me_X12_holds 49 rfl) 1 rfl ?_
        refine zx_iload_n (i := 2) (zd me_X12_holds 50 rfl) rfl 5 rfl ?_
        refine zx_callVI2 (zd me_X12_holds 51 rfl) (hF_holds (zl C) h0 x3 i2 M) (lk_X12_490 d) ⟨Nat.le_refl _, by show 8 + (8 + 11) + (72 + 27 * d) ≤ 72 + 27 * (d + 1); omega⟩ (Nat.le_of_ble_eq_true rfl) (zi12_c h0) rfl (fun r20 M19 => ?_)
        refine zx_if_ne (tgt := 178) (zd me_X12_holds 52 rfl) (by decide) (fun c21 => ?_) (fun c21 => ?_)
        · refine zx_iconst (v := 1) (zd me_X12_holds 58 rfl) (by decide) ?_
          refine zx_goto (tgt := 183) (zd me_X12_holds 59 rfl) (by decide) ?_
          exact zx_zret (zd me_X12_holds 61 rfl) rfl rfl
        · refine zx_aload_n (i := 0) (zd me_X12_holds 53 rfl) rfl 3 rfl ?_
          refine zx_iload (zd me_X12_holds 54 rfl) 0 rfl ?_
          refine zx_iload_n (i := 2) (zd me_X12_holds 55 rfl) rfl 5 rfl ?_
          refine zx_callVI2 (zd me_X12_holds 56 rfl) (hF_holds (zl C) h0 x5 i2 M19) (lk_X12_490 d) ⟨Nat.le_refl _, by show 8 + (8 + 11) + (72 + 27 * d) ≤ 72 + 27 * (d + 1); omega⟩ (Nat.le_of_ble_eq_true rfl) (zi12_c h0) rfl (fun r23 M22 => ?_)
          refine zx_if_eq (tgt := 182) (zd me_X12_holds 57 rfl) (by decide) (fun c24 => ?_) (fun c24 => ?_)
          · refine zx_iconst (v := 0) (zd me_X12_holds 60 rfl) (by decide) ?_
            exact zx_zret (zd me_X12_holds 61 rfl) rfl rfl
          · refine zx_iconst (v := 1) (zd me_X12_holds 58 rfl) (by decide) ?_
            refine zx_goto (tgt := 183) (zd me_X12_holds 59 rfl) (by decide) ?_
            exact zx_zret (zd me_X12_holds 61 rfl) rfl rfl
      · refine zx_ite (fun c25 => ?_) (fun c25 => ?_)
        · refine zx_lsw (off := 151) (tgt := 184) (zd me_X12_holds 24 rfl) (by decide) (by rw [c25]; rfl) (by decide) ?_
          refine zx_aload_n (i := 0) (zd me_X12_holds 62 rfl) rfl 3 rfl ?_
          refine zx_iload_n (i := 2) (zd me_X12_holds 63 rfl) rfl 5 rfl ?_
          refine zx_callVI1 (zd me_X12_holds 64 rfl) (mc_X12_isWaiting (zl C) h0 i2 M) lk_X12_246 ⟨Nat.le_trans (m := 3) (Nat.le_of_ble_eq_true rfl) (Nat.le_add_right 3 _), Nat.le_trans (m := 72) (Nat.le_of_ble_eq_true rfl) (Nat.le_add_right 72 _)⟩ (Nat.le_of_ble_eq_true rfl) (zi12_c h0) rfl (fun r27 M26 => ?_)
          exact zx_zretC (zd me_X12_holds 65 rfl) rfl
        · refine zx_ite (fun c28 => ?_) (fun c28 => ?_)
          · refine zx_lsw (off := 157) (tgt := 190) (zd me_X12_holds 24 rfl) (by decide) (by rw [c28]; rfl) (by decide) ?_
            refine zx_aload_n (i := 0) (zd me_X12_holds 66 rfl) rfl 3 rfl ?_
            refine zx_getR (zd me_X12_holds 67 rfl) fl_X12_98 (zi12_c h0) rfl (zi12_r14 h0) ?_
            refine zx_bipush (v := 64) (zd me_X12_holds 68 rfl) (by decide) ?_
            refine zx_iload_n (i := 2) (zd me_X12_holds 69 rfl) rfl 5 rfl ?_
            refine zx_iadd (zd me_X12_holds 70 rfl) ?_
            refine zx_iald (zd me_X12_holds 71 rfl) (zi12_t14 h0) (fun j29 hj29 => ?_)
            refine zx_iconst (v := 2) (zd me_X12_holds 72 rfl) (by decide) ?_
            refine zx_icmp_ne (tgt := 207) (zd me_X12_holds 73 rfl) (by decide) (fun c30 => ?_) (fun c30 => ?_)
            · refine zx_iconst (v := 0) (zd me_X12_holds 76 rfl) (by decide) ?_
              exact zx_zret (zd me_X12_holds 77 rfl) rfl rfl
            · refine zx_iconst (v := 1) (zd me_X12_holds 74 rfl) (by decide) ?_
              refine zx_goto (tgt := 208) (zd me_X12_holds 75 rfl) (by decide) ?_
              exact zx_zret (zd me_X12_holds 77 rfl) rfl rfl
          · refine zx_ite (fun c31 => ?_) (fun c31 => ?_)
            · refine zx_lsw (off := 176) (tgt := 209) (zd me_X12_holds 24 rfl) (by decide) (by rw [c31]; rfl) (by decide) ?_
              refine zx_aload_n (i := 0) (zd me_X12_holds 78 rfl) rfl 3 rfl ?_
              refine zx_getR (zd me_X12_holds 79 rfl) fl_X12_98 (zi12_c h0) rfl (zi12_r14 h0) ?_
              refine zx_bipush (v := 64) (zd me_X12_holds 80 rfl) (by decide) ?_
              refine zx_iload_n (i := 2) (zd me_X12_holds 81 rfl) rfl 5 rfl ?_
              refine zx_iadd (zd me_X12_holds 82 rfl) ?_
              refine zx_iald (zd me_X12_holds 83 rfl) (zi12_t14 h0) (fun j32 hj32 => ?_)
              refine zx_iconst (v := 3) (zd me_X12_holds 84 rfl) (by decide) ?_
              refine zx_icmp_ne (tgt := 226) (zd me_X12_holds 85 rfl) (by decide) (fun c33 => ?_) (fun c33 => ?_)
              · refine zx_iconst (v := 0) (zd me_X12_holds 88 rfl) (by decide) ?_
                exact zx_zret (zd me_X12_holds 89 rfl) rfl rfl
              · refine zx_iconst (v := 1) (zd me_X12_holds 86 rfl) (by decide) ?_
                refine zx_goto (tgt := 227) (zd me_X12_holds 87 rfl) (by decide) ?_
                exact zx_zret (zd me_X12_holds 89 rfl) rfl rfl
            · refine zx_ite (fun c34 => ?_) (fun c34 => ?_)
              · refine zx_lsw (off := 195) (tgt := 228) (zd me_X12_holds 24 rfl) (by decide) (by rw [c34]; rfl) (by decide) ?_
                refine zx_aload_n (i := 0) (zd me_X12_holds 90 rfl) rfl 3 rfl ?_
                refine zx_iload_n (i := 2) (zd me_X12_holds 91 rfl) rfl 5 rfl ?_
                refine zx_callVI1 (zd me_X12_holds 92 rfl) (mc_X12_isHeld (zl C) h0 i2 M) lk_X12_270 ⟨Nat.le_trans (m := 3) (Nat.le_of_ble_eq_true rfl) (Nat.le_add_right 3 _), Nat.le_trans (m := 72) (Nat.le_of_ble_eq_true rfl) (Nat.le_add_right 72 _)⟩ (Nat.le_of_ble_eq_true rfl) (zi12_c h0) rfl (fun r36 M35 => ?_)
                exact zx_zretC (zd me_X12_holds 93 rfl) rfl
              · refine zx_ite (fun c37 => ?_) (fun c37 => ?_)
                · refine zx_lsw (off := 201) (tgt := 234) (zd me_X12_holds 24 rfl) (by decide) (by rw [c37]; rfl) (by decide) ?_
                  refine zx_aload_n (i := 0) (zd me_X12_holds 94 rfl) rfl 3 rfl ?_
                  refine zx_getR (zd me_X12_holds 95 rfl) fl_X12_98 (zi12_c h0) rfl (zi12_r14 h0) ?_
                  refine zx_bipush (v := 72) (zd me_X12_holds 96 rfl) (by decide) ?_
                  refine zx_iload_n (i := 2) (zd me_X12_holds 97 rfl) rfl 5 rfl ?_
                  refine zx_iadd (zd me_X12_holds 98 rfl) ?_
                  refine zx_iald (zd me_X12_holds 99 rfl) (zi12_t14 h0) (fun j38 hj38 => ?_)
                  refine zx_iload (zd me_X12_holds 100 rfl) 1 rfl ?_
                  refine zx_icmp_ne (tgt := 252) (zd me_X12_holds 101 rfl) (by decide) (fun c39 => ?_) (fun c39 => ?_)
                  · refine zx_iconst (v := 0) (zd me_X12_holds 104 rfl) (by decide) ?_
                    exact zx_zret (zd me_X12_holds 105 rfl) rfl rfl
                  · refine zx_iconst (v := 1) (zd me_X12_holds 102 rfl) (by decide) ?_
                    refine zx_goto (tgt := 253) (zd me_X12_holds 103 rfl) (by decide) ?_
                    exact zx_zret (zd me_X12_holds 105 rfl) rfl rfl
                · refine zx_ite (fun c40 => ?_) (fun c40 => ?_)
                  · refine zx_lsw (off := 221) (tgt := 254) (zd me_X12_holds 24 rfl) (by decide) (by rw [c40]; rfl) (by decide) ?_
                    refine zx_aload_n (i := 0) (zd me_X12_holds 106 rfl) rfl 3 rfl ?_
                    refine zx_getR (zd me_X12_holds 107 rfl) fl_X12_98 (zi12_c h0) rfl (zi12_r14 h0) ?_
                    refine zx_bipush (v := 48) (zd me_X12_holds 108 rfl) (by decide) ?_
                    refine zx_iload_n (i := 2) (zd me_X12_holds 109 rfl) rfl 5 rfl ?_
                    refine zx_iadd (zd me_X12_holds 110 rfl) ?_
                    refine zx_iald (zd me_X12_holds 111 rfl) (zi12_t14 h0) (fun j41 hj41 => ?_)
                    refine zx_iload (zd me_X12_holds 112 rfl) 1 rfl ?_
                    refine zx_icmp_ne (tgt := 272) (zd me_X12_holds 113 rfl) (by decide) (fun c42 => ?_) (fun c42 => ?_)
                    · refine zx_iconst (v := 0) (zd me_X12_holds 116 rfl) (by decide) ?_
                      exact zx_zret (zd me_X12_holds 117 rfl) rfl rfl
                    · refine zx_iconst (v := 1) (zd me_X12_holds 114 rfl) (by decide) ?_
                      refine zx_goto (tgt := 273) (zd me_X12_holds 115 rfl) (by decide) ?_
                      exact zx_zret (zd me_X12_holds 117 rfl) rfl rfl
                  · refine zx_lsw (off := 241) (tgt := 274) (zd me_X12_holds 24 rfl) (by decide) ((lv_osw c7 (by decide)).trans ((lv_osw c11 (by decide)).trans ((lv_osw c18 (by decide)).trans ((lv_osw c25 (by decide)).trans ((lv_osw c28 (by decide)).trans ((lv_osw c31 (by decide)).trans ((lv_osw c34 (by decide)).trans ((lv_osw c37 (by decide)).trans ((lv_osw c40 (by decide)).trans rfl))))))))) (by decide) ?_
                    refine zx_aload_n (i := 0) (zd me_X12_holds 118 rfl) rfl 3 rfl ?_
                    refine zx_getR (zd me_X12_holds 119 rfl) fl_X12_98 (zi12_c h0) rfl (zi12_r14 h0) ?_
                    refine zx_iload_n (i := 3) (zd me_X12_holds 120 rfl) rfl 2 rfl ?_
                    refine zx_iald (zd me_X12_holds 121 rfl) (zi12_t14 h0) (fun j43 hj43 => ?_)
                    refine zx_bipush (v := 50) (zd me_X12_holds 122 rfl) (by decide) ?_
                    refine zx_isub (zd me_X12_holds 123 rfl) ?_
                    refine zx_leti (fun x44 => ?_)
                    refine zx_istore (ls' := [(6, .int x44), (5, .int x5), (4, .int x3), (3, .int x1), (0, .ref a0), (1, .int i1), (2, .int i2)]) (zd me_X12_holds 124 rfl) (Nat.le_of_ble_eq_true rfl) rfl ?_
                    refine zx_iload (zd me_X12_holds 125 rfl) 0 rfl ?_
                    refine zx_bipush (v := 20) (zd me_X12_holds 126 rfl) (by decide) ?_
                    refine zx_icmp_ne (tgt := 304) (zd me_X12_holds 127 rfl) (by decide) (fun c45 => ?_) (fun c45 => ?_)
                    · refine zx_iload (zd me_X12_holds 135 rfl) 0 rfl ?_
                      refine zx_bipush (v := 21) (zd me_X12_holds 136 rfl) (by decide) ?_
                      refine zx_icmp_ne (tgt := 323) (zd me_X12_holds 137 rfl) (by decide) (fun c46 => ?_) (fun c46 => ?_)
                      · refine zx_iload (zd me_X12_holds 145 rfl) 0 rfl ?_
                        refine zx_bipush (v := 22) (zd me_X12_holds 146 rfl) (by decide) ?_
                        refine zx_icmp_ne (tgt := 342) (zd me_X12_holds 147 rfl) (by decide) (fun c47 => ?_) (fun c47 => ?_)
                        · refine zx_iload_n (i := 2) (zd me_X12_holds 155 rfl) rfl 6 rfl ?_
                          refine zx_loc [4, 3, 1] rfl ?_
                          exact mt_X12_holds_b343 hF_holds h0 x1 x5 i2 M
                        · refine zx_aload_n (i := 0) (zd me_X12_holds 148 rfl) rfl 4 rfl ?_
                          refine zx_getR (zd me_X12_holds 149 rfl) fl_X12_98 (zi12_c h0) rfl (zi12_r14 h0) ?_
                          refine zx_bipush (v := 104) (zd me_X12_holds 150 rfl) (by decide) ?_
                          refine zx_iload_n (i := 2) (zd me_X12_holds 151 rfl) rfl 6 rfl ?_
                          refine zx_iadd (zd me_X12_holds 152 rfl) ?_
                          refine zx_iald (zd me_X12_holds 153 rfl) (zi12_t14 h0) (fun j48 hj48 => ?_)
                          refine zx_goto (tgt := 343) (zd me_X12_holds 154 rfl) (by decide) ?_
                          refine zx_loc [4, 3, 1] rfl ?_
                          exact mt_X12_holds_b343 hF_holds h0 x1 x5 (M.1 (zrf R a0 14) j48) M
                      · refine zx_aload_n (i := 0) (zd me_X12_holds 138 rfl) rfl 4 rfl ?_
                        refine zx_getR (zd me_X12_holds 139 rfl) fl_X12_98 (zi12_c h0) rfl (zi12_r14 h0) ?_
                        refine zx_bipush (v := 96) (zd me_X12_holds 140 rfl) (by decide) ?_
                        refine zx_iload_n (i := 2) (zd me_X12_holds 141 rfl) rfl 6 rfl ?_
                        refine zx_iadd (zd me_X12_holds 142 rfl) ?_
                        refine zx_iald (zd me_X12_holds 143 rfl) (zi12_t14 h0) (fun j49 hj49 => ?_)
                        refine zx_goto (tgt := 343) (zd me_X12_holds 144 rfl) (by decide) ?_
                        refine zx_loc [4, 3, 1] rfl ?_
                        exact mt_X12_holds_b343 hF_holds h0 x1 x5 (M.1 (zrf R a0 14) j49) M
                    · refine zx_aload_n (i := 0) (zd me_X12_holds 128 rfl) rfl 4 rfl ?_
                      refine zx_getR (zd me_X12_holds 129 rfl) fl_X12_98 (zi12_c h0) rfl (zi12_r14 h0) ?_
                      refine zx_bipush (v := 80) (zd me_X12_holds 130 rfl) (by decide) ?_
                      refine zx_iload_n (i := 2) (zd me_X12_holds 131 rfl) rfl 6 rfl ?_
                      refine zx_iadd (zd me_X12_holds 132 rfl) ?_
                      refine zx_iald (zd me_X12_holds 133 rfl) (zi12_t14 h0) (fun j50 hj50 => ?_)
                      refine zx_goto (tgt := 343) (zd me_X12_holds 134 rfl) (by decide) ?_
                      refine zx_loc [4, 3, 1] rfl ?_
                      exact mt_X12_holds_b343 hF_holds h0 x1 x5 (M.1 (zrf R a0 14) j50) M
def mg_X12f : Nat → (zRR → Nat → Int32 → Int32 → zMem → Option (Int32 × zMem))
  | 0 => fun _ _ _ _ _ => none
  | d + 1 => fun R => mf_X12_holds R (mg_X12f d)
def mr_X12_holds (d : Nat) : zRR → Nat → Int32 → Int32 → zMem → Option (Int32 × zMem) := (mg_X12f d)
theorem mgc_X12f : ∀ d : Nat, (∀ (l : Launch) {T : zTT} {R : zRR} {a0 : Nat} (h0 : zi12 T R a0) (i1 : Int32) (i2 : Int32) (M : zMem), zMS l yX12_holds (mi_X12_holds (d)) zrvI (mr_X12_holds (d) R a0 i1 i2 M) [.ref a0, .int i1, .int i2] T R M) := by
  intro d
  induction d with
  | zero => exact (by intros; intro r M1 h; cases (show (none : Option (Int32 × zMem)) = some (r, M1) from h))
  | succ d ih =>
    have q0 := ih
    exact fun l {T} {R} {a0} h0 i1 i2 M => mm_X12_holds l (T := T) (R := R) (fun l {a0} h0 i1 i2 M => q0 l h0 i1 i2 M) h0 i1 i2 M
theorem mc_X12_holds (l : Launch) {T : zTT} {R : zRR} {a0 : Nat} (h0 : zi12 T R a0) (i1 : Int32) (i2 : Int32) (M : zMem) : zMS l yX12_holds (mi_X12_holds zD) zrvI (mr_X12_holds zD R a0 i1 i2 M) [.ref a0, .int i1, .int i2] T R M := (mgc_X12f zD) l h0 i1 i2 M
def mf_X12_said_b59 (R : zRR) (a0 : Nat) (H21 : Int32 → Int32 → Int32 → zMem → Option (Int32 × zMem)) (i1 : Int32) (i2 : Int32) (i3 : Int32) (M : zMem) : Option (Int32 × zMem) :=
  H21 i1 i2 (i3 + 1) M
theorem mt_X12_said_b59 {C : zCx} {ad : Nat → Nat} {T : zTT} {R : zRR} {a0 : Nat} (h0 : zi12 T R a0) {H21 : Int32 → Int32 → Int32 → zMem → Option (Int32 × zMem)} (hH21 : ∀ (i1 : Int32) (i2 : Int32) (i3 : Int32) (M : zMem), zX C mi_X12_said (zFin C zrvI ad T R) 0 0 (H21 i1 i2 i3 M) 21 [(0, .ref a0), (1, .int i1), (2, .int i2), (3, .int i3)] [] ad T R M) (i1 : Int32) (i2 : Int32) (i3 : Int32) (M : zMem) : zX C mi_X12_said (zFin C zrvI ad T R) 0 0 (mf_X12_said_b59 R a0 H21 i1 i2 i3 M) 59 [(0, .ref a0), (1, .int i1), (2, .int i2), (3, .int i3)] [] ad T R M := by
  unfold mf_X12_said_b59
  refine zx_iinc (v := 1) (ls' := [(3, .int (i3 + 1)), (0, .ref a0), (1, .int i1), (2, .int i2)]) (zd me_X12_said 35 rfl) (Nat.le_of_ble_eq_true rfl) 3 rfl (by decide) rfl ?_
  refine zx_goto (tgt := 21) (zd me_X12_said 36 rfl) (by decide) ?_
  refine zx_loc [1, 2, 3, 0] rfl ?_
  exact hH21 i1 i2 (i3 + 1) M
def mf_X12_said_l21 (R : zRR) (a0 : Nat) : Nat → Int32 → Int32 → Int32 → zMem → Option (Int32 × zMem)
  | 0, _, _, _, _ => none
  | fuel + 1, i1, i2, i3, M =>
    zald 354 (2 : Int32) fun j4 =>
    if (M.1 (zrf R a0 14) j4) ≤ i3 then
      (if i1 = (-1 : Int32) then
        (some (i2, M))
      else
        (some ((-1 : Int32), M)))
    else
      (zald 354 (113 : Int32) fun j7 =>
      zcl (mr_X12_holds zD R a0 (M.1 (zrf R a0 14) j7) i3 M) fun r9 M8 =>
      if r9 = 0 then
        (mf_X12_said_b59 R a0 (mf_X12_said_l21 R a0 fuel) i1 i2 i3 M8)
      else
        (if i2 = i1 then
          (some (i3, M8))
        else
          (mf_X12_said_b59 R a0 (mf_X12_said_l21 R a0 fuel) i1 (i2 + 1) i3 M8)))
theorem mt_X12_said_l21 {C : zCx} {ad : Nat → Nat} {T : zTT} {R : zRR} {a0 : Nat} (h0 : zi12 T R a0) : ∀ (fuel : Nat) (i1 : Int32) (i2 : Int32) (i3 : Int32) (M : zMem), zX C mi_X12_said (zFin C zrvI ad T R) 0 0 (mf_X12_said_l21 R a0 fuel i1 i2 i3 M) 21 [(0, .ref a0), (1, .int i1), (2, .int i2), (3, .int i3)] [] ad T R M := by
  intro fuel
  induction fuel with
  | zero => intros; exact zx_none
  | succ fuel ih =>
    intro i1 i2 i3 M
    rw [mf_X12_said_l21]
    refine zx_iload_n (i := 3) (zd me_X12_said 14 rfl) rfl 3 rfl ?_
    refine zx_aload_n (i := 0) (zd me_X12_said 15 rfl) rfl 0 rfl ?_
    refine zx_getR (zd me_X12_said 16 rfl) fl_X12_98 (zi12_c h0) rfl (zi12_r14 h0) ?_
    refine zx_iconst (v := 2) (zd me_X12_said 17 rfl) (by decide) ?_
    refine zx_iald (zd me_X12_said 18 rfl) (zi12_t14 h0) (fun j4 hj4 => ?_)
    refine zx_icmp_ge (tgt := 65) (zd me_X12_said 19 rfl) (by decide) (fun c5 => ?_) (fun c5 => ?_)
    · refine zx_iload_n (i := 1) (zd me_X12_said 37 rfl) rfl 1 rfl ?_
      refine zx_iconst (v := (-1)) (zd me_X12_said 38 rfl) (by decide) ?_
      refine zx_icmp_ne (tgt := 74) (zd me_X12_said 39 rfl) (by decide) (fun c6 => ?_) (fun c6 => ?_)
      · refine zx_iconst (v := (-1)) (zd me_X12_said 42 rfl) (by decide) ?_
        exact zx_iret (zd me_X12_said 43 rfl) rfl
      · refine zx_iload_n (i := 2) (zd me_X12_said 40 rfl) rfl 2 rfl ?_
        refine zx_goto (tgt := 75) (zd me_X12_said 41 rfl) (by decide) ?_
        exact zx_iret (zd me_X12_said 43 rfl) rfl
    · refine zx_aload_n (i := 0) (zd me_X12_said 20 rfl) rfl 0 rfl ?_
      refine zx_aload_n (i := 0) (zd me_X12_said 21 rfl) rfl 0 rfl ?_
      refine zx_getR (zd me_X12_said 22 rfl) fl_X12_98 (zi12_c h0) rfl (zi12_r14 h0) ?_
      refine zx_bipush (v := 113) (zd me_X12_said 23 rfl) (by decide) ?_
      refine zx_iald (zd me_X12_said 24 rfl) (zi12_t14 h0) (fun j7 hj7 => ?_)
      refine zx_iload_n (i := 3) (zd me_X12_said 25 rfl) rfl 3 rfl ?_
      refine zx_callVI2 (zd me_X12_said 26 rfl) (mc_X12_holds (zl C) h0 (M.1 (zrf R a0 14) j7) i3 M) (lk_X12_490 zD) ⟨(Nat.le_of_ble_eq_true rfl), (Nat.le_of_ble_eq_true rfl)⟩ (Nat.le_of_ble_eq_true rfl) (zi12_c h0) rfl (fun r9 M8 => ?_)
      refine zx_if_ne (tgt := 49) (zd me_X12_said 27 rfl) (by decide) (fun c10 => ?_) (fun c10 => ?_)
      · refine zx_iload_n (i := 2) (zd me_X12_said 29 rfl) rfl 2 rfl ?_
        refine zx_iload_n (i := 1) (zd me_X12_said 30 rfl) rfl 1 rfl ?_
        refine zx_icmp_ne (tgt := 56) (zd me_X12_said 31 rfl) (by decide) (fun c11 => ?_) (fun c11 => ?_)
        · refine zx_iinc (v := 1) (ls' := [(2, .int (i2 + 1)), (0, .ref a0), (1, .int i1), (3, .int i3)]) (zd me_X12_said 34 rfl) (Nat.le_of_ble_eq_true rfl) 2 rfl (by decide) rfl ?_
          refine zx_loc [1, 2, 0, 3] rfl ?_
          exact mt_X12_said_b59 h0 ih i1 (i2 + 1) i3 M8
        · refine zx_iload_n (i := 3) (zd me_X12_said 32 rfl) rfl 3 rfl ?_
          exact zx_iret (zd me_X12_said 33 rfl) rfl
      · refine zx_goto (tgt := 59) (zd me_X12_said 28 rfl) (by decide) ?_
        exact mt_X12_said_b59 h0 ih i1 i2 i3 M8
def mf_X12_said (R : zRR) (a0 : Nat) (i1 : Int32) (M : zMem) : Option (Int32 × zMem) :=
  zlet (zwI M a0 0 (0 : Int32)) fun M1 =>
  zald 354 (112 : Int32) fun j2 =>
  if (M1.1 (zrf R a0 14) j2) = 0 then
    (some ((-1 : Int32), M1))
  else
    (mf_X12_said_l21 R a0 zF i1 (0 : Int32) (0 : Int32) M1)
theorem mc_X12_said (l : Launch) {T : zTT} {R : zRR} {a0 : Nat} (h0 : zi12 T R a0) (i1 : Int32) (M : zMem) : zMS l yX12_said mi_X12_said zrvI (mf_X12_said R a0 i1 M) [.ref a0, .int i1] T R M := by
  refine zMS.of (by decide +kernel) rfl ⟨rfl, rfl⟩ (Nat.le_of_ble_eq_true rfl) (fun C ad _ => ?_)
  show zX C mi_X12_said (zFin C zrvI ad T R) 0 0 (mf_X12_said R a0 i1 M) 0 [(0, .ref a0), (1, .int i1)] [] ad T R M
  unfold mf_X12_said
  refine zx_aload_n (i := 0) (zd me_X12_said 0 rfl) rfl 0 rfl ?_
  refine zx_iconst (v := 0) (zd me_X12_said 1 rfl) (by decide) ?_
  refine zx_putI (zd me_X12_said 2 rfl) fp_X12_1 (zi12_c h0) rfl (fun M1 _ => ?_)
  refine zx_aload_n (i := 0) (zd me_X12_said 3 rfl) rfl 0 rfl ?_
  refine zx_getR (zd me_X12_said 4 rfl) fl_X12_98 (zi12_c h0) rfl (zi12_r14 h0) ?_
  refine zx_bipush (v := 112) (zd me_X12_said 5 rfl) (by decide) ?_
  refine zx_iald (zd me_X12_said 6 rfl) (zi12_t14 h0) (fun j2 hj2 => ?_)
  refine zx_if_ne (tgt := 17) (zd me_X12_said 7 rfl) (by decide) (fun c3 => ?_) (fun c3 => ?_)
  · refine zx_iconst (v := 0) (zd me_X12_said 10 rfl) (by decide) ?_
    refine zx_istore_n (i := 2) (ls' := [(2, .int (0 : Int32)), (0, .ref a0), (1, .int i1)]) (zd me_X12_said 11 rfl) rfl (Nat.le_of_ble_eq_true rfl) rfl ?_
    refine zx_iconst (v := 0) (zd me_X12_said 12 rfl) (by decide) ?_
    refine zx_istore_n (i := 3) (ls' := [(3, .int (0 : Int32)), (2, .int (0 : Int32)), (0, .ref a0), (1, .int i1)]) (zd me_X12_said 13 rfl) rfl (Nat.le_of_ble_eq_true rfl) rfl ?_
    refine zx_loc [2, 3, 1, 0] rfl ?_
    exact mt_X12_said_l21 h0 zF i1 (0 : Int32) (0 : Int32) M1
  · refine zx_iconst (v := (-1)) (zd me_X12_said 8 rfl) (by decide) ?_
    exact zx_iret (zd me_X12_said 9 rfl) rfl
def mf_X12_image_l51 (R : zRR) (a0 : Nat) : Nat → Int32 → Int32 → zMem → Option (Int32 × zMem)
  | 0, _, _, _ => none
  | fuel + 1, i1, i2, M =>
    if (19 : Int32) ≤ i2 then
      (zald 2 i1 fun j10 =>
      zlet (zwI M (zrf R a0 24) j10 (1 : Int32)) fun M11 =>
      some ((1 : Int32), M11))
    else
      (zald 19 i2 fun j12 =>
      zald 38 (((19 : Int32) * i1) + i2) fun j13 =>
      zlet (zwL M (zrf R a0 23) j13 (M.2 (zrf R a0 21) j12)) fun M14 =>
      mf_X12_image_l51 R a0 fuel i1 (i2 + 1) M14)
theorem mt_X12_image_l51 {C : zCx} {ad : Nat → Nat} {T : zTT} {R : zRR} {a0 : Nat} (h0 : zi12 T R a0) : ∀ (fuel : Nat) (i1 : Int32) (i2 : Int32) (M : zMem), zX C mi_X12_image (zFin C zrvI ad T R) 0 0 (mf_X12_image_l51 R a0 fuel i1 i2 M) 51 [(0, .ref a0), (1, .int i1), (2, .int i2)] [] ad T R M := by
  intro fuel
  induction fuel with
  | zero => intros; exact zx_none
  | succ fuel ih =>
    intro i1 i2 M
    rw [mf_X12_image_l51]
    refine zx_iload_n (i := 2) (zd me_X12_image 31 rfl) rfl 2 rfl ?_
    refine zx_bipush (v := 19) (zd me_X12_image 32 rfl) (by decide) ?_
    refine zx_icmp_ge (tgt := 80) (zd me_X12_image 33 rfl) (by decide) (fun c9 => ?_) (fun c9 => ?_)
    · refine zx_aload_n (i := 0) (zd me_X12_image 48 rfl) rfl 0 rfl ?_
      refine zx_getR (zd me_X12_image 49 rfl) fl_X12_129 (zi12_c h0) rfl (zi12_r24 h0) ?_
      refine zx_iload_n (i := 1) (zd me_X12_image 50 rfl) rfl 1 rfl ?_
      refine zx_iconst (v := 1) (zd me_X12_image 51 rfl) (by decide) ?_
      refine zx_bast (zd me_X12_image 52 rfl) (zi12_t24 h0) rfl (fun M11 => ?_)
      refine zx_iconst (v := 1) (zd me_X12_image 53 rfl) (by decide) ?_
      exact zx_zret (zd me_X12_image 54 rfl) rfl rfl
    · refine zx_aload_n (i := 0) (zd me_X12_image 34 rfl) rfl 0 rfl ?_
      refine zx_getR (zd me_X12_image 35 rfl) fl_X12_126 (zi12_c h0) rfl (zi12_r23 h0) ?_
      refine zx_bipush (v := 19) (zd me_X12_image 36 rfl) (by decide) ?_
      refine zx_iload_n (i := 1) (zd me_X12_image 37 rfl) rfl 1 rfl ?_
      refine zx_imul (zd me_X12_image 38 rfl) ?_
      refine zx_iload_n (i := 2) (zd me_X12_image 39 rfl) rfl 2 rfl ?_
      refine zx_iadd (zd me_X12_image 40 rfl) ?_
      refine zx_aload_n (i := 0) (zd me_X12_image 41 rfl) rfl 0 rfl ?_
      refine zx_getR (zd me_X12_image 42 rfl) fl_X12_119 (zi12_c h0) rfl (zi12_r21 h0) ?_
      refine zx_iload_n (i := 2) (zd me_X12_image 43 rfl) rfl 2 rfl ?_
      refine zx_lald (zd me_X12_image 44 rfl) (zi12_t21 h0) (fun j12 hj12 => ?_)
      refine zx_last (zd me_X12_image 45 rfl) (zi12_t23 h0) (fun M14 => ?_)
      refine zx_iinc (v := 1) (ls' := [(2, .int (i2 + 1)), (0, .ref a0), (1, .int i1)]) (zd me_X12_image 46 rfl) (Nat.le_of_ble_eq_true rfl) 2 rfl (by decide) rfl ?_
      refine zx_goto (tgt := 51) (zd me_X12_image 47 rfl) (by decide) ?_
      refine zx_loc [1, 2, 0] rfl ?_
      exact ih i1 (i2 + 1) M14
def mf_X12_image_l18 (R : zRR) (a0 : Nat) : Nat → Int32 → Int32 → zMem → Option (Int32 × zMem)
  | 0, _, _, _ => none
  | fuel + 1, i1, i2, M =>
    if (354 : Int32) ≤ i2 then
      (mf_X12_image_l51 R a0 zF i1 (0 : Int32) M)
    else
      (zald 354 i2 fun j6 =>
      zald 708 (((354 : Int32) * i1) + i2) fun j7 =>
      zlet (zwI M (zrf R a0 16) j7 (M.1 (zrf R a0 14) j6)) fun M8 =>
      mf_X12_image_l18 R a0 fuel i1 (i2 + 1) M8)
theorem mt_X12_image_l18 {C : zCx} {ad : Nat → Nat} {T : zTT} {R : zRR} {a0 : Nat} (h0 : zi12 T R a0) : ∀ (fuel : Nat) (i1 : Int32) (i2 : Int32) (M : zMem), zX C mi_X12_image (zFin C zrvI ad T R) 0 0 (mf_X12_image_l18 R a0 fuel i1 i2 M) 18 [(0, .ref a0), (1, .int i1), (2, .int i2)] [] ad T R M := by
  intro fuel
  induction fuel with
  | zero => intros; exact zx_none
  | succ fuel ih =>
    intro i1 i2 M
    rw [mf_X12_image_l18]
    refine zx_iload_n (i := 2) (zd me_X12_image 12 rfl) rfl 2 rfl ?_
    refine zx_sipush (v := 354) (zd me_X12_image 13 rfl) (by decide) ?_
    refine zx_icmp_ge (tgt := 49) (zd me_X12_image 14 rfl) (by decide) (fun c5 => ?_) (fun c5 => ?_)
    · refine zx_iconst (v := 0) (zd me_X12_image 29 rfl) (by decide) ?_
      refine zx_istore_n (i := 2) (ls' := [(2, .int (0 : Int32)), (0, .ref a0), (1, .int i1)]) (zd me_X12_image 30 rfl) rfl (Nat.le_of_ble_eq_true rfl) rfl ?_
      refine zx_loc [1, 2, 0] rfl ?_
      exact mt_X12_image_l51 h0 zF i1 (0 : Int32) M
    · refine zx_aload_n (i := 0) (zd me_X12_image 15 rfl) rfl 0 rfl ?_
      refine zx_getR (zd me_X12_image 16 rfl) fl_X12_104 (zi12_c h0) rfl (zi12_r16 h0) ?_
      refine zx_sipush (v := 354) (zd me_X12_image 17 rfl) (by decide) ?_
      refine zx_iload_n (i := 1) (zd me_X12_image 18 rfl) rfl 1 rfl ?_
      refine zx_imul (zd me_X12_image 19 rfl) ?_
      refine zx_iload_n (i := 2) (zd me_X12_image 20 rfl) rfl 2 rfl ?_
      refine zx_iadd (zd me_X12_image 21 rfl) ?_
      refine zx_aload_n (i := 0) (zd me_X12_image 22 rfl) rfl 0 rfl ?_
      refine zx_getR (zd me_X12_image 23 rfl) fl_X12_98 (zi12_c h0) rfl (zi12_r14 h0) ?_
      refine zx_iload_n (i := 2) (zd me_X12_image 24 rfl) rfl 2 rfl ?_
      refine zx_iald (zd me_X12_image 25 rfl) (zi12_t14 h0) (fun j6 hj6 => ?_)
      refine zx_iast (zd me_X12_image 26 rfl) (zi12_t16 h0) (fun M8 => ?_)
      refine zx_iinc (v := 1) (ls' := [(2, .int (i2 + 1)), (0, .ref a0), (1, .int i1)]) (zd me_X12_image 27 rfl) (Nat.le_of_ble_eq_true rfl) 2 rfl (by decide) rfl ?_
      refine zx_goto (tgt := 18) (zd me_X12_image 28 rfl) (by decide) ?_
      refine zx_loc [1, 2, 0] rfl ?_
      exact ih i1 (i2 + 1) M8
def mf_X12_image (R : zRR) (a0 : Nat) (i1 : Int32) (M : zMem) : Option (Int32 × zMem) :=
  zlet (zwI M a0 0 (0 : Int32)) fun M1 =>
  zcl (mf_X12_isIn R i1 (0 : Int32) (1 : Int32) M1) fun r3 M2 =>
  if r3 = 0 then
    (some ((0 : Int32), M2))
  else
    (mf_X12_image_l18 R a0 zF i1 (0 : Int32) M2)
theorem mc_X12_image (l : Launch) {T : zTT} {R : zRR} {a0 : Nat} (h0 : zi12 T R a0) (i1 : Int32) (M : zMem) : zMS l yX12_image mi_X12_image zrvI (mf_X12_image R a0 i1 M) [.ref a0, .int i1] T R M := by
  refine zMS.of (by decide +kernel) rfl ⟨rfl, rfl⟩ (Nat.le_of_ble_eq_true rfl) (fun C ad _ => ?_)
  show zX C mi_X12_image (zFin C zrvI ad T R) 0 0 (mf_X12_image R a0 i1 M) 0 [(0, .ref a0), (1, .int i1)] [] ad T R M
  unfold mf_X12_image
  refine zx_aload_n (i := 0) (zd me_X12_image 0 rfl) rfl 0 rfl ?_
  refine zx_iconst (v := 0) (zd me_X12_image 1 rfl) (by decide) ?_
  refine zx_putI (zd me_X12_image 2 rfl) fp_X12_1 (zi12_c h0) rfl (fun M1 _ => ?_)
  refine zx_iload_n (i := 1) (zd me_X12_image 3 rfl) rfl 1 rfl ?_
  refine zx_iconst (v := 0) (zd me_X12_image 4 rfl) (by decide) ?_
  refine zx_iconst (v := 1) (zd me_X12_image 5 rfl) (by decide) ?_
  refine zx_callSI3 (zd me_X12_image 6 rfl) (mc_X12_isIn (zl C) i1 (0 : Int32) (1 : Int32) M1) lk_X12_75 ⟨(Nat.le_of_ble_eq_true rfl), (Nat.le_of_ble_eq_true rfl)⟩ (Nat.le_of_ble_eq_true rfl) (fun r3 M2 => ?_)
  refine zx_if_ne (tgt := 16) (zd me_X12_image 7 rfl) (by decide) (fun c4 => ?_) (fun c4 => ?_)
  · refine zx_iconst (v := 0) (zd me_X12_image 10 rfl) (by decide) ?_
    refine zx_istore_n (i := 2) (ls' := [(2, .int (0 : Int32)), (0, .ref a0), (1, .int i1)]) (zd me_X12_image 11 rfl) rfl (Nat.le_of_ble_eq_true rfl) rfl ?_
    refine zx_loc [1, 2, 0] rfl ?_
    exact mt_X12_image_l18 h0 zF i1 (0 : Int32) M2
  · refine zx_iconst (v := 0) (zd me_X12_image 8 rfl) (by decide) ?_
    exact zx_zret (zd me_X12_image 9 rfl) rfl rfl
def mf_X12_restore_l60 (R : zRR) (a0 : Nat) : Nat → Int32 → Int32 → zMem → Option (Int32 × zMem)
  | 0, _, _, _ => none
  | fuel + 1, i1, i2, M =>
    if (19 : Int32) ≤ i2 then
      (zlet (zwI M a0 26 (0 : Int32)) fun M12 =>
      some ((1 : Int32), M12))
    else
      (zald 38 (((19 : Int32) * i1) + i2) fun j13 =>
      zald 19 i2 fun j14 =>
      zlet (zwL M (zrf R a0 21) j14 (M.2 (zrf R a0 23) j13)) fun M15 =>
      mf_X12_restore_l60 R a0 fuel i1 (i2 + 1) M15)
theorem mt_X12_restore_l60 {C : zCx} {ad : Nat → Nat} {T : zTT} {R : zRR} {a0 : Nat} (h0 : zi12 T R a0) : ∀ (fuel : Nat) (i1 : Int32) (i2 : Int32) (M : zMem), zX C mi_X12_restore (zFin C zrvI ad T R) 0 0 (mf_X12_restore_l60 R a0 fuel i1 i2 M) 60 [(0, .ref a0), (1, .int i1), (2, .int i2)] [] ad T R M := by
  intro fuel
  induction fuel with
  | zero => intros; exact zx_none
  | succ fuel ih =>
    intro i1 i2 M
    rw [mf_X12_restore_l60]
    refine zx_iload_n (i := 2) (zd me_X12_restore 36 rfl) rfl 2 rfl ?_
    refine zx_bipush (v := 19) (zd me_X12_restore 37 rfl) (by decide) ?_
    refine zx_icmp_ge (tgt := 89) (zd me_X12_restore 38 rfl) (by decide) (fun c11 => ?_) (fun c11 => ?_)
    · refine zx_aload_n (i := 0) (zd me_X12_restore 53 rfl) rfl 0 rfl ?_
      refine zx_iconst (v := 0) (zd me_X12_restore 54 rfl) (by decide) ?_
      refine zx_putI (zd me_X12_restore 55 rfl) fp_X12_227 (zi12_c h0) rfl (fun M12 _ => ?_)
      refine zx_iconst (v := 1) (zd me_X12_restore 56 rfl) (by decide) ?_
      exact zx_zret (zd me_X12_restore 57 rfl) rfl rfl
    · refine zx_aload_n (i := 0) (zd me_X12_restore 39 rfl) rfl 0 rfl ?_
      refine zx_getR (zd me_X12_restore 40 rfl) fl_X12_119 (zi12_c h0) rfl (zi12_r21 h0) ?_
      refine zx_iload_n (i := 2) (zd me_X12_restore 41 rfl) rfl 2 rfl ?_
      refine zx_aload_n (i := 0) (zd me_X12_restore 42 rfl) rfl 0 rfl ?_
      refine zx_getR (zd me_X12_restore 43 rfl) fl_X12_126 (zi12_c h0) rfl (zi12_r23 h0) ?_
      refine zx_bipush (v := 19) (zd me_X12_restore 44 rfl) (by decide) ?_
      refine zx_iload_n (i := 1) (zd me_X12_restore 45 rfl) rfl 1 rfl ?_
      refine zx_imul (zd me_X12_restore 46 rfl) ?_
      refine zx_iload_n (i := 2) (zd me_X12_restore 47 rfl) rfl 2 rfl ?_
      refine zx_iadd (zd me_X12_restore 48 rfl) ?_
      refine zx_lald (zd me_X12_restore 49 rfl) (zi12_t23 h0) (fun j13 hj13 => ?_)
      refine zx_last (zd me_X12_restore 50 rfl) (zi12_t21 h0) (fun M15 => ?_)
      refine zx_iinc (v := 1) (ls' := [(2, .int (i2 + 1)), (0, .ref a0), (1, .int i1)]) (zd me_X12_restore 51 rfl) (Nat.le_of_ble_eq_true rfl) 2 rfl (by decide) rfl ?_
      refine zx_goto (tgt := 60) (zd me_X12_restore 52 rfl) (by decide) ?_
      refine zx_loc [1, 2, 0] rfl ?_
      exact ih i1 (i2 + 1) M15
def mf_X12_restore_l27 (R : zRR) (a0 : Nat) : Nat → Int32 → Int32 → zMem → Option (Int32 × zMem)
  | 0, _, _, _ => none
  | fuel + 1, i1, i2, M =>
    if (354 : Int32) ≤ i2 then
      (mf_X12_restore_l60 R a0 zF i1 (0 : Int32) M)
    else
      (zald 708 (((354 : Int32) * i1) + i2) fun j8 =>
      zald 354 i2 fun j9 =>
      zlet (zwI M (zrf R a0 14) j9 (M.1 (zrf R a0 16) j8)) fun M10 =>
      mf_X12_restore_l27 R a0 fuel i1 (i2 + 1) M10)
theorem mt_X12_restore_l27 {C : zCx} {ad : Nat → Nat} {T : zTT} {R : zRR} {a0 : Nat} (h0 : zi12 T R a0) : ∀ (fuel : Nat) (i1 : Int32) (i2 : Int32) (M : zMem), zX C mi_X12_restore (zFin C zrvI ad T R) 0 0 (mf_X12_restore_l27 R a0 fuel i1 i2 M) 27 [(0, .ref a0), (1, .int i1), (2, .int i2)] [] ad T R M := by
  intro fuel
  induction fuel with
  | zero => intros; exact zx_none
  | succ fuel ih =>
    intro i1 i2 M
    rw [mf_X12_restore_l27]
    refine zx_iload_n (i := 2) (zd me_X12_restore 17 rfl) rfl 2 rfl ?_
    refine zx_sipush (v := 354) (zd me_X12_restore 18 rfl) (by decide) ?_
    refine zx_icmp_ge (tgt := 58) (zd me_X12_restore 19 rfl) (by decide) (fun c7 => ?_) (fun c7 => ?_)
    · refine zx_iconst (v := 0) (zd me_X12_restore 34 rfl) (by decide) ?_
      refine zx_istore_n (i := 2) (ls' := [(2, .int (0 : Int32)), (0, .ref a0), (1, .int i1)]) (zd me_X12_restore 35 rfl) rfl (Nat.le_of_ble_eq_true rfl) rfl ?_
      refine zx_loc [1, 2, 0] rfl ?_
      exact mt_X12_restore_l60 h0 zF i1 (0 : Int32) M
    · refine zx_aload_n (i := 0) (zd me_X12_restore 20 rfl) rfl 0 rfl ?_
      refine zx_getR (zd me_X12_restore 21 rfl) fl_X12_98 (zi12_c h0) rfl (zi12_r14 h0) ?_
      refine zx_iload_n (i := 2) (zd me_X12_restore 22 rfl) rfl 2 rfl ?_
      refine zx_aload_n (i := 0) (zd me_X12_restore 23 rfl) rfl 0 rfl ?_
      refine zx_getR (zd me_X12_restore 24 rfl) fl_X12_104 (zi12_c h0) rfl (zi12_r16 h0) ?_
      refine zx_sipush (v := 354) (zd me_X12_restore 25 rfl) (by decide) ?_
      refine zx_iload_n (i := 1) (zd me_X12_restore 26 rfl) rfl 1 rfl ?_
      refine zx_imul (zd me_X12_restore 27 rfl) ?_
      refine zx_iload_n (i := 2) (zd me_X12_restore 28 rfl) rfl 2 rfl ?_
      refine zx_iadd (zd me_X12_restore 29 rfl) ?_
      refine zx_iald (zd me_X12_restore 30 rfl) (zi12_t16 h0) (fun j8 hj8 => ?_)
      refine zx_iast (zd me_X12_restore 31 rfl) (zi12_t14 h0) (fun M10 => ?_)
      refine zx_iinc (v := 1) (ls' := [(2, .int (i2 + 1)), (0, .ref a0), (1, .int i1)]) (zd me_X12_restore 32 rfl) (Nat.le_of_ble_eq_true rfl) 2 rfl (by decide) rfl ?_
      refine zx_goto (tgt := 27) (zd me_X12_restore 33 rfl) (by decide) ?_
      refine zx_loc [1, 2, 0] rfl ?_
      exact ih i1 (i2 + 1) M10
def mf_X12_restore (R : zRR) (a0 : Nat) (i1 : Int32) (M : zMem) : Option (Int32 × zMem) :=
  zlet (zwI M a0 0 (0 : Int32)) fun M1 =>
  zcl (mf_X12_isIn R i1 (0 : Int32) (1 : Int32) M1) fun r3 M2 =>
  if r3 = 0 then
    (some ((0 : Int32), M2))
  else
    (zald 2 i1 fun j5 =>
    if (M2.1 (zrf R a0 24) j5) = 0 then
      (some ((0 : Int32), M2))
    else
      (mf_X12_restore_l27 R a0 zF i1 (0 : Int32) M2))
theorem mc_X12_restore (l : Launch) {T : zTT} {R : zRR} {a0 : Nat} (h0 : zi12 T R a0) (i1 : Int32) (M : zMem) : zMS l yX12_restore mi_X12_restore zrvI (mf_X12_restore R a0 i1 M) [.ref a0, .int i1] T R M := by
  refine zMS.of (by decide +kernel) rfl ⟨rfl, rfl⟩ (Nat.le_of_ble_eq_true rfl) (fun C ad _ => ?_)
  show zX C mi_X12_restore (zFin C zrvI ad T R) 0 0 (mf_X12_restore R a0 i1 M) 0 [(0, .ref a0), (1, .int i1)] [] ad T R M
  unfold mf_X12_restore
  refine zx_aload_n (i := 0) (zd me_X12_restore 0 rfl) rfl 0 rfl ?_
  refine zx_iconst (v := 0) (zd me_X12_restore 1 rfl) (by decide) ?_
  refine zx_putI (zd me_X12_restore 2 rfl) fp_X12_1 (zi12_c h0) rfl (fun M1 _ => ?_)
  refine zx_iload_n (i := 1) (zd me_X12_restore 3 rfl) rfl 1 rfl ?_
  refine zx_iconst (v := 0) (zd me_X12_restore 4 rfl) (by decide) ?_
  refine zx_iconst (v := 1) (zd me_X12_restore 5 rfl) (by decide) ?_
  refine zx_callSI3 (zd me_X12_restore 6 rfl) (mc_X12_isIn (zl C) i1 (0 : Int32) (1 : Int32) M1) lk_X12_75 ⟨(Nat.le_of_ble_eq_true rfl), (Nat.le_of_ble_eq_true rfl)⟩ (Nat.le_of_ble_eq_true rfl) (fun r3 M2 => ?_)
  refine zx_if_eq (tgt := 23) (zd me_X12_restore 7 rfl) (by decide) (fun c4 => ?_) (fun c4 => ?_)
  · refine zx_iconst (v := 0) (zd me_X12_restore 13 rfl) (by decide) ?_
    exact zx_zret (zd me_X12_restore 14 rfl) rfl rfl
  · refine zx_aload_n (i := 0) (zd me_X12_restore 8 rfl) rfl 0 rfl ?_
    refine zx_getR (zd me_X12_restore 9 rfl) fl_X12_129 (zi12_c h0) rfl (zi12_r24 h0) ?_
    refine zx_iload_n (i := 1) (zd me_X12_restore 10 rfl) rfl 1 rfl ?_
    refine zx_bald (zd me_X12_restore 11 rfl) (zi12_t24 h0) (fun j5 hj5 => ?_)
    refine zx_if_ne (tgt := 25) (zd me_X12_restore 12 rfl) (by decide) (fun c6 => ?_) (fun c6 => ?_)
    · refine zx_iconst (v := 0) (zd me_X12_restore 15 rfl) (by decide) ?_
      refine zx_istore_n (i := 2) (ls' := [(2, .int (0 : Int32)), (0, .ref a0), (1, .int i1)]) (zd me_X12_restore 16 rfl) rfl (Nat.le_of_ble_eq_true rfl) rfl ?_
      refine zx_loc [1, 2, 0] rfl ?_
      exact mt_X12_restore_l27 h0 zF i1 (0 : Int32) M2
    · refine zx_iconst (v := 0) (zd me_X12_restore 13 rfl) (by decide) ?_
      exact zx_zret (zd me_X12_restore 14 rfl) rfl rfl
