def mf_X11_feed (R : zRR) (a0 : Nat) (i1 : Int32) (i2 : Int32) (i3 : Int32) (i4 : Int32) (i5 : Int32) (M : zMem) : Option (Int32 × zMem) :=
  if ((M.1 (zrf R a0 0) 1) + (20 : Int32)) ≤ (940 : Int32) then
    (zcl (mf_X10_addNumber R (zrf R a0 0) i1 M) fun _ M2 =>
    zcl (mf_X10_addNumber R (zrf R a0 0) i2 M2) fun _ M4 =>
    zcl (mf_X10_addNumber R (zrf R a0 0) i3 M4) fun _ M6 =>
    zcl (mf_X10_addNumber R (zrf R a0 0) i4 M6) fun _ M8 =>
    zcl (mf_X10_addNumber R (zrf R a0 0) i5 M8) fun _ M10 =>
    some ((M10.1 (zrf R a0 0) 1), M10))
  else
    (some ((-1 : Int32), M))
theorem mc_X11_feed (l : Launch) {T : zTT} {R : zRR} {a0 : Nat} (h0 : zi11 T R a0) (i1 : Int32) (i2 : Int32) (i3 : Int32) (i4 : Int32) (i5 : Int32) (M : zMem) : zMS l yX11_feed mi_X11_feed zrvI (mf_X11_feed R a0 i1 i2 i3 i4 i5 M) [.ref a0, .int i1, .int i2, .int i3, .int i4, .int i5] T R M := by
  refine zMS.of (by decide +kernel) rfl ⟨rfl, rfl⟩ (Nat.le_of_ble_eq_true rfl) (fun C ad _ => ?_)
  show zX C mi_X11_feed (zFin C zrvI ad T R) 0 0 (mf_X11_feed R a0 i1 i2 i3 i4 i5 M) 0 [(0, .ref a0), (1, .int i1), (2, .int i2), (3, .int i3), (4, .int i4), (5, .int i5)] [] ad T R M
  unfold mf_X11_feed
  refine zx_aload_n (i := 0) (zd me_X11_feed 0 rfl) rfl 0 rfl ?_
  refine zx_getR (zd me_X11_feed 1 rfl) fl_X11_10 (zi11_c h0) rfl (zi11_r0 h0) ?_
  refine zx_getI (zd me_X11_feed 2 rfl) fl_X11_99 (zi10_c (zi11_t0 h0)) rfl ?_
  refine zx_bipush (v := 20) (zd me_X11_feed 3 rfl) (by decide) ?_
  refine zx_iadd (zd me_X11_feed 4 rfl) ?_
  refine zx_sipush (v := 940) (zd me_X11_feed 5 rfl) (by decide) ?_
  refine zx_icmp_le (tgt := 18) (zd me_X11_feed 6 rfl) (by decide) (fun c1 => ?_) (fun c1 => ?_)
  · refine zx_aload_n (i := 0) (zd me_X11_feed 9 rfl) rfl 0 rfl ?_
    refine zx_getR (zd me_X11_feed 10 rfl) fl_X11_10 (zi11_c h0) rfl (zi11_r0 h0) ?_
    refine zx_iload_n (i := 1) (zd me_X11_feed 11 rfl) rfl 1 rfl ?_
    refine zx_callVV1 (zd me_X11_feed 12 rfl) (mc_X10_addNumber (zl C) (zi11_t0 h0) i1 M) lk_X11_103 ⟨(Nat.le_of_ble_eq_true rfl), (Nat.le_of_ble_eq_true rfl)⟩ (Nat.le_of_ble_eq_true rfl) (zi10_c (zi11_t0 h0)) rfl (fun r3 M2 => ?_)
    refine zx_aload_n (i := 0) (zd me_X11_feed 13 rfl) rfl 0 rfl ?_
    refine zx_getR (zd me_X11_feed 14 rfl) fl_X11_10 (zi11_c h0) rfl (zi11_r0 h0) ?_
    refine zx_iload_n (i := 2) (zd me_X11_feed 15 rfl) rfl 2 rfl ?_
    refine zx_callVV1 (zd me_X11_feed 16 rfl) (mc_X10_addNumber (zl C) (zi11_t0 h0) i2 M2) lk_X11_103 ⟨(Nat.le_of_ble_eq_true rfl), (Nat.le_of_ble_eq_true rfl)⟩ (Nat.le_of_ble_eq_true rfl) (zi10_c (zi11_t0 h0)) rfl (fun r5 M4 => ?_)
    refine zx_aload_n (i := 0) (zd me_X11_feed 17 rfl) rfl 0 rfl ?_
    refine zx_getR (zd me_X11_feed 18 rfl) fl_X11_10 (zi11_c h0) rfl (zi11_r0 h0) ?_
    refine zx_iload_n (i := 3) (zd me_X11_feed 19 rfl) rfl 3 rfl ?_
    refine zx_callVV1 (zd me_X11_feed 20 rfl) (mc_X10_addNumber (zl C) (zi11_t0 h0) i3 M4) lk_X11_103 ⟨(Nat.le_of_ble_eq_true rfl), (Nat.le_of_ble_eq_true rfl)⟩ (Nat.le_of_ble_eq_true rfl) (zi10_c (zi11_t0 h0)) rfl (fun r7 M6 => ?_)
    refine zx_aload_n (i := 0) (zd me_X11_feed 21 rfl) rfl 0 rfl ?_
    refine zx_getR (zd me_X11_feed 22 rfl) fl_X11_10 (zi11_c h0) rfl (zi11_r0 h0) ?_
    refine zx_iload (zd me_X11_feed 23 rfl) 4 rfl ?_
    refine zx_callVV1 (zd me_X11_feed 24 rfl) (mc_X10_addNumber (zl C) (zi11_t0 h0) i4 M6) lk_X11_103 ⟨(Nat.le_of_ble_eq_true rfl), (Nat.le_of_ble_eq_true rfl)⟩ (Nat.le_of_ble_eq_true rfl) (zi10_c (zi11_t0 h0)) rfl (fun r9 M8 => ?_)
    refine zx_aload_n (i := 0) (zd me_X11_feed 25 rfl) rfl 0 rfl ?_
    refine zx_getR (zd me_X11_feed 26 rfl) fl_X11_10 (zi11_c h0) rfl (zi11_r0 h0) ?_
    refine zx_iload (zd me_X11_feed 27 rfl) 5 rfl ?_
    refine zx_callVV1 (zd me_X11_feed 28 rfl) (mc_X10_addNumber (zl C) (zi11_t0 h0) i5 M8) lk_X11_103 ⟨(Nat.le_of_ble_eq_true rfl), (Nat.le_of_ble_eq_true rfl)⟩ (Nat.le_of_ble_eq_true rfl) (zi10_c (zi11_t0 h0)) rfl (fun r11 M10 => ?_)
    refine zx_aload_n (i := 0) (zd me_X11_feed 29 rfl) rfl 0 rfl ?_
    refine zx_getR (zd me_X11_feed 30 rfl) fl_X11_10 (zi11_c h0) rfl (zi11_r0 h0) ?_
    refine zx_getI (zd me_X11_feed 31 rfl) fl_X11_99 (zi10_c (zi11_t0 h0)) rfl ?_
    exact zx_iret (zd me_X11_feed 32 rfl) rfl
  · refine zx_iconst (v := (-1)) (zd me_X11_feed 7 rfl) (by decide) ?_
    exact zx_iret (zd me_X11_feed 8 rfl) rfl
def mf_X11_end (R : zRR) (a0 : Nat) (i1 : Int32) (M : zMem) : Option (Int32 × zMem) :=
  if i1 < 0 then
    (some ((0 : Int32), M))
  else
    (if i1 ≤ (M.1 (zrf R a0 0) 1) then
      (zlet (zwI M (zrf R a0 0) 1 i1) fun M3 =>
      some ((1 : Int32), M3))
    else
      (some ((0 : Int32), M)))
theorem mc_X11_end (l : Launch) {T : zTT} {R : zRR} {a0 : Nat} (h0 : zi11 T R a0) (i1 : Int32) (M : zMem) : zMS l yX11_end mi_X11_end zrvI (mf_X11_end R a0 i1 M) [.ref a0, .int i1] T R M := by
  refine zMS.of (by decide +kernel) rfl ⟨rfl, rfl⟩ (Nat.le_of_ble_eq_true rfl) (fun C ad _ => ?_)
  show zX C mi_X11_end (zFin C zrvI ad T R) 0 0 (mf_X11_end R a0 i1 M) 0 [(0, .ref a0), (1, .int i1)] [] ad T R M
  unfold mf_X11_end
  refine zx_iload_n (i := 1) (zd me_X11_end 0 rfl) rfl 1 rfl ?_
  refine zx_if_lt (tgt := 15) (zd me_X11_end 1 rfl) (by decide) (fun c1 => ?_) (fun c1 => ?_)
  · refine zx_iconst (v := 0) (zd me_X11_end 7 rfl) (by decide) ?_
    exact zx_zret (zd me_X11_end 8 rfl) rfl rfl
  · refine zx_iload_n (i := 1) (zd me_X11_end 2 rfl) rfl 1 rfl ?_
    refine zx_aload_n (i := 0) (zd me_X11_end 3 rfl) rfl 0 rfl ?_
    refine zx_getR (zd me_X11_end 4 rfl) fl_X11_10 (zi11_c h0) rfl (zi11_r0 h0) ?_
    refine zx_getI (zd me_X11_end 5 rfl) fl_X11_99 (zi10_c (zi11_t0 h0)) rfl ?_
    refine zx_icmp_le (tgt := 17) (zd me_X11_end 6 rfl) (by decide) (fun c2 => ?_) (fun c2 => ?_)
    · refine zx_aload_n (i := 0) (zd me_X11_end 9 rfl) rfl 0 rfl ?_
      refine zx_getR (zd me_X11_end 10 rfl) fl_X11_10 (zi11_c h0) rfl (zi11_r0 h0) ?_
      refine zx_iload_n (i := 1) (zd me_X11_end 11 rfl) rfl 1 rfl ?_
      refine zx_putI (zd me_X11_end 12 rfl) fp_X11_99 (zi10_c (zi11_t0 h0)) rfl (fun M3 _ => ?_)
      refine zx_iconst (v := 1) (zd me_X11_end 13 rfl) (by decide) ?_
      exact zx_zret (zd me_X11_end 14 rfl) rfl rfl
    · refine zx_iconst (v := 0) (zd me_X11_end 7 rfl) (by decide) ?_
      exact zx_zret (zd me_X11_end 8 rfl) rfl rfl
def mf_X11_room (R : zRR) (a0 : Nat) (M : zMem) : Option (Int32 × zMem) :=
  zcl (mf_X7_readLines R (zrf R a0 2) (zrf R a0 0) M) fun r2 M1 =>
  zlet (zwI M1 (zrf R a0 0) 1 (0 : Int32)) fun M3 =>
  if (M3.1 (zrf R a0 0) 2) = 0 then
    (zcl (mf_X7_copyFrom R (zrf R a0 1) (zrf R a0 2) M3) fun _ M5 =>
    zcl (mf_X3_begin R (zrf R a0 3) M5) fun _ M7 =>
    zcl (mf_X8_wipe R (zrf R a0 5) M7) fun _ M9 =>
    zcl (mf_X5_forget R (zrf R a0 8) M9) fun _ M11 =>
    some (r2, M11))
  else
    (some (((-1 : Int32) - (M3.1 (zrf R a0 0) 3)), M3))
theorem mc_X11_room (l : Launch) {T : zTT} {R : zRR} {a0 : Nat} (h0 : zi11 T R a0) (M : zMem) : zMS l yX11_room mi_X11_room zrvI (mf_X11_room R a0 M) [.ref a0] T R M := by
  refine zMS.of (by decide +kernel) rfl ⟨rfl, rfl⟩ (Nat.le_of_ble_eq_true rfl) (fun C ad _ => ?_)
  show zX C mi_X11_room (zFin C zrvI ad T R) 0 0 (mf_X11_room R a0 M) 0 [(0, .ref a0)] [] ad T R M
  unfold mf_X11_room
  refine zx_aload_n (i := 0) (zd me_X11_room 0 rfl) rfl 0 rfl ?_
  refine zx_getR (zd me_X11_room 1 rfl) fl_X11_23 (zi11_c h0) rfl (zi11_r2 h0) ?_
  refine zx_aload_n (i := 0) (zd me_X11_room 2 rfl) rfl 0 rfl ?_
  refine zx_getR (zd me_X11_room 3 rfl) fl_X11_10 (zi11_c h0) rfl (zi11_r0 h0) ?_
  refine zx_callVI1 (zd me_X11_room 4 rfl) (mc_X7_readLines (zl C) (zi11_t2 h0) (zi11_t0 h0) M) lk_X11_107 ⟨(Nat.le_of_ble_eq_true rfl), (Nat.le_of_ble_eq_true rfl)⟩ (Nat.le_of_ble_eq_true rfl) (zi7_c (zi11_t2 h0)) rfl (fun r2 M1 => ?_)
  refine zx_istore_n (i := 1) (ls' := [(1, .int r2), (0, .ref a0)]) (zd me_X11_room 5 rfl) rfl (Nat.le_of_ble_eq_true rfl) rfl ?_
  refine zx_aload_n (i := 0) (zd me_X11_room 6 rfl) rfl 1 rfl ?_
  refine zx_getR (zd me_X11_room 7 rfl) fl_X11_10 (zi11_c h0) rfl (zi11_r0 h0) ?_
  refine zx_iconst (v := 0) (zd me_X11_room 8 rfl) (by decide) ?_
  refine zx_putI (zd me_X11_room 9 rfl) fp_X11_99 (zi10_c (zi11_t0 h0)) rfl (fun M3 _ => ?_)
  refine zx_aload_n (i := 0) (zd me_X11_room 10 rfl) rfl 1 rfl ?_
  refine zx_getR (zd me_X11_room 11 rfl) fl_X11_10 (zi11_c h0) rfl (zi11_r0 h0) ?_
  refine zx_getI (zd me_X11_room 12 rfl) fl_X11_111 (zi10_c (zi11_t0 h0)) rfl ?_
  refine zx_if_eq (tgt := 40) (zd me_X11_room 13 rfl) (by decide) (fun c4 => ?_) (fun c4 => ?_)
  · refine zx_aload_n (i := 0) (zd me_X11_room 20 rfl) rfl 1 rfl ?_
    refine zx_getR (zd me_X11_room 21 rfl) fl_X11_19 (zi11_c h0) rfl (zi11_r1 h0) ?_
    refine zx_aload_n (i := 0) (zd me_X11_room 22 rfl) rfl 1 rfl ?_
    refine zx_getR (zd me_X11_room 23 rfl) fl_X11_23 (zi11_c h0) rfl (zi11_r2 h0) ?_
    refine zx_callVV1 (zd me_X11_room 24 rfl) (mc_X7_copyFrom (zl C) (zi11_t1 h0) (zi11_t2 h0) M3) lk_X11_117 ⟨(Nat.le_of_ble_eq_true rfl), (Nat.le_of_ble_eq_true rfl)⟩ (Nat.le_of_ble_eq_true rfl) (zi7_c (zi11_t1 h0)) rfl (fun r6 M5 => ?_)
    refine zx_aload_n (i := 0) (zd me_X11_room 25 rfl) rfl 1 rfl ?_
    refine zx_getR (zd me_X11_room 26 rfl) fl_X11_31 (zi11_c h0) rfl (zi11_r3 h0) ?_
    refine zx_callVV0 (zd me_X11_room 27 rfl) (mc_X3_begin (zl C) (zi11_t3 h0) M5) lk_X11_120 ⟨(Nat.le_of_ble_eq_true rfl), (Nat.le_of_ble_eq_true rfl)⟩ (Nat.le_of_ble_eq_true rfl) (zi3_c (zi11_t3 h0)) rfl (fun r8 M7 => ?_)
    refine zx_aload_n (i := 0) (zd me_X11_room 28 rfl) rfl 1 rfl ?_
    refine zx_getR (zd me_X11_room 29 rfl) fl_X11_41 (zi11_c h0) rfl (zi11_r5 h0) ?_
    refine zx_callVV0 (zd me_X11_room 30 rfl) (mc_X8_wipe (zl C) (zi11_t5 h0) M7) lk_X11_123 ⟨(Nat.le_of_ble_eq_true rfl), (Nat.le_of_ble_eq_true rfl)⟩ (Nat.le_of_ble_eq_true rfl) (zi8_c (zi11_t5 h0)) rfl (fun r10 M9 => ?_)
    refine zx_aload_n (i := 0) (zd me_X11_room 31 rfl) rfl 1 rfl ?_
    refine zx_getR (zd me_X11_room 32 rfl) fl_X11_58 (zi11_c h0) rfl (zi11_r8 h0) ?_
    refine zx_callVV0 (zd me_X11_room 33 rfl) (mc_X5_forget (zl C) (zi11_t8 h0) M9) lk_X11_126 ⟨(Nat.le_of_ble_eq_true rfl), (Nat.le_of_ble_eq_true rfl)⟩ (Nat.le_of_ble_eq_true rfl) (zi5_c (zi11_t8 h0)) rfl (fun r12 M11 => ?_)
    refine zx_iload_n (i := 1) (zd me_X11_room 34 rfl) rfl 0 rfl ?_
    exact zx_iret (zd me_X11_room 35 rfl) rfl
  · refine zx_iconst (v := (-1)) (zd me_X11_room 14 rfl) (by decide) ?_
    refine zx_aload_n (i := 0) (zd me_X11_room 15 rfl) rfl 1 rfl ?_
    refine zx_getR (zd me_X11_room 16 rfl) fl_X11_10 (zi11_c h0) rfl (zi11_r0 h0) ?_
    refine zx_getI (zd me_X11_room 17 rfl) fl_X11_114 (zi10_c (zi11_t0 h0)) rfl ?_
    refine zx_isub (zd me_X11_room 18 rfl) ?_
    exact zx_iret (zd me_X11_room 19 rfl) rfl
def mf_X11_fault (R : zRR) (a0 : Nat) (M : zMem) : Option (Int32 × zMem) :=
  some ((M.1 (zrf R a0 0) 2), M)
theorem mc_X11_fault (l : Launch) {T : zTT} {R : zRR} {a0 : Nat} (h0 : zi11 T R a0) (M : zMem) : zMS l yX11_fault mi_X11_fault zrvI (mf_X11_fault R a0 M) [.ref a0] T R M := by
  refine zMS.of (by decide +kernel) rfl ⟨rfl, rfl⟩ (Nat.le_of_ble_eq_true rfl) (fun C ad _ => ?_)
  show zX C mi_X11_fault (zFin C zrvI ad T R) 0 0 (mf_X11_fault R a0 M) 0 [(0, .ref a0)] [] ad T R M
  unfold mf_X11_fault
  refine zx_aload_n (i := 0) (zd me_X11_fault 0 rfl) rfl 0 rfl ?_
  refine zx_getR (zd me_X11_fault 1 rfl) fl_X11_10 (zi11_c h0) rfl (zi11_r0 h0) ?_
  refine zx_getI (zd me_X11_fault 2 rfl) fl_X11_111 (zi10_c (zi11_t0 h0)) rfl ?_
  exact zx_iret (zd me_X11_fault 3 rfl) rfl
def mf_X11_bath (R : zRR) (a0 : Nat) (i1 : Int32) (i2 : Int32) (M : zMem) : Option (Int32 × zMem) :=
  zcl (mf_X7_hasBath R (zrf R a0 1) i1 M) fun r2 M1 =>
  if r2 = 0 then
    (some ((-1 : Int32), M1))
  else
    (if i2 = 0 then
      (zald 6 i1 fun j5 =>
      some ((M1.1 (zrf R (zrf R a0 1) 6) j5), M1))
    else
    if i2 = 1 then
      (zald 6 i1 fun j7 =>
      some ((M1.1 (zrf R (zrf R a0 1) 7) j7), M1))
    else
    if i2 = 2 then
      (zcl (mf_X3_hadBy R (zrf R a0 3) i1 M1) fun r10 M9 =>
      some (r10, M9))
    else
    if i2 = 3 then
      (zcl (mf_X3_insideOf R (zrf R a0 3) i1 M1) fun r13 M12 =>
      some (r13, M12))
    else
    if i2 = 4 then
      (zcl (mf_X3_isOpen R (zrf R a0 3) i1 M1) fun r16 M15 =>
      if r16 = 0 then
        (some ((0 : Int32), M15))
      else
        (some ((1 : Int32), M15)))
    else
    if i2 = 5 then
      (zcl (mf_X3_needOf R (zrf R a0 3) i1 M1) fun r20 M19 =>
      some (r20, M19))
    else
      (some ((-1 : Int32), M1)))
theorem mc_X11_bath (l : Launch) {T : zTT} {R : zRR} {a0 : Nat} (h0 : zi11 T R a0) (i1 : Int32) (i2 : Int32) (M : zMem) : zMS l yX11_bath mi_X11_bath zrvI (mf_X11_bath R a0 i1 i2 M) [.ref a0, .int i1, .int i2] T R M := by
  refine zMS.of (by decide +kernel) rfl ⟨rfl, rfl⟩ (Nat.le_of_ble_eq_true rfl) (fun C ad _ => ?_)
  show zX C mi_X11_bath (zFin C zrvI ad T R) 0 0 (mf_X11_bath R a0 i1 i2 M) 0 [(0, .ref a0), (1, .int i1), (2, .int i2)] [] ad T R M
  unfold mf_X11_bath
  refine zx_aload_n (i := 0) (zd me_X11_bath 0 rfl) rfl 0 rfl ?_
  refine zx_getR (zd me_X11_bath 1 rfl) fl_X11_19 (zi11_c h0) rfl (zi11_r1 h0) ?_
  refine zx_iload_n (i := 1) (zd me_X11_bath 2 rfl) rfl 1 rfl ?_
  refine zx_callVI1 (zd me_X11_bath 3 rfl) (mc_X7_hasBath (zl C) (zi11_t1 h0) i1 M) lk_X11_129 ⟨(Nat.le_of_ble_eq_true rfl), (Nat.le_of_ble_eq_true rfl)⟩ (Nat.le_of_ble_eq_true rfl) (zi7_c (zi11_t1 h0)) rfl (fun r2 M1 => ?_)
  refine zx_if_ne (tgt := 13) (zd me_X11_bath 4 rfl) (by decide) (fun c3 => ?_) (fun c3 => ?_)
  · refine zx_iload_n (i := 2) (zd me_X11_bath 7 rfl) rfl 2 rfl ?_
    refine zx_ite (fun c4 => ?_) (fun c4 => ?_)
    · refine zx_tin (off := 38) (tgt := 52) (zd me_X11_bath 8 rfl) (by rw [c4]; decide) (by rw [c4]; decide) (by rw [c4]; rfl) (by decide) ?_
      refine zx_aload_n (i := 0) (zd me_X11_bath 9 rfl) rfl 0 rfl ?_
      refine zx_getR (zd me_X11_bath 10 rfl) fl_X11_19 (zi11_c h0) rfl (zi11_r1 h0) ?_
      refine zx_getR (zd me_X11_bath 11 rfl) fl_X11_133 (zi7_c (zi11_t1 h0)) rfl (zi7_r6 (zi11_t1 h0)) ?_
      refine zx_iload_n (i := 1) (zd me_X11_bath 12 rfl) rfl 1 rfl ?_
      refine zx_iald (zd me_X11_bath 13 rfl) (zi7_t6 (zi11_t1 h0)) (fun j5 hj5 => ?_)
      exact zx_iret (zd me_X11_bath 14 rfl) rfl
    · refine zx_ite (fun c6 => ?_) (fun c6 => ?_)
      · refine zx_tin (off := 48) (tgt := 62) (zd me_X11_bath 8 rfl) (by rw [c6]; decide) (by rw [c6]; decide) (by rw [c6]; rfl) (by decide) ?_
        refine zx_aload_n (i := 0) (zd me_X11_bath 15 rfl) rfl 0 rfl ?_
        refine zx_getR (zd me_X11_bath 16 rfl) fl_X11_19 (zi11_c h0) rfl (zi11_r1 h0) ?_
        refine zx_getR (zd me_X11_bath 17 rfl) fl_X11_137 (zi7_c (zi11_t1 h0)) rfl (zi7_r7 (zi11_t1 h0)) ?_
        refine zx_iload_n (i := 1) (zd me_X11_bath 18 rfl) rfl 1 rfl ?_
        refine zx_iald (zd me_X11_bath 19 rfl) (zi7_t7 (zi11_t1 h0)) (fun j7 hj7 => ?_)
        exact zx_iret (zd me_X11_bath 20 rfl) rfl
      · refine zx_ite (fun c8 => ?_) (fun c8 => ?_)
        · refine zx_tin (off := 58) (tgt := 72) (zd me_X11_bath 8 rfl) (by rw [c8]; decide) (by rw [c8]; decide) (by rw [c8]; rfl) (by decide) ?_
          refine zx_aload_n (i := 0) (zd me_X11_bath 21 rfl) rfl 0 rfl ?_
          refine zx_getR (zd me_X11_bath 22 rfl) fl_X11_31 (zi11_c h0) rfl (zi11_r3 h0) ?_
          refine zx_iload_n (i := 1) (zd me_X11_bath 23 rfl) rfl 1 rfl ?_
          refine zx_callVI1 (zd me_X11_bath 24 rfl) (mc_X3_hadBy (zl C) (zi11_t3 h0) i1 M1) lk_X11_140 ⟨(Nat.le_of_ble_eq_true rfl), (Nat.le_of_ble_eq_true rfl)⟩ (Nat.le_of_ble_eq_true rfl) (zi3_c (zi11_t3 h0)) rfl (fun r10 M9 => ?_)
          exact zx_iret (zd me_X11_bath 25 rfl) rfl
        · refine zx_ite (fun c11 => ?_) (fun c11 => ?_)
          · refine zx_tin (off := 67) (tgt := 81) (zd me_X11_bath 8 rfl) (by rw [c11]; decide) (by rw [c11]; decide) (by rw [c11]; rfl) (by decide) ?_
            refine zx_aload_n (i := 0) (zd me_X11_bath 26 rfl) rfl 0 rfl ?_
            refine zx_getR (zd me_X11_bath 27 rfl) fl_X11_31 (zi11_c h0) rfl (zi11_r3 h0) ?_
            refine zx_iload_n (i := 1) (zd me_X11_bath 28 rfl) rfl 1 rfl ?_
            refine zx_callVI1 (zd me_X11_bath 29 rfl) (mc_X3_insideOf (zl C) (zi11_t3 h0) i1 M1) lk_X11_144 ⟨(Nat.le_of_ble_eq_true rfl), (Nat.le_of_ble_eq_true rfl)⟩ (Nat.le_of_ble_eq_true rfl) (zi3_c (zi11_t3 h0)) rfl (fun r13 M12 => ?_)
            exact zx_iret (zd me_X11_bath 30 rfl) rfl
          · refine zx_ite (fun c14 => ?_) (fun c14 => ?_)
            · refine zx_tin (off := 76) (tgt := 90) (zd me_X11_bath 8 rfl) (by rw [c14]; decide) (by rw [c14]; decide) (by rw [c14]; rfl) (by decide) ?_
              refine zx_aload_n (i := 0) (zd me_X11_bath 31 rfl) rfl 0 rfl ?_
              refine zx_getR (zd me_X11_bath 32 rfl) fl_X11_31 (zi11_c h0) rfl (zi11_r3 h0) ?_
              refine zx_iload_n (i := 1) (zd me_X11_bath 33 rfl) rfl 1 rfl ?_
              refine zx_callVI1 (zd me_X11_bath 34 rfl) (mc_X3_isOpen (zl C) (zi11_t3 h0) i1 M1) lk_X11_147 ⟨(Nat.le_of_ble_eq_true rfl), (Nat.le_of_ble_eq_true rfl)⟩ (Nat.le_of_ble_eq_true rfl) (zi3_c (zi11_t3 h0)) rfl (fun r16 M15 => ?_)
              refine zx_if_eq (tgt := 105) (zd me_X11_bath 35 rfl) (by decide) (fun c17 => ?_) (fun c17 => ?_)
              · refine zx_iconst (v := 0) (zd me_X11_bath 38 rfl) (by decide) ?_
                exact zx_iret (zd me_X11_bath 39 rfl) rfl
              · refine zx_iconst (v := 1) (zd me_X11_bath 36 rfl) (by decide) ?_
                refine zx_goto (tgt := 106) (zd me_X11_bath 37 rfl) (by decide) ?_
                exact zx_iret (zd me_X11_bath 39 rfl) rfl
            · refine zx_ite (fun c18 => ?_) (fun c18 => ?_)
              · refine zx_tin (off := 93) (tgt := 107) (zd me_X11_bath 8 rfl) (by rw [c18]; decide) (by rw [c18]; decide) (by rw [c18]; rfl) (by decide) ?_
                refine zx_aload_n (i := 0) (zd me_X11_bath 40 rfl) rfl 0 rfl ?_
                refine zx_getR (zd me_X11_bath 41 rfl) fl_X11_31 (zi11_c h0) rfl (zi11_r3 h0) ?_
                refine zx_iload_n (i := 1) (zd me_X11_bath 42 rfl) rfl 1 rfl ?_
                refine zx_callVI1 (zd me_X11_bath 43 rfl) (mc_X3_needOf (zl C) (zi11_t3 h0) i1 M1) lk_X11_150 ⟨(Nat.le_of_ble_eq_true rfl), (Nat.le_of_ble_eq_true rfl)⟩ (Nat.le_of_ble_eq_true rfl) (zi3_c (zi11_t3 h0)) rfl (fun r20 M19 => ?_)
                exact zx_iret (zd me_X11_bath 44 rfl) rfl
              · refine zx_tout (tgt := 116) (zd me_X11_bath 8 rfl) (by have e0 := lv_neT c4 (a := 0) (by decide); have e1 := lv_neT c6 (a := 1) (by decide); have e2 := lv_neT c8 (a := 2) (by decide); have e3 := lv_neT c11 (a := 3) (by decide); have e4 := lv_neT c14 (a := 4) (by decide); have e5 := lv_neT c18 (a := 5) (by decide); omega) (by decide) ?_
                refine zx_iconst (v := (-1)) (zd me_X11_bath 45 rfl) (by decide) ?_
                exact zx_iret (zd me_X11_bath 46 rfl) rfl
  · refine zx_iconst (v := (-1)) (zd me_X11_bath 5 rfl) (by decide) ?_
    exact zx_iret (zd me_X11_bath 6 rfl) rfl
def mf_X11_asks (R : zRR) (a0 : Nat) (i1 : Int32) (i2 : Int32) (M : zMem) : Option (Int32 × zMem) :=
  zcl (mf_X7_hasPaper R (zrf R a0 1) i1 M) fun r2 M1 =>
  if r2 = 0 then
    (some ((-1 : Int32), M1))
  else
    (zcl (mf_X7_hasBath R (zrf R a0 1) i2 M1) fun r5 M4 =>
    if r5 = 0 then
      (some ((-1 : Int32), M4))
    else
      (zcl (mf_X7_asked R (zrf R a0 1) i1 i2 M4) fun r8 M7 =>
      some (r8, M7)))
theorem mc_X11_asks (l : Launch) {T : zTT} {R : zRR} {a0 : Nat} (h0 : zi11 T R a0) (i1 : Int32) (i2 : Int32) (M : zMem) : zMS l yX11_asks mi_X11_asks zrvI (mf_X11_asks R a0 i1 i2 M) [.ref a0, .int i1, .int i2] T R M := by
  refine zMS.of (by decide +kernel) rfl ⟨rfl, rfl⟩ (Nat.le_of_ble_eq_true rfl) (fun C ad _ => ?_)
  show zX C mi_X11_asks (zFin C zrvI ad T R) 0 0 (mf_X11_asks R a0 i1 i2 M) 0 [(0, .ref a0), (1, .int i1), (2, .int i2)] [] ad T R M
  unfold mf_X11_asks
  refine zx_aload_n (i := 0) (zd me_X11_asks 0 rfl) rfl 0 rfl ?_
  refine zx_getR (zd me_X11_asks 1 rfl) fl_X11_19 (zi11_c h0) rfl (zi11_r1 h0) ?_
  refine zx_iload_n (i := 1) (zd me_X11_asks 2 rfl) rfl 1 rfl ?_
  refine zx_callVI1 (zd me_X11_asks 3 rfl) (mc_X7_hasPaper (zl C) (zi11_t1 h0) i1 M) lk_X11_153 ⟨(Nat.le_of_ble_eq_true rfl), (Nat.le_of_ble_eq_true rfl)⟩ (Nat.le_of_ble_eq_true rfl) (zi7_c (zi11_t1 h0)) rfl (fun r2 M1 => ?_)
  refine zx_if_eq (tgt := 34) (zd me_X11_asks 4 rfl) (by decide) (fun c3 => ?_) (fun c3 => ?_)
  · refine zx_iconst (v := (-1)) (zd me_X11_asks 16 rfl) (by decide) ?_
    exact zx_iret (zd me_X11_asks 17 rfl) rfl
  · refine zx_aload_n (i := 0) (zd me_X11_asks 5 rfl) rfl 0 rfl ?_
    refine zx_getR (zd me_X11_asks 6 rfl) fl_X11_19 (zi11_c h0) rfl (zi11_r1 h0) ?_
    refine zx_iload_n (i := 2) (zd me_X11_asks 7 rfl) rfl 2 rfl ?_
    refine zx_callVI1 (zd me_X11_asks 8 rfl) (mc_X7_hasBath (zl C) (zi11_t1 h0) i2 M1) lk_X11_129 ⟨(Nat.le_of_ble_eq_true rfl), (Nat.le_of_ble_eq_true rfl)⟩ (Nat.le_of_ble_eq_true rfl) (zi7_c (zi11_t1 h0)) rfl (fun r5 M4 => ?_)
    refine zx_if_eq (tgt := 34) (zd me_X11_asks 9 rfl) (by decide) (fun c6 => ?_) (fun c6 => ?_)
    · refine zx_iconst (v := (-1)) (zd me_X11_asks 16 rfl) (by decide) ?_
      exact zx_iret (zd me_X11_asks 17 rfl) rfl
    · refine zx_aload_n (i := 0) (zd me_X11_asks 10 rfl) rfl 0 rfl ?_
      refine zx_getR (zd me_X11_asks 11 rfl) fl_X11_19 (zi11_c h0) rfl (zi11_r1 h0) ?_
      refine zx_iload_n (i := 1) (zd me_X11_asks 12 rfl) rfl 1 rfl ?_
      refine zx_iload_n (i := 2) (zd me_X11_asks 13 rfl) rfl 2 rfl ?_
      refine zx_callVI2 (zd me_X11_asks 14 rfl) (mc_X7_asked (zl C) (zi11_t1 h0) i1 i2 M4) lk_X11_156 ⟨(Nat.le_of_ble_eq_true rfl), (Nat.le_of_ble_eq_true rfl)⟩ (Nat.le_of_ble_eq_true rfl) (zi7_c (zi11_t1 h0)) rfl (fun r8 M7 => ?_)
      refine zx_goto (tgt := 35) (zd me_X11_asks 15 rfl) (by decide) ?_
      exact zx_iret (zd me_X11_asks 17 rfl) rfl
def mf_X11_now (R : zRR) (a0 : Nat) (i1 : Int32) (M : zMem) : Option (Int32 × zMem) :=
  if i1 = 0 then
    (zcl (mf_X3_minute R (zrf R a0 3) M) fun r3 M2 =>
    some (r3, M2))
  else
  if i1 = 1 then
    (zcl (mf_X3_allThatAre R (zrf R a0 3) (0 : Int32) M) fun r6 M5 =>
    some (r6, M5))
  else
  if i1 = 2 then
    (zcl (mf_X3_allThatAre R (zrf R a0 3) (1 : Int32) M) fun r9 M8 =>
    some (r9, M8))
  else
  if i1 = 3 then
    (zcl (mf_X3_allThatAre R (zrf R a0 3) (2 : Int32) M) fun r12 M11 =>
    some (r12, M11))
  else
  if i1 = 4 then
    (zcl (mf_X3_allThatAre R (zrf R a0 3) (3 : Int32) M) fun r15 M14 =>
    some (r15, M14))
  else
  if i1 = 5 then
    (zcl (mf_X3_allHeld R (zrf R a0 3) M) fun r18 M17 =>
    some (r18, M17))
  else
  if i1 = 6 then
    (zcl (mf_X3_openBaths R (zrf R a0 3) M) fun r21 M20 =>
    some (r21, M20))
  else
  if i1 = 7 then
    (zcl (mf_X3_freshLeft R (zrf R a0 3) M) fun r24 M23 =>
    some (r24, M23))
  else
    (some ((-1 : Int32), M))
theorem mc_X11_now (l : Launch) {T : zTT} {R : zRR} {a0 : Nat} (h0 : zi11 T R a0) (i1 : Int32) (M : zMem) : zMS l yX11_now mi_X11_now zrvI (mf_X11_now R a0 i1 M) [.ref a0, .int i1] T R M := by
  refine zMS.of (by decide +kernel) rfl ⟨rfl, rfl⟩ (Nat.le_of_ble_eq_true rfl) (fun C ad _ => ?_)
  show zX C mi_X11_now (zFin C zrvI ad T R) 0 0 (mf_X11_now R a0 i1 M) 0 [(0, .ref a0), (1, .int i1)] [] ad T R M
  unfold mf_X11_now
  refine zx_iload_n (i := 1) (zd me_X11_now 0 rfl) rfl 1 rfl ?_
  refine zx_ite (fun c1 => ?_) (fun c1 => ?_)
  · refine zx_tin (off := 47) (tgt := 48) (zd me_X11_now 1 rfl) (by rw [c1]; decide) (by rw [c1]; decide) (by rw [c1]; rfl) (by decide) ?_
    refine zx_aload_n (i := 0) (zd me_X11_now 2 rfl) rfl 0 rfl ?_
    refine zx_getR (zd me_X11_now 3 rfl) fl_X11_31 (zi11_c h0) rfl (zi11_r3 h0) ?_
    refine zx_callVI0 (zd me_X11_now 4 rfl) (mc_X3_minute (zl C) (zi11_t3 h0) M) lk_X11_172 ⟨(Nat.le_of_ble_eq_true rfl), (Nat.le_of_ble_eq_true rfl)⟩ (Nat.le_of_ble_eq_true rfl) (zi3_c (zi11_t3 h0)) rfl (fun r3 M2 => ?_)
    exact zx_iret (zd me_X11_now 5 rfl) rfl
  · refine zx_ite (fun c4 => ?_) (fun c4 => ?_)
    · refine zx_tin (off := 55) (tgt := 56) (zd me_X11_now 1 rfl) (by rw [c4]; decide) (by rw [c4]; decide) (by rw [c4]; rfl) (by decide) ?_
      refine zx_aload_n (i := 0) (zd me_X11_now 6 rfl) rfl 0 rfl ?_
      refine zx_getR (zd me_X11_now 7 rfl) fl_X11_31 (zi11_c h0) rfl (zi11_r3 h0) ?_
      refine zx_iconst (v := 0) (zd me_X11_now 8 rfl) (by decide) ?_
      refine zx_callVI1 (zd me_X11_now 9 rfl) (mc_X3_allThatAre (zl C) (zi11_t3 h0) (0 : Int32) M) lk_X11_176 ⟨(Nat.le_of_ble_eq_true rfl), (Nat.le_of_ble_eq_true rfl)⟩ (Nat.le_of_ble_eq_true rfl) (zi3_c (zi11_t3 h0)) rfl (fun r6 M5 => ?_)
      exact zx_iret (zd me_X11_now 10 rfl) rfl
    · refine zx_ite (fun c7 => ?_) (fun c7 => ?_)
      · refine zx_tin (off := 64) (tgt := 65) (zd me_X11_now 1 rfl) (by rw [c7]; decide) (by rw [c7]; decide) (by rw [c7]; rfl) (by decide) ?_
        refine zx_aload_n (i := 0) (zd me_X11_now 11 rfl) rfl 0 rfl ?_
        refine zx_getR (zd me_X11_now 12 rfl) fl_X11_31 (zi11_c h0) rfl (zi11_r3 h0) ?_
        refine zx_iconst (v := 1) (zd me_X11_now 13 rfl) (by decide) ?_
        refine zx_callVI1 (zd me_X11_now 14 rfl) (mc_X3_allThatAre (zl C) (zi11_t3 h0) (1 : Int32) M) lk_X11_176 ⟨(Nat.le_of_ble_eq_true rfl), (Nat.le_of_ble_eq_true rfl)⟩ (Nat.le_of_ble_eq_true rfl) (zi3_c (zi11_t3 h0)) rfl (fun r9 M8 => ?_)
        exact zx_iret (zd me_X11_now 15 rfl) rfl
      · refine zx_ite (fun c10 => ?_) (fun c10 => ?_)
        · refine zx_tin (off := 73) (tgt := 74) (zd me_X11_now 1 rfl) (by rw [c10]; decide) (by rw [c10]; decide) (by rw [c10]; rfl) (by decide) ?_
          refine zx_aload_n (i := 0) (zd me_X11_now 16 rfl) rfl 0 rfl ?_
          refine zx_getR (zd me_X11_now 17 rfl) fl_X11_31 (zi11_c h0) rfl (zi11_r3 h0) ?_
          refine zx_iconst (v := 2) (zd me_X11_now 18 rfl) (by decide) ?_
          refine zx_callVI1 (zd me_X11_now 19 rfl) (mc_X3_allThatAre (zl C) (zi11_t3 h0) (2 : Int32) M) lk_X11_176 ⟨(Nat.le_of_ble_eq_true rfl), (Nat.le_of_ble_eq_true rfl)⟩ (Nat.le_of_ble_eq_true rfl) (zi3_c (zi11_t3 h0)) rfl (fun r12 M11 => ?_)
          exact zx_iret (zd me_X11_now 20 rfl) rfl
        · refine zx_ite (fun c13 => ?_) (fun c13 => ?_)
          · refine zx_tin (off := 82) (tgt := 83) (zd me_X11_now 1 rfl) (by rw [c13]; decide) (by rw [c13]; decide) (by rw [c13]; rfl) (by decide) ?_
            refine zx_aload_n (i := 0) (zd me_X11_now 21 rfl) rfl 0 rfl ?_
            refine zx_getR (zd me_X11_now 22 rfl) fl_X11_31 (zi11_c h0) rfl (zi11_r3 h0) ?_
            refine zx_iconst (v := 3) (zd me_X11_now 23 rfl) (by decide) ?_
            refine zx_callVI1 (zd me_X11_now 24 rfl) (mc_X3_allThatAre (zl C) (zi11_t3 h0) (3 : Int32) M) lk_X11_176 ⟨(Nat.le_of_ble_eq_true rfl), (Nat.le_of_ble_eq_true rfl)⟩ (Nat.le_of_ble_eq_true rfl) (zi3_c (zi11_t3 h0)) rfl (fun r15 M14 => ?_)
            exact zx_iret (zd me_X11_now 25 rfl) rfl
          · refine zx_ite (fun c16 => ?_) (fun c16 => ?_)
            · refine zx_tin (off := 91) (tgt := 92) (zd me_X11_now 1 rfl) (by rw [c16]; decide) (by rw [c16]; decide) (by rw [c16]; rfl) (by decide) ?_
              refine zx_aload_n (i := 0) (zd me_X11_now 26 rfl) rfl 0 rfl ?_
              refine zx_getR (zd me_X11_now 27 rfl) fl_X11_31 (zi11_c h0) rfl (zi11_r3 h0) ?_
              refine zx_callVI0 (zd me_X11_now 28 rfl) (mc_X3_allHeld (zl C) (zi11_t3 h0) M) lk_X11_179 ⟨(Nat.le_of_ble_eq_true rfl), (Nat.le_of_ble_eq_true rfl)⟩ (Nat.le_of_ble_eq_true rfl) (zi3_c (zi11_t3 h0)) rfl (fun r18 M17 => ?_)
              exact zx_iret (zd me_X11_now 29 rfl) rfl
            · refine zx_ite (fun c19 => ?_) (fun c19 => ?_)
              · refine zx_tin (off := 99) (tgt := 100) (zd me_X11_now 1 rfl) (by rw [c19]; decide) (by rw [c19]; decide) (by rw [c19]; rfl) (by decide) ?_
                refine zx_aload_n (i := 0) (zd me_X11_now 30 rfl) rfl 0 rfl ?_
                refine zx_getR (zd me_X11_now 31 rfl) fl_X11_31 (zi11_c h0) rfl (zi11_r3 h0) ?_
                refine zx_callVI0 (zd me_X11_now 32 rfl) (mc_X3_openBaths (zl C) (zi11_t3 h0) M) lk_X11_182 ⟨(Nat.le_of_ble_eq_true rfl), (Nat.le_of_ble_eq_true rfl)⟩ (Nat.le_of_ble_eq_true rfl) (zi3_c (zi11_t3 h0)) rfl (fun r21 M20 => ?_)
                exact zx_iret (zd me_X11_now 33 rfl) rfl
              · refine zx_ite (fun c22 => ?_) (fun c22 => ?_)
                · refine zx_tin (off := 107) (tgt := 108) (zd me_X11_now 1 rfl) (by rw [c22]; decide) (by rw [c22]; decide) (by rw [c22]; rfl) (by decide) ?_
                  refine zx_aload_n (i := 0) (zd me_X11_now 34 rfl) rfl 0 rfl ?_
                  refine zx_getR (zd me_X11_now 35 rfl) fl_X11_31 (zi11_c h0) rfl (zi11_r3 h0) ?_
                  refine zx_callVI0 (zd me_X11_now 36 rfl) (mc_X3_freshLeft (zl C) (zi11_t3 h0) M) lk_X11_185 ⟨(Nat.le_of_ble_eq_true rfl), (Nat.le_of_ble_eq_true rfl)⟩ (Nat.le_of_ble_eq_true rfl) (zi3_c (zi11_t3 h0)) rfl (fun r24 M23 => ?_)
                  exact zx_iret (zd me_X11_now 37 rfl) rfl
                · refine zx_tout (tgt := 116) (zd me_X11_now 1 rfl) (by have e0 := lv_neT c1 (a := 0) (by decide); have e1 := lv_neT c4 (a := 1) (by decide); have e2 := lv_neT c7 (a := 2) (by decide); have e3 := lv_neT c10 (a := 3) (by decide); have e4 := lv_neT c13 (a := 4) (by decide); have e5 := lv_neT c16 (a := 5) (by decide); have e6 := lv_neT c19 (a := 6) (by decide); have e7 := lv_neT c22 (a := 7) (by decide); omega) (by decide) ?_
                  refine zx_iconst (v := (-1)) (zd me_X11_now 38 rfl) (by decide) ?_
                  exact zx_iret (zd me_X11_now 39 rfl) rfl
def mf_X11_keptIfDone (R : zRR) (a0 : Nat) (i1 : Int32) (M : zMem) : Option (Int32 × zMem) :=
  if i1 = 0 then
    (zcl (mf_X5_keepMarked R (zrf R a0 8) M) fun _ M2 =>
    some (i1, M2))
  else
    (some (i1, M))
theorem mc_X11_keptIfDone (l : Launch) {T : zTT} {R : zRR} {a0 : Nat} (h0 : zi11 T R a0) (i1 : Int32) (M : zMem) : zMS l yX11_keptIfDone mi_X11_keptIfDone zrvI (mf_X11_keptIfDone R a0 i1 M) [.ref a0, .int i1] T R M := by
  refine zMS.of (by decide +kernel) rfl ⟨rfl, rfl⟩ (Nat.le_of_ble_eq_true rfl) (fun C ad _ => ?_)
  show zX C mi_X11_keptIfDone (zFin C zrvI ad T R) 0 0 (mf_X11_keptIfDone R a0 i1 M) 0 [(0, .ref a0), (1, .int i1)] [] ad T R M
  unfold mf_X11_keptIfDone
  refine zx_iload_n (i := 1) (zd me_X11_keptIfDone 0 rfl) rfl 1 rfl ?_
  refine zx_if_ne (tgt := 11) (zd me_X11_keptIfDone 1 rfl) (by decide) (fun c1 => ?_) (fun c1 => ?_)
  · refine zx_iload_n (i := 1) (zd me_X11_keptIfDone 5 rfl) rfl 1 rfl ?_
    exact zx_iret (zd me_X11_keptIfDone 6 rfl) rfl
  · refine zx_aload_n (i := 0) (zd me_X11_keptIfDone 2 rfl) rfl 0 rfl ?_
    refine zx_getR (zd me_X11_keptIfDone 3 rfl) fl_X11_58 (zi11_c h0) rfl (zi11_r8 h0) ?_
    refine zx_callVV0 (zd me_X11_keptIfDone 4 rfl) (mc_X5_keepMarked (zl C) (zi11_t8 h0) M) lk_X11_207 ⟨(Nat.le_of_ble_eq_true rfl), (Nat.le_of_ble_eq_true rfl)⟩ (Nat.le_of_ble_eq_true rfl) (zi5_c (zi11_t8 h0)) rfl (fun r3 M2 => ?_)
    refine zx_iload_n (i := 1) (zd me_X11_keptIfDone 5 rfl) rfl 1 rfl ?_
    exact zx_iret (zd me_X11_keptIfDone 6 rfl) rfl
def mf_X11_start (R : zRR) (a0 : Nat) (i1 : Int32) (M : zMem) : Option (Int32 × zMem) :=
  zcl (mf_X5_mark R (zrf R a0 8) (zrf R a0 3) M) fun _ M1 =>
  zcl (mf_X3_startSheet R (zrf R a0 3) i1 M1) fun r4 M3 =>
  zcl (mf_X11_keptIfDone R a0 r4 M3) fun r6 M5 =>
  some (r6, M5)
theorem mc_X11_start (l : Launch) {T : zTT} {R : zRR} {a0 : Nat} (h0 : zi11 T R a0) (i1 : Int32) (M : zMem) : zMS l yX11_start mi_X11_start zrvI (mf_X11_start R a0 i1 M) [.ref a0, .int i1] T R M := by
  refine zMS.of (by decide +kernel) rfl ⟨rfl, rfl⟩ (Nat.le_of_ble_eq_true rfl) (fun C ad _ => ?_)
  show zX C mi_X11_start (zFin C zrvI ad T R) 0 0 (mf_X11_start R a0 i1 M) 0 [(0, .ref a0), (1, .int i1)] [] ad T R M
  unfold mf_X11_start
  refine zx_aload_n (i := 0) (zd me_X11_start 0 rfl) rfl 0 rfl ?_
  refine zx_getR (zd me_X11_start 1 rfl) fl_X11_58 (zi11_c h0) rfl (zi11_r8 h0) ?_
  refine zx_aload_n (i := 0) (zd me_X11_start 2 rfl) rfl 0 rfl ?_
  refine zx_getR (zd me_X11_start 3 rfl) fl_X11_31 (zi11_c h0) rfl (zi11_r3 h0) ?_
  refine zx_callVV1 (zd me_X11_start 4 rfl) (mc_X5_mark (zl C) (zi11_t8 h0) (zi11_t3 h0) M) lk_X11_188 ⟨(Nat.le_of_ble_eq_true rfl), (Nat.le_of_ble_eq_true rfl)⟩ (Nat.le_of_ble_eq_true rfl) (zi5_c (zi11_t8 h0)) rfl (fun r2 M1 => ?_)
  refine zx_aload_n (i := 0) (zd me_X11_start 5 rfl) rfl 0 rfl ?_
  refine zx_aload_n (i := 0) (zd me_X11_start 6 rfl) rfl 0 rfl ?_
  refine zx_getR (zd me_X11_start 7 rfl) fl_X11_31 (zi11_c h0) rfl (zi11_r3 h0) ?_
  refine zx_iload_n (i := 1) (zd me_X11_start 8 rfl) rfl 1 rfl ?_
  refine zx_callVI1 (zd me_X11_start 9 rfl) (mc_X3_startSheet (zl C) (zi11_t3 h0) i1 M1) lk_X11_192 ⟨(Nat.le_of_ble_eq_true rfl), (Nat.le_of_ble_eq_true rfl)⟩ (Nat.le_of_ble_eq_true rfl) (zi3_c (zi11_t3 h0)) rfl (fun r4 M3 => ?_)
  refine zx_callVI1 (zd me_X11_start 10 rfl) (mc_X11_keptIfDone (zl C) h0 r4 M3) lk_X11_195 ⟨(Nat.le_of_ble_eq_true rfl), (Nat.le_of_ble_eq_true rfl)⟩ (Nat.le_of_ble_eq_true rfl) (zi11_c h0) rfl (fun r6 M5 => ?_)
  exact zx_iret (zd me_X11_start 11 rfl) rfl
def mf_X11_take (R : zRR) (a0 : Nat) (i1 : Int32) (M : zMem) : Option (Int32 × zMem) :=
  zcl (mf_X5_mark R (zrf R a0 8) (zrf R a0 3) M) fun _ M1 =>
  zcl (mf_X3_takeSheet R (zrf R a0 3) i1 M1) fun r4 M3 =>
  zcl (mf_X11_keptIfDone R a0 r4 M3) fun r6 M5 =>
  some (r6, M5)
theorem mc_X11_take (l : Launch) {T : zTT} {R : zRR} {a0 : Nat} (h0 : zi11 T R a0) (i1 : Int32) (M : zMem) : zMS l yX11_take mi_X11_take zrvI (mf_X11_take R a0 i1 M) [.ref a0, .int i1] T R M := by
  refine zMS.of (by decide +kernel) rfl ⟨rfl, rfl⟩ (Nat.le_of_ble_eq_true rfl) (fun C ad _ => ?_)
  show zX C mi_X11_take (zFin C zrvI ad T R) 0 0 (mf_X11_take R a0 i1 M) 0 [(0, .ref a0), (1, .int i1)] [] ad T R M
  unfold mf_X11_take
  refine zx_aload_n (i := 0) (zd me_X11_take 0 rfl) rfl 0 rfl ?_
  refine zx_getR (zd me_X11_take 1 rfl) fl_X11_58 (zi11_c h0) rfl (zi11_r8 h0) ?_
  refine zx_aload_n (i := 0) (zd me_X11_take 2 rfl) rfl 0 rfl ?_
  refine zx_getR (zd me_X11_take 3 rfl) fl_X11_31 (zi11_c h0) rfl (zi11_r3 h0) ?_
  refine zx_callVV1 (zd me_X11_take 4 rfl) (mc_X5_mark (zl C) (zi11_t8 h0) (zi11_t3 h0) M) lk_X11_188 ⟨(Nat.le_of_ble_eq_true rfl), (Nat.le_of_ble_eq_true rfl)⟩ (Nat.le_of_ble_eq_true rfl) (zi5_c (zi11_t8 h0)) rfl (fun r2 M1 => ?_)
  refine zx_aload_n (i := 0) (zd me_X11_take 5 rfl) rfl 0 rfl ?_
  refine zx_aload_n (i := 0) (zd me_X11_take 6 rfl) rfl 0 rfl ?_
  refine zx_getR (zd me_X11_take 7 rfl) fl_X11_31 (zi11_c h0) rfl (zi11_r3 h0) ?_
  refine zx_iload_n (i := 1) (zd me_X11_take 8 rfl) rfl 1 rfl ?_
  refine zx_callVI1 (zd me_X11_take 9 rfl) (mc_X3_takeSheet (zl C) (zi11_t3 h0) i1 M1) lk_X11_198 ⟨(Nat.le_of_ble_eq_true rfl), (Nat.le_of_ble_eq_true rfl)⟩ (Nat.le_of_ble_eq_true rfl) (zi3_c (zi11_t3 h0)) rfl (fun r4 M3 => ?_)
  refine zx_callVI1 (zd me_X11_take 10 rfl) (mc_X11_keptIfDone (zl C) h0 r4 M3) lk_X11_195 ⟨(Nat.le_of_ble_eq_true rfl), (Nat.le_of_ble_eq_true rfl)⟩ (Nat.le_of_ble_eq_true rfl) (zi11_c h0) rfl (fun r6 M5 => ?_)
  exact zx_iret (zd me_X11_take 11 rfl) rfl
def mf_X11_again (R : zRR) (a0 : Nat) (i1 : Int32) (M : zMem) : Option (Int32 × zMem) :=
  zcl (mf_X5_mark R (zrf R a0 8) (zrf R a0 3) M) fun _ M1 =>
  zcl (mf_X3_againSheet R (zrf R a0 3) i1 M1) fun r4 M3 =>
  zcl (mf_X11_keptIfDone R a0 r4 M3) fun r6 M5 =>
  some (r6, M5)
theorem mc_X11_again (l : Launch) {T : zTT} {R : zRR} {a0 : Nat} (h0 : zi11 T R a0) (i1 : Int32) (M : zMem) : zMS l yX11_again mi_X11_again zrvI (mf_X11_again R a0 i1 M) [.ref a0, .int i1] T R M := by
  refine zMS.of (by decide +kernel) rfl ⟨rfl, rfl⟩ (Nat.le_of_ble_eq_true rfl) (fun C ad _ => ?_)
  show zX C mi_X11_again (zFin C zrvI ad T R) 0 0 (mf_X11_again R a0 i1 M) 0 [(0, .ref a0), (1, .int i1)] [] ad T R M
  unfold mf_X11_again
  refine zx_aload_n (i := 0) (zd me_X11_again 0 rfl) rfl 0 rfl ?_
  refine zx_getR (zd me_X11_again 1 rfl) fl_X11_58 (zi11_c h0) rfl (zi11_r8 h0) ?_
  refine zx_aload_n (i := 0) (zd me_X11_again 2 rfl) rfl 0 rfl ?_
  refine zx_getR (zd me_X11_again 3 rfl) fl_X11_31 (zi11_c h0) rfl (zi11_r3 h0) ?_
  refine zx_callVV1 (zd me_X11_again 4 rfl) (mc_X5_mark (zl C) (zi11_t8 h0) (zi11_t3 h0) M) lk_X11_188 ⟨(Nat.le_of_ble_eq_true rfl), (Nat.le_of_ble_eq_true rfl)⟩ (Nat.le_of_ble_eq_true rfl) (zi5_c (zi11_t8 h0)) rfl (fun r2 M1 => ?_)
  refine zx_aload_n (i := 0) (zd me_X11_again 5 rfl) rfl 0 rfl ?_
  refine zx_aload_n (i := 0) (zd me_X11_again 6 rfl) rfl 0 rfl ?_
  refine zx_getR (zd me_X11_again 7 rfl) fl_X11_31 (zi11_c h0) rfl (zi11_r3 h0) ?_
  refine zx_iload_n (i := 1) (zd me_X11_again 8 rfl) rfl 1 rfl ?_
  refine zx_callVI1 (zd me_X11_again 9 rfl) (mc_X3_againSheet (zl C) (zi11_t3 h0) i1 M1) lk_X11_201 ⟨(Nat.le_of_ble_eq_true rfl), (Nat.le_of_ble_eq_true rfl)⟩ (Nat.le_of_ble_eq_true rfl) (zi3_c (zi11_t3 h0)) rfl (fun r4 M3 => ?_)
  refine zx_callVI1 (zd me_X11_again 10 rfl) (mc_X11_keptIfDone (zl C) h0 r4 M3) lk_X11_195 ⟨(Nat.le_of_ble_eq_true rfl), (Nat.le_of_ble_eq_true rfl)⟩ (Nat.le_of_ble_eq_true rfl) (zi11_c h0) rfl (fun r6 M5 => ?_)
  exact zx_iret (zd me_X11_again 11 rfl) rfl
def mf_X11_renew (R : zRR) (a0 : Nat) (i1 : Int32) (M : zMem) : Option (Int32 × zMem) :=
  zcl (mf_X5_mark R (zrf R a0 8) (zrf R a0 3) M) fun _ M1 =>
  zcl (mf_X3_renewBath R (zrf R a0 3) i1 M1) fun r4 M3 =>
  zcl (mf_X11_keptIfDone R a0 r4 M3) fun r6 M5 =>
  some (r6, M5)
theorem mc_X11_renew (l : Launch) {T : zTT} {R : zRR} {a0 : Nat} (h0 : zi11 T R a0) (i1 : Int32) (M : zMem) : zMS l yX11_renew mi_X11_renew zrvI (mf_X11_renew R a0 i1 M) [.ref a0, .int i1] T R M := by
  refine zMS.of (by decide +kernel) rfl ⟨rfl, rfl⟩ (Nat.le_of_ble_eq_true rfl) (fun C ad _ => ?_)
  show zX C mi_X11_renew (zFin C zrvI ad T R) 0 0 (mf_X11_renew R a0 i1 M) 0 [(0, .ref a0), (1, .int i1)] [] ad T R M
  unfold mf_X11_renew
  refine zx_aload_n (i := 0) (zd me_X11_renew 0 rfl) rfl 0 rfl ?_
  refine zx_getR (zd me_X11_renew 1 rfl) fl_X11_58 (zi11_c h0) rfl (zi11_r8 h0) ?_
  refine zx_aload_n (i := 0) (zd me_X11_renew 2 rfl) rfl 0 rfl ?_
  refine zx_getR (zd me_X11_renew 3 rfl) fl_X11_31 (zi11_c h0) rfl (zi11_r3 h0) ?_
  refine zx_callVV1 (zd me_X11_renew 4 rfl) (mc_X5_mark (zl C) (zi11_t8 h0) (zi11_t3 h0) M) lk_X11_188 ⟨(Nat.le_of_ble_eq_true rfl), (Nat.le_of_ble_eq_true rfl)⟩ (Nat.le_of_ble_eq_true rfl) (zi5_c (zi11_t8 h0)) rfl (fun r2 M1 => ?_)
  refine zx_aload_n (i := 0) (zd me_X11_renew 5 rfl) rfl 0 rfl ?_
  refine zx_aload_n (i := 0) (zd me_X11_renew 6 rfl) rfl 0 rfl ?_
  refine zx_getR (zd me_X11_renew 7 rfl) fl_X11_31 (zi11_c h0) rfl (zi11_r3 h0) ?_
  refine zx_iload_n (i := 1) (zd me_X11_renew 8 rfl) rfl 1 rfl ?_
  refine zx_callVI1 (zd me_X11_renew 9 rfl) (mc_X3_renewBath (zl C) (zi11_t3 h0) i1 M1) lk_X11_204 ⟨(Nat.le_of_ble_eq_true rfl), (Nat.le_of_ble_eq_true rfl)⟩ (Nat.le_of_ble_eq_true rfl) (zi3_c (zi11_t3 h0)) rfl (fun r4 M3 => ?_)
  refine zx_callVI1 (zd me_X11_renew 10 rfl) (mc_X11_keptIfDone (zl C) h0 r4 M3) lk_X11_195 ⟨(Nat.le_of_ble_eq_true rfl), (Nat.le_of_ble_eq_true rfl)⟩ (Nat.le_of_ble_eq_true rfl) (zi11_c h0) rfl (fun r6 M5 => ?_)
  exact zx_iret (zd me_X11_renew 11 rfl) rfl
def mf_X11_keptIfAny (R : zRR) (a0 : Nat) (i1 : Int32) (M : zMem) : Option (Int32 × zMem) :=
  if i1 ≤ 0 then
    (some (i1, M))
  else
    (zcl (mf_X5_keepMarked R (zrf R a0 8) M) fun _ M2 =>
    some (i1, M2))
theorem mc_X11_keptIfAny (l : Launch) {T : zTT} {R : zRR} {a0 : Nat} (h0 : zi11 T R a0) (i1 : Int32) (M : zMem) : zMS l yX11_keptIfAny mi_X11_keptIfAny zrvI (mf_X11_keptIfAny R a0 i1 M) [.ref a0, .int i1] T R M := by
  refine zMS.of (by decide +kernel) rfl ⟨rfl, rfl⟩ (Nat.le_of_ble_eq_true rfl) (fun C ad _ => ?_)
  show zX C mi_X11_keptIfAny (zFin C zrvI ad T R) 0 0 (mf_X11_keptIfAny R a0 i1 M) 0 [(0, .ref a0), (1, .int i1)] [] ad T R M
  unfold mf_X11_keptIfAny
  refine zx_iload_n (i := 1) (zd me_X11_keptIfAny 0 rfl) rfl 1 rfl ?_
  refine zx_if_le (tgt := 11) (zd me_X11_keptIfAny 1 rfl) (by decide) (fun c1 => ?_) (fun c1 => ?_)
  · refine zx_iload_n (i := 1) (zd me_X11_keptIfAny 5 rfl) rfl 1 rfl ?_
    exact zx_iret (zd me_X11_keptIfAny 6 rfl) rfl
  · refine zx_aload_n (i := 0) (zd me_X11_keptIfAny 2 rfl) rfl 0 rfl ?_
    refine zx_getR (zd me_X11_keptIfAny 3 rfl) fl_X11_58 (zi11_c h0) rfl (zi11_r8 h0) ?_
    refine zx_callVV0 (zd me_X11_keptIfAny 4 rfl) (mc_X5_keepMarked (zl C) (zi11_t8 h0) M) lk_X11_207 ⟨(Nat.le_of_ble_eq_true rfl), (Nat.le_of_ble_eq_true rfl)⟩ (Nat.le_of_ble_eq_true rfl) (zi5_c (zi11_t8 h0)) rfl (fun r3 M2 => ?_)
    refine zx_iload_n (i := 1) (zd me_X11_keptIfAny 5 rfl) rfl 1 rfl ?_
    exact zx_iret (zd me_X11_keptIfAny 6 rfl) rfl
def mf_X11_minutes (R : zRR) (a0 : Nat) (i1 : Int32) (M : zMem) : Option (Int32 × zMem) :=
  if i1 < (1 : Int32) then
    (some ((-1 : Int32), M))
  else
    (if i1 ≤ (60 : Int32) then
      (zcl (mf_X5_mark R (zrf R a0 8) (zrf R a0 3) M) fun _ M3 =>
      zcl (mf_X3_minute R (zrf R a0 3) M3) fun r6 M5 =>
      zlet ((if ((1000 : Int32) - r6) < i1 then ((1000 : Int32) - r6) else i1) : Int32) fun x7 =>
      zcl (mf_X3_pass R (zrf R a0 3) x7 M5) fun _ M8 =>
      zcl (mf_X11_keptIfAny R a0 x7 M8) fun r11 M10 =>
      some (r11, M10))
    else
      (some ((-1 : Int32), M)))
theorem mc_X11_minutes (l : Launch) {T : zTT} {R : zRR} {a0 : Nat} (h0 : zi11 T R a0) (i1 : Int32) (M : zMem) : zMS l yX11_minutes mi_X11_minutes zrvI (mf_X11_minutes R a0 i1 M) [.ref a0, .int i1] T R M := by
  refine zMS.of (by decide +kernel) rfl ⟨rfl, rfl⟩ (Nat.le_of_ble_eq_true rfl) (fun C ad _ => ?_)
  show zX C mi_X11_minutes (zFin C zrvI ad T R) 0 0 (mf_X11_minutes R a0 i1 M) 0 [(0, .ref a0), (1, .int i1)] [] ad T R M
  unfold mf_X11_minutes
  refine zx_iload_n (i := 1) (zd me_X11_minutes 0 rfl) rfl 1 rfl ?_
  refine zx_iconst (v := 1) (zd me_X11_minutes 1 rfl) (by decide) ?_
  refine zx_icmp_lt (tgt := 11) (zd me_X11_minutes 2 rfl) (by decide) (fun c1 => ?_) (fun c1 => ?_)
  · refine zx_iconst (v := (-1)) (zd me_X11_minutes 6 rfl) (by decide) ?_
    exact zx_iret (zd me_X11_minutes 7 rfl) rfl
  · refine zx_iload_n (i := 1) (zd me_X11_minutes 3 rfl) rfl 1 rfl ?_
    refine zx_bipush (v := 60) (zd me_X11_minutes 4 rfl) (by decide) ?_
    refine zx_icmp_le (tgt := 13) (zd me_X11_minutes 5 rfl) (by decide) (fun c2 => ?_) (fun c2 => ?_)
    · refine zx_aload_n (i := 0) (zd me_X11_minutes 8 rfl) rfl 0 rfl ?_
      refine zx_getR (zd me_X11_minutes 9 rfl) fl_X11_58 (zi11_c h0) rfl (zi11_r8 h0) ?_
      refine zx_aload_n (i := 0) (zd me_X11_minutes 10 rfl) rfl 0 rfl ?_
      refine zx_getR (zd me_X11_minutes 11 rfl) fl_X11_31 (zi11_c h0) rfl (zi11_r3 h0) ?_
      refine zx_callVV1 (zd me_X11_minutes 12 rfl) (mc_X5_mark (zl C) (zi11_t8 h0) (zi11_t3 h0) M) lk_X11_188 ⟨(Nat.le_of_ble_eq_true rfl), (Nat.le_of_ble_eq_true rfl)⟩ (Nat.le_of_ble_eq_true rfl) (zi5_c (zi11_t8 h0)) rfl (fun r4 M3 => ?_)
      refine zx_iload_n (i := 1) (zd me_X11_minutes 13 rfl) rfl 1 rfl ?_
      refine zx_sipush (v := 1000) (zd me_X11_minutes 14 rfl) (by decide) ?_
      refine zx_aload_n (i := 0) (zd me_X11_minutes 15 rfl) rfl 0 rfl ?_
      refine zx_getR (zd me_X11_minutes 16 rfl) fl_X11_31 (zi11_c h0) rfl (zi11_r3 h0) ?_
      refine zx_callVI0 (zd me_X11_minutes 17 rfl) (mc_X3_minute (zl C) (zi11_t3 h0) M3) lk_X11_172 ⟨(Nat.le_of_ble_eq_true rfl), (Nat.le_of_ble_eq_true rfl)⟩ (Nat.le_of_ble_eq_true rfl) (zi3_c (zi11_t3 h0)) rfl (fun r6 M5 => ?_)
      refine zx_isub (zd me_X11_minutes 18 rfl) ?_
      refine zx_mmin (zd me_X11_minutes 19 rfl) lk_X11_210 ⟨(Nat.le_of_ble_eq_true rfl), (Nat.le_of_ble_eq_true rfl)⟩ ?_
      refine zx_leti (fun x7 => ?_)
      refine zx_istore_n (i := 2) (ls' := [(2, .int x7), (0, .ref a0), (1, .int i1)]) (zd me_X11_minutes 20 rfl) rfl (Nat.le_of_ble_eq_true rfl) rfl ?_
      refine zx_aload_n (i := 0) (zd me_X11_minutes 21 rfl) rfl 1 rfl ?_
      refine zx_getR (zd me_X11_minutes 22 rfl) fl_X11_31 (zi11_c h0) rfl (zi11_r3 h0) ?_
      refine zx_iload_n (i := 2) (zd me_X11_minutes 23 rfl) rfl 0 rfl ?_
      refine zx_callVV1 (zd me_X11_minutes 24 rfl) (mc_X3_pass (zl C) (zi11_t3 h0) x7 M5) lk_X11_215 ⟨(Nat.le_of_ble_eq_true rfl), (Nat.le_of_ble_eq_true rfl)⟩ (Nat.le_of_ble_eq_true rfl) (zi3_c (zi11_t3 h0)) rfl (fun r9 M8 => ?_)
      refine zx_aload_n (i := 0) (zd me_X11_minutes 25 rfl) rfl 1 rfl ?_
      refine zx_iload_n (i := 2) (zd me_X11_minutes 26 rfl) rfl 0 rfl ?_
      refine zx_callVI1 (zd me_X11_minutes 27 rfl) (mc_X11_keptIfAny (zl C) h0 x7 M8) lk_X11_218 ⟨(Nat.le_of_ble_eq_true rfl), (Nat.le_of_ble_eq_true rfl)⟩ (Nat.le_of_ble_eq_true rfl) (zi11_c h0) rfl (fun r11 M10 => ?_)
      exact zx_iret (zd me_X11_minutes 28 rfl) rfl
    · refine zx_iconst (v := (-1)) (zd me_X11_minutes 6 rfl) (by decide) ?_
      exact zx_iret (zd me_X11_minutes 7 rfl) rfl
def mf_X11_undo (R : zRR) (a0 : Nat) (M : zMem) : Option (Int32 × zMem) :=
  zcl (mf_X5_takeBack R (zrf R a0 8) (zrf R a0 3) M) fun r2 M1 =>
  some (r2, M1)
theorem mc_X11_undo (l : Launch) {T : zTT} {R : zRR} {a0 : Nat} (h0 : zi11 T R a0) (M : zMem) : zMS l yX11_undo mi_X11_undo zrvI (mf_X11_undo R a0 M) [.ref a0] T R M := by
  refine zMS.of (by decide +kernel) rfl ⟨rfl, rfl⟩ (Nat.le_of_ble_eq_true rfl) (fun C ad _ => ?_)
  show zX C mi_X11_undo (zFin C zrvI ad T R) 0 0 (mf_X11_undo R a0 M) 0 [(0, .ref a0)] [] ad T R M
  unfold mf_X11_undo
  refine zx_aload_n (i := 0) (zd me_X11_undo 0 rfl) rfl 0 rfl ?_
  refine zx_getR (zd me_X11_undo 1 rfl) fl_X11_58 (zi11_c h0) rfl (zi11_r8 h0) ?_
  refine zx_aload_n (i := 0) (zd me_X11_undo 2 rfl) rfl 0 rfl ?_
  refine zx_getR (zd me_X11_undo 3 rfl) fl_X11_31 (zi11_c h0) rfl (zi11_r3 h0) ?_
  refine zx_callVI1 (zd me_X11_undo 4 rfl) (mc_X5_takeBack (zl C) (zi11_t8 h0) (zi11_t3 h0) M) lk_X11_221 ⟨(Nat.le_of_ble_eq_true rfl), (Nat.le_of_ble_eq_true rfl)⟩ (Nat.le_of_ble_eq_true rfl) (zi5_c (zi11_t8 h0)) rfl (fun r2 M1 => ?_)
  exact zx_iret (zd me_X11_undo 5 rfl) rfl
def mf_X11_when (R : zRR) (a0 : Nat) (i1 : Int32) (M : zMem) : Option (Int32 × zMem) :=
  zcl (mf_X6_whenDone R (zrf R a0 9) i1 M) fun r2 M1 =>
  some (r2, M1)
theorem mc_X11_when (l : Launch) {T : zTT} {R : zRR} {a0 : Nat} (h0 : zi11 T R a0) (i1 : Int32) (M : zMem) : zMS l yX11_when mi_X11_when zrvI (mf_X11_when R a0 i1 M) [.ref a0, .int i1] T R M := by
  refine zMS.of (by decide +kernel) rfl ⟨rfl, rfl⟩ (Nat.le_of_ble_eq_true rfl) (fun C ad _ => ?_)
  show zX C mi_X11_when (zFin C zrvI ad T R) 0 0 (mf_X11_when R a0 i1 M) 0 [(0, .ref a0), (1, .int i1)] [] ad T R M
  unfold mf_X11_when
  refine zx_aload_n (i := 0) (zd me_X11_when 0 rfl) rfl 0 rfl ?_
  refine zx_getR (zd me_X11_when 1 rfl) fl_X11_67 (zi11_c h0) rfl (zi11_r9 h0) ?_
  refine zx_iload_n (i := 1) (zd me_X11_when 2 rfl) rfl 1 rfl ?_
  refine zx_callVI1 (zd me_X11_when 3 rfl) (mc_X6_whenDone (zl C) (zi11_t9 h0) i1 M) lk_X11_225 ⟨(Nat.le_of_ble_eq_true rfl), (Nat.le_of_ble_eq_true rfl)⟩ (Nat.le_of_ble_eq_true rfl) (zi6_c (zi11_t9 h0)) rfl (fun r2 M1 => ?_)
  exact zx_iret (zd me_X11_when 4 rfl) rfl
def mf_X11_clear (R : zRR) (a0 : Nat) (i1 : Int32) (M : zMem) : Option (Int32 × zMem) :=
  zcl (mf_X3_howIs R (zrf R a0 3) i1 M) fun r2 M1 =>
  if r2 = 0 then
    (zcl (mf_X6_soonest R (zrf R a0 9) (zrf R a0 3) i1 M1) fun r5 M4 =>
    some (r5, M4))
  else
    (some ((-1 : Int32), M1))
theorem mc_X11_clear (l : Launch) {T : zTT} {R : zRR} {a0 : Nat} (h0 : zi11 T R a0) (i1 : Int32) (M : zMem) : zMS l yX11_clear mi_X11_clear zrvI (mf_X11_clear R a0 i1 M) [.ref a0, .int i1] T R M := by
  refine zMS.of (by decide +kernel) rfl ⟨rfl, rfl⟩ (Nat.le_of_ble_eq_true rfl) (fun C ad _ => ?_)
  show zX C mi_X11_clear (zFin C zrvI ad T R) 0 0 (mf_X11_clear R a0 i1 M) 0 [(0, .ref a0), (1, .int i1)] [] ad T R M
  unfold mf_X11_clear
  refine zx_aload_n (i := 0) (zd me_X11_clear 0 rfl) rfl 0 rfl ?_
  refine zx_getR (zd me_X11_clear 1 rfl) fl_X11_31 (zi11_c h0) rfl (zi11_r3 h0) ?_
  refine zx_iload_n (i := 1) (zd me_X11_clear 2 rfl) rfl 1 rfl ?_
  refine zx_callVI1 (zd me_X11_clear 3 rfl) (mc_X3_howIs (zl C) (zi11_t3 h0) i1 M) lk_X11_228 ⟨(Nat.le_of_ble_eq_true rfl), (Nat.le_of_ble_eq_true rfl)⟩ (Nat.le_of_ble_eq_true rfl) (zi3_c (zi11_t3 h0)) rfl (fun r2 M1 => ?_)
  refine zx_if_ne (tgt := 26) (zd me_X11_clear 4 rfl) (by decide) (fun c3 => ?_) (fun c3 => ?_)
  · refine zx_iconst (v := (-1)) (zd me_X11_clear 12 rfl) (by decide) ?_
    exact zx_iret (zd me_X11_clear 13 rfl) rfl
  · refine zx_aload_n (i := 0) (zd me_X11_clear 5 rfl) rfl 0 rfl ?_
    refine zx_getR (zd me_X11_clear 6 rfl) fl_X11_67 (zi11_c h0) rfl (zi11_r9 h0) ?_
    refine zx_aload_n (i := 0) (zd me_X11_clear 7 rfl) rfl 0 rfl ?_
    refine zx_getR (zd me_X11_clear 8 rfl) fl_X11_31 (zi11_c h0) rfl (zi11_r3 h0) ?_
    refine zx_iload_n (i := 1) (zd me_X11_clear 9 rfl) rfl 1 rfl ?_
    refine zx_callVI2 (zd me_X11_clear 10 rfl) (mc_X6_soonest (zl C) (zi11_t9 h0) (zi11_t3 h0) i1 M1) lk_X11_231 ⟨(Nat.le_of_ble_eq_true rfl), (Nat.le_of_ble_eq_true rfl)⟩ (Nat.le_of_ble_eq_true rfl) (zi6_c (zi11_t9 h0)) rfl (fun r5 M4 => ?_)
    refine zx_goto (tgt := 27) (zd me_X11_clear 11 rfl) (by decide) ?_
    exact zx_iret (zd me_X11_clear 13 rfl) rfl
def mf_X11_order (R : zRR) (a0 : Nat) (M : zMem) : Option (Int32 × zMem) :=
  zcl (mf_X6_readRow R (zrf R a0 9) (zrf R a0 0) M) fun r2 M1 =>
  zlet (zwI M1 (zrf R a0 0) 1 (0 : Int32)) fun M3 =>
  if r2 = 0 then
    (some ((-1 : Int32), M3))
  else
    (zcl (mf_X6_bestOrder R (zrf R a0 9) M3) fun r6 M5 =>
    some (r6, M5))
theorem mc_X11_order (l : Launch) {T : zTT} {R : zRR} {a0 : Nat} (h0 : zi11 T R a0) (M : zMem) : zMS l yX11_order mi_X11_order zrvI (mf_X11_order R a0 M) [.ref a0] T R M := by
  refine zMS.of (by decide +kernel) rfl ⟨rfl, rfl⟩ (Nat.le_of_ble_eq_true rfl) (fun C ad _ => ?_)
  show zX C mi_X11_order (zFin C zrvI ad T R) 0 0 (mf_X11_order R a0 M) 0 [(0, .ref a0)] [] ad T R M
  unfold mf_X11_order
  refine zx_aload_n (i := 0) (zd me_X11_order 0 rfl) rfl 0 rfl ?_
  refine zx_getR (zd me_X11_order 1 rfl) fl_X11_67 (zi11_c h0) rfl (zi11_r9 h0) ?_
  refine zx_aload_n (i := 0) (zd me_X11_order 2 rfl) rfl 0 rfl ?_
  refine zx_getR (zd me_X11_order 3 rfl) fl_X11_10 (zi11_c h0) rfl (zi11_r0 h0) ?_
  refine zx_callVI1 (zd me_X11_order 4 rfl) (mc_X6_readRow (zl C) (zi11_t9 h0) (zi11_t0 h0) M) lk_X11_235 ⟨(Nat.le_of_ble_eq_true rfl), (Nat.le_of_ble_eq_true rfl)⟩ (Nat.le_of_ble_eq_true rfl) (zi6_c (zi11_t9 h0)) rfl (fun r2 M1 => ?_)
  refine zx_istore_n (i := 1) (ls' := [(1, .int r2), (0, .ref a0)]) (zd me_X11_order 5 rfl) rfl (Nat.le_of_ble_eq_true rfl) rfl ?_
  refine zx_aload_n (i := 0) (zd me_X11_order 6 rfl) rfl 1 rfl ?_
  refine zx_getR (zd me_X11_order 7 rfl) fl_X11_10 (zi11_c h0) rfl (zi11_r0 h0) ?_
  refine zx_iconst (v := 0) (zd me_X11_order 8 rfl) (by decide) ?_
  refine zx_putI (zd me_X11_order 9 rfl) fp_X11_99 (zi10_c (zi11_t0 h0)) rfl (fun M3 _ => ?_)
  refine zx_iload_n (i := 1) (zd me_X11_order 10 rfl) rfl 0 rfl ?_
  refine zx_if_eq (tgt := 34) (zd me_X11_order 11 rfl) (by decide) (fun c4 => ?_) (fun c4 => ?_)
  · refine zx_iconst (v := (-1)) (zd me_X11_order 16 rfl) (by decide) ?_
    exact zx_iret (zd me_X11_order 17 rfl) rfl
  · refine zx_aload_n (i := 0) (zd me_X11_order 12 rfl) rfl 1 rfl ?_
    refine zx_getR (zd me_X11_order 13 rfl) fl_X11_67 (zi11_c h0) rfl (zi11_r9 h0) ?_
    refine zx_callVI0 (zd me_X11_order 14 rfl) (mc_X6_bestOrder (zl C) (zi11_t9 h0) M3) lk_X11_239 ⟨(Nat.le_of_ble_eq_true rfl), (Nat.le_of_ble_eq_true rfl)⟩ (Nat.le_of_ble_eq_true rfl) (zi6_c (zi11_t9 h0)) rfl (fun r6 M5 => ?_)
    refine zx_goto (tgt := 35) (zd me_X11_order 15 rfl) (by decide) ?_
    exact zx_iret (zd me_X11_order 17 rfl) rfl
def mf_X11_orderAt (R : zRR) (a0 : Nat) (i1 : Int32) (M : zMem) : Option (Int32 × zMem) :=
  if i1 < 0 then
    (some ((-1 : Int32), M))
  else
    (if (M.1 (zrf R a0 9) 10) ≤ i1 then
      (some ((-1 : Int32), M))
    else
      (zald 3 i1 fun j3 =>
      some ((M.1 (zrf R (zrf R a0 9) 8) j3), M)))
theorem mc_X11_orderAt (l : Launch) {T : zTT} {R : zRR} {a0 : Nat} (h0 : zi11 T R a0) (i1 : Int32) (M : zMem) : zMS l yX11_orderAt mi_X11_orderAt zrvI (mf_X11_orderAt R a0 i1 M) [.ref a0, .int i1] T R M := by
  refine zMS.of (by decide +kernel) rfl ⟨rfl, rfl⟩ (Nat.le_of_ble_eq_true rfl) (fun C ad _ => ?_)
  show zX C mi_X11_orderAt (zFin C zrvI ad T R) 0 0 (mf_X11_orderAt R a0 i1 M) 0 [(0, .ref a0), (1, .int i1)] [] ad T R M
  unfold mf_X11_orderAt
  refine zx_iload_n (i := 1) (zd me_X11_orderAt 0 rfl) rfl 1 rfl ?_
  refine zx_if_lt (tgt := 27) (zd me_X11_orderAt 1 rfl) (by decide) (fun c1 => ?_) (fun c1 => ?_)
  · refine zx_iconst (v := (-1)) (zd me_X11_orderAt 13 rfl) (by decide) ?_
    exact zx_iret (zd me_X11_orderAt 14 rfl) rfl
  · refine zx_iload_n (i := 1) (zd me_X11_orderAt 2 rfl) rfl 1 rfl ?_
    refine zx_aload_n (i := 0) (zd me_X11_orderAt 3 rfl) rfl 0 rfl ?_
    refine zx_getR (zd me_X11_orderAt 4 rfl) fl_X11_67 (zi11_c h0) rfl (zi11_r9 h0) ?_
    refine zx_getI (zd me_X11_orderAt 5 rfl) fl_X11_242 (zi6_c (zi11_t9 h0)) rfl ?_
    refine zx_icmp_ge (tgt := 27) (zd me_X11_orderAt 6 rfl) (by decide) (fun c2 => ?_) (fun c2 => ?_)
    · refine zx_iconst (v := (-1)) (zd me_X11_orderAt 13 rfl) (by decide) ?_
      exact zx_iret (zd me_X11_orderAt 14 rfl) rfl
    · refine zx_aload_n (i := 0) (zd me_X11_orderAt 7 rfl) rfl 0 rfl ?_
      refine zx_getR (zd me_X11_orderAt 8 rfl) fl_X11_67 (zi11_c h0) rfl (zi11_r9 h0) ?_
      refine zx_getR (zd me_X11_orderAt 9 rfl) fl_X11_245 (zi6_c (zi11_t9 h0)) rfl (zi6_r8 (zi11_t9 h0)) ?_
      refine zx_iload_n (i := 1) (zd me_X11_orderAt 10 rfl) rfl 1 rfl ?_
      refine zx_iald (zd me_X11_orderAt 11 rfl) (zi6_t8 (zi11_t9 h0)) (fun j3 hj3 => ?_)
      refine zx_goto (tgt := 28) (zd me_X11_orderAt 12 rfl) (by decide) ?_
      exact zx_iret (zd me_X11_orderAt 14 rfl) rfl
def mf_X11_orderWhen (R : zRR) (a0 : Nat) (i1 : Int32) (M : zMem) : Option (Int32 × zMem) :=
  if i1 < 0 then
    (some ((-1 : Int32), M))
  else
    (if (M.1 (zrf R a0 9) 10) ≤ i1 then
      (some ((-1 : Int32), M))
    else
      (zald 3 i1 fun j3 =>
      some ((M.1 (zrf R (zrf R a0 9) 9) j3), M)))
theorem mc_X11_orderWhen (l : Launch) {T : zTT} {R : zRR} {a0 : Nat} (h0 : zi11 T R a0) (i1 : Int32) (M : zMem) : zMS l yX11_orderWhen mi_X11_orderWhen zrvI (mf_X11_orderWhen R a0 i1 M) [.ref a0, .int i1] T R M := by
  refine zMS.of (by decide +kernel) rfl ⟨rfl, rfl⟩ (Nat.le_of_ble_eq_true rfl) (fun C ad _ => ?_)
  show zX C mi_X11_orderWhen (zFin C zrvI ad T R) 0 0 (mf_X11_orderWhen R a0 i1 M) 0 [(0, .ref a0), (1, .int i1)] [] ad T R M
  unfold mf_X11_orderWhen
  refine zx_iload_n (i := 1) (zd me_X11_orderWhen 0 rfl) rfl 1 rfl ?_
  refine zx_if_lt (tgt := 27) (zd me_X11_orderWhen 1 rfl) (by decide) (fun c1 => ?_) (fun c1 => ?_)
  · refine zx_iconst (v := (-1)) (zd me_X11_orderWhen 13 rfl) (by decide) ?_
    exact zx_iret (zd me_X11_orderWhen 14 rfl) rfl
  · refine zx_iload_n (i := 1) (zd me_X11_orderWhen 2 rfl) rfl 1 rfl ?_
    refine zx_aload_n (i := 0) (zd me_X11_orderWhen 3 rfl) rfl 0 rfl ?_
    refine zx_getR (zd me_X11_orderWhen 4 rfl) fl_X11_67 (zi11_c h0) rfl (zi11_r9 h0) ?_
    refine zx_getI (zd me_X11_orderWhen 5 rfl) fl_X11_242 (zi6_c (zi11_t9 h0)) rfl ?_
    refine zx_icmp_ge (tgt := 27) (zd me_X11_orderWhen 6 rfl) (by decide) (fun c2 => ?_) (fun c2 => ?_)
    · refine zx_iconst (v := (-1)) (zd me_X11_orderWhen 13 rfl) (by decide) ?_
      exact zx_iret (zd me_X11_orderWhen 14 rfl) rfl
    · refine zx_aload_n (i := 0) (zd me_X11_orderWhen 7 rfl) rfl 0 rfl ?_
      refine zx_getR (zd me_X11_orderWhen 8 rfl) fl_X11_67 (zi11_c h0) rfl (zi11_r9 h0) ?_
      refine zx_getR (zd me_X11_orderWhen 9 rfl) fl_X11_248 (zi6_c (zi11_t9 h0)) rfl (zi6_r9 (zi11_t9 h0)) ?_
      refine zx_iload_n (i := 1) (zd me_X11_orderWhen 10 rfl) rfl 1 rfl ?_
      refine zx_iald (zd me_X11_orderWhen 11 rfl) (zi6_t9 (zi11_t9 h0)) (fun j3 hj3 => ?_)
      refine zx_goto (tgt := 28) (zd me_X11_orderWhen 12 rfl) (by decide) ?_
      exact zx_iret (zd me_X11_orderWhen 14 rfl) rfl
def mf_X11_jam (R : zRR) (a0 : Nat) (M : zMem) : Option (Int32 × zMem) :=
  zcl (mf_X3_jammedBath R (zrf R a0 3) M) fun r2 M1 =>
  some (r2, M1)
theorem mc_X11_jam (l : Launch) {T : zTT} {R : zRR} {a0 : Nat} (h0 : zi11 T R a0) (M : zMem) : zMS l yX11_jam mi_X11_jam zrvI (mf_X11_jam R a0 M) [.ref a0] T R M := by
  refine zMS.of (by decide +kernel) rfl ⟨rfl, rfl⟩ (Nat.le_of_ble_eq_true rfl) (fun C ad _ => ?_)
  show zX C mi_X11_jam (zFin C zrvI ad T R) 0 0 (mf_X11_jam R a0 M) 0 [(0, .ref a0)] [] ad T R M
  unfold mf_X11_jam
  refine zx_aload_n (i := 0) (zd me_X11_jam 0 rfl) rfl 0 rfl ?_
  refine zx_getR (zd me_X11_jam 1 rfl) fl_X11_31 (zi11_c h0) rfl (zi11_r3 h0) ?_
  refine zx_callVI0 (zd me_X11_jam 2 rfl) (mc_X3_jammedBath (zl C) (zi11_t3 h0) M) lk_X11_251 ⟨(Nat.le_of_ble_eq_true rfl), (Nat.le_of_ble_eq_true rfl)⟩ (Nat.le_of_ble_eq_true rfl) (zi3_c (zi11_t3 h0)) rfl (fun r2 M1 => ?_)
  exact zx_iret (zd me_X11_jam 3 rfl) rfl
def mf_X11_who (R : zRR) (a0 : Nat) (M : zMem) : Option (Int32 × zMem) :=
  zcl (mf_X4_sheetsByTape R (zrf R a0 10) (zrf R a0 0) M) fun r2 M1 =>
  zlet (zwI M1 (zrf R a0 0) 1 (0 : Int32)) fun M3 =>
  if r2 ≤ 0 then
    (some (r2, M3))
  else
    (zcl (mf_X4_chooseQuestion R (zrf R a0 10) r2 M3) fun _ M5 =>
    some (r2, M5))
theorem mc_X11_who (l : Launch) {T : zTT} {R : zRR} {a0 : Nat} (h0 : zi11 T R a0) (M : zMem) : zMS l yX11_who mi_X11_who zrvI (mf_X11_who R a0 M) [.ref a0] T R M := by
  refine zMS.of (by decide +kernel) rfl ⟨rfl, rfl⟩ (Nat.le_of_ble_eq_true rfl) (fun C ad _ => ?_)
  show zX C mi_X11_who (zFin C zrvI ad T R) 0 0 (mf_X11_who R a0 M) 0 [(0, .ref a0)] [] ad T R M
  unfold mf_X11_who
  refine zx_aload_n (i := 0) (zd me_X11_who 0 rfl) rfl 0 rfl ?_
  refine zx_getR (zd me_X11_who 1 rfl) fl_X11_74 (zi11_c h0) rfl (zi11_r10 h0) ?_
  refine zx_aload_n (i := 0) (zd me_X11_who 2 rfl) rfl 0 rfl ?_
  refine zx_getR (zd me_X11_who 3 rfl) fl_X11_10 (zi11_c h0) rfl (zi11_r0 h0) ?_
  refine zx_callVI1 (zd me_X11_who 4 rfl) (mc_X4_sheetsByTape (zl C) (zi11_t10 h0) (zi11_t0 h0) M) lk_X11_254 ⟨(Nat.le_of_ble_eq_true rfl), (Nat.le_of_ble_eq_true rfl)⟩ (Nat.le_of_ble_eq_true rfl) (zi4_c (zi11_t10 h0)) rfl (fun r2 M1 => ?_)
  refine zx_istore_n (i := 1) (ls' := [(1, .int r2), (0, .ref a0)]) (zd me_X11_who 5 rfl) rfl (Nat.le_of_ble_eq_true rfl) rfl ?_
  refine zx_aload_n (i := 0) (zd me_X11_who 6 rfl) rfl 1 rfl ?_
  refine zx_getR (zd me_X11_who 7 rfl) fl_X11_10 (zi11_c h0) rfl (zi11_r0 h0) ?_
  refine zx_iconst (v := 0) (zd me_X11_who 8 rfl) (by decide) ?_
  refine zx_putI (zd me_X11_who 9 rfl) fp_X11_99 (zi10_c (zi11_t0 h0)) rfl (fun M3 _ => ?_)
  refine zx_iload_n (i := 1) (zd me_X11_who 10 rfl) rfl 0 rfl ?_
  refine zx_if_le (tgt := 32) (zd me_X11_who 11 rfl) (by decide) (fun c4 => ?_) (fun c4 => ?_)
  · refine zx_iload_n (i := 1) (zd me_X11_who 16 rfl) rfl 0 rfl ?_
    exact zx_iret (zd me_X11_who 17 rfl) rfl
  · refine zx_aload_n (i := 0) (zd me_X11_who 12 rfl) rfl 1 rfl ?_
    refine zx_getR (zd me_X11_who 13 rfl) fl_X11_74 (zi11_c h0) rfl (zi11_r10 h0) ?_
    refine zx_iload_n (i := 1) (zd me_X11_who 14 rfl) rfl 0 rfl ?_
    refine zx_callVV1 (zd me_X11_who 15 rfl) (mc_X4_chooseQuestion (zl C) (zi11_t10 h0) r2 M3) lk_X11_257 ⟨(Nat.le_of_ble_eq_true rfl), (Nat.le_of_ble_eq_true rfl)⟩ (Nat.le_of_ble_eq_true rfl) (zi4_c (zi11_t10 h0)) rfl (fun r6 M5 => ?_)
    refine zx_iload_n (i := 1) (zd me_X11_who 16 rfl) rfl 0 rfl ?_
    exact zx_iret (zd me_X11_who 17 rfl) rfl
def mf_X11_ask (R : zRR) (a0 : Nat) (M : zMem) : Option (Int32 × zMem) :=
  some ((M.1 (zrf R a0 10) 5), M)
theorem mc_X11_ask (l : Launch) {T : zTT} {R : zRR} {a0 : Nat} (h0 : zi11 T R a0) (M : zMem) : zMS l yX11_ask mi_X11_ask zrvI (mf_X11_ask R a0 M) [.ref a0] T R M := by
  refine zMS.of (by decide +kernel) rfl ⟨rfl, rfl⟩ (Nat.le_of_ble_eq_true rfl) (fun C ad _ => ?_)
  show zX C mi_X11_ask (zFin C zrvI ad T R) 0 0 (mf_X11_ask R a0 M) 0 [(0, .ref a0)] [] ad T R M
  unfold mf_X11_ask
  refine zx_aload_n (i := 0) (zd me_X11_ask 0 rfl) rfl 0 rfl ?_
  refine zx_getR (zd me_X11_ask 1 rfl) fl_X11_74 (zi11_c h0) rfl (zi11_r10 h0) ?_
  refine zx_getI (zd me_X11_ask 2 rfl) fl_X11_260 (zi4_c (zi11_t10 h0)) rfl ?_
  exact zx_iret (zd me_X11_ask 3 rfl) rfl
def mf_X11_near (R : zRR) (a0 : Nat) (i1 : Int32) (M : zMem) : Option (Int32 × zMem) :=
  zcl (mf_X4_mostAlike R (zrf R a0 10) i1 M) fun r2 M1 =>
  some (r2, M1)
theorem mc_X11_near (l : Launch) {T : zTT} {R : zRR} {a0 : Nat} (h0 : zi11 T R a0) (i1 : Int32) (M : zMem) : zMS l yX11_near mi_X11_near zrvI (mf_X11_near R a0 i1 M) [.ref a0, .int i1] T R M := by
  refine zMS.of (by decide +kernel) rfl ⟨rfl, rfl⟩ (Nat.le_of_ble_eq_true rfl) (fun C ad _ => ?_)
  show zX C mi_X11_near (zFin C zrvI ad T R) 0 0 (mf_X11_near R a0 i1 M) 0 [(0, .ref a0), (1, .int i1)] [] ad T R M
  unfold mf_X11_near
  refine zx_aload_n (i := 0) (zd me_X11_near 0 rfl) rfl 0 rfl ?_
  refine zx_getR (zd me_X11_near 1 rfl) fl_X11_74 (zi11_c h0) rfl (zi11_r10 h0) ?_
  refine zx_iload_n (i := 1) (zd me_X11_near 2 rfl) rfl 1 rfl ?_
  refine zx_callVI1 (zd me_X11_near 3 rfl) (mc_X4_mostAlike (zl C) (zi11_t10 h0) i1 M) lk_X11_263 ⟨(Nat.le_of_ble_eq_true rfl), (Nat.le_of_ble_eq_true rfl)⟩ (Nat.le_of_ble_eq_true rfl) (zi4_c (zi11_t10 h0)) rfl (fun r2 M1 => ?_)
  exact zx_iret (zd me_X11_near 4 rfl) rfl
def mf_X11_through (R : zRR) (a0 : Nat) (i1 : Int32) (M : zMem) : Option (Int32 × zMem) :=
  zcl (mf_X4_minutesOf R (zrf R a0 10) i1 M) fun r2 M1 =>
  some (r2, M1)
theorem mc_X11_through (l : Launch) {T : zTT} {R : zRR} {a0 : Nat} (h0 : zi11 T R a0) (i1 : Int32) (M : zMem) : zMS l yX11_through mi_X11_through zrvI (mf_X11_through R a0 i1 M) [.ref a0, .int i1] T R M := by
  refine zMS.of (by decide +kernel) rfl ⟨rfl, rfl⟩ (Nat.le_of_ble_eq_true rfl) (fun C ad _ => ?_)
  show zX C mi_X11_through (zFin C zrvI ad T R) 0 0 (mf_X11_through R a0 i1 M) 0 [(0, .ref a0), (1, .int i1)] [] ad T R M
  unfold mf_X11_through
  refine zx_aload_n (i := 0) (zd me_X11_through 0 rfl) rfl 0 rfl ?_
  refine zx_getR (zd me_X11_through 1 rfl) fl_X11_74 (zi11_c h0) rfl (zi11_r10 h0) ?_
  refine zx_iload_n (i := 1) (zd me_X11_through 2 rfl) rfl 1 rfl ?_
  refine zx_callVI1 (zd me_X11_through 3 rfl) (mc_X4_minutesOf (zl C) (zi11_t10 h0) i1 M) lk_X11_266 ⟨(Nat.le_of_ble_eq_true rfl), (Nat.le_of_ble_eq_true rfl)⟩ (Nat.le_of_ble_eq_true rfl) (zi4_c (zi11_t10 h0)) rfl (fun r2 M1 => ?_)
  exact zx_iret (zd me_X11_through 4 rfl) rfl
def mf_X11_gap (R : zRR) (a0 : Nat) (i1 : Int32) (i2 : Int32) (M : zMem) : Option (Int32 × zMem) :=
  zcl (mf_X7_hasPaper R (zrf R a0 1) i1 M) fun r2 M1 =>
  if r2 = 0 then
    (some ((-1 : Int32), M1))
  else
    (zcl (mf_X7_hasPaper R (zrf R a0 1) i2 M1) fun r5 M4 =>
    if r5 = 0 then
      (some ((-1 : Int32), M4))
    else
      (zcl (mf_X4_gapOf R (zrf R a0 10) i1 i2 M4) fun r8 M7 =>
      some (r8, M7)))
theorem mc_X11_gap (l : Launch) {T : zTT} {R : zRR} {a0 : Nat} (h0 : zi11 T R a0) (i1 : Int32) (i2 : Int32) (M : zMem) : zMS l yX11_gap mi_X11_gap zrvI (mf_X11_gap R a0 i1 i2 M) [.ref a0, .int i1, .int i2] T R M := by
  refine zMS.of (by decide +kernel) rfl ⟨rfl, rfl⟩ (Nat.le_of_ble_eq_true rfl) (fun C ad _ => ?_)
  show zX C mi_X11_gap (zFin C zrvI ad T R) 0 0 (mf_X11_gap R a0 i1 i2 M) 0 [(0, .ref a0), (1, .int i1), (2, .int i2)] [] ad T R M
  unfold mf_X11_gap
  refine zx_aload_n (i := 0) (zd me_X11_gap 0 rfl) rfl 0 rfl ?_
  refine zx_getR (zd me_X11_gap 1 rfl) fl_X11_19 (zi11_c h0) rfl (zi11_r1 h0) ?_
  refine zx_iload_n (i := 1) (zd me_X11_gap 2 rfl) rfl 1 rfl ?_
  refine zx_callVI1 (zd me_X11_gap 3 rfl) (mc_X7_hasPaper (zl C) (zi11_t1 h0) i1 M) lk_X11_153 ⟨(Nat.le_of_ble_eq_true rfl), (Nat.le_of_ble_eq_true rfl)⟩ (Nat.le_of_ble_eq_true rfl) (zi7_c (zi11_t1 h0)) rfl (fun r2 M1 => ?_)
  refine zx_if_eq (tgt := 34) (zd me_X11_gap 4 rfl) (by decide) (fun c3 => ?_) (fun c3 => ?_)
  · refine zx_iconst (v := (-1)) (zd me_X11_gap 16 rfl) (by decide) ?_
    exact zx_iret (zd me_X11_gap 17 rfl) rfl
  · refine zx_aload_n (i := 0) (zd me_X11_gap 5 rfl) rfl 0 rfl ?_
    refine zx_getR (zd me_X11_gap 6 rfl) fl_X11_19 (zi11_c h0) rfl (zi11_r1 h0) ?_
    refine zx_iload_n (i := 2) (zd me_X11_gap 7 rfl) rfl 2 rfl ?_
    refine zx_callVI1 (zd me_X11_gap 8 rfl) (mc_X7_hasPaper (zl C) (zi11_t1 h0) i2 M1) lk_X11_153 ⟨(Nat.le_of_ble_eq_true rfl), (Nat.le_of_ble_eq_true rfl)⟩ (Nat.le_of_ble_eq_true rfl) (zi7_c (zi11_t1 h0)) rfl (fun r5 M4 => ?_)
    refine zx_if_eq (tgt := 34) (zd me_X11_gap 9 rfl) (by decide) (fun c6 => ?_) (fun c6 => ?_)
    · refine zx_iconst (v := (-1)) (zd me_X11_gap 16 rfl) (by decide) ?_
      exact zx_iret (zd me_X11_gap 17 rfl) rfl
    · refine zx_aload_n (i := 0) (zd me_X11_gap 10 rfl) rfl 0 rfl ?_
      refine zx_getR (zd me_X11_gap 11 rfl) fl_X11_74 (zi11_c h0) rfl (zi11_r10 h0) ?_
      refine zx_iload_n (i := 1) (zd me_X11_gap 12 rfl) rfl 1 rfl ?_
      refine zx_iload_n (i := 2) (zd me_X11_gap 13 rfl) rfl 2 rfl ?_
      refine zx_callVI2 (zd me_X11_gap 14 rfl) (mc_X4_gapOf (zl C) (zi11_t10 h0) i1 i2 M4) lk_X11_269 ⟨(Nat.le_of_ble_eq_true rfl), (Nat.le_of_ble_eq_true rfl)⟩ (Nat.le_of_ble_eq_true rfl) (zi4_c (zi11_t10 h0)) rfl (fun r8 M7 => ?_)
      refine zx_goto (tgt := 35) (zd me_X11_gap 15 rfl) (by decide) ?_
      exact zx_iret (zd me_X11_gap 17 rfl) rfl
def mf_X11_chain (R : zRR) (a0 : Nat) (M : zMem) : Option (Int32 × zMem) :=
  zcl (mf_X4_bestChain R (zrf R a0 10) M) fun r2 M1 =>
  some (r2, M1)
theorem mc_X11_chain (l : Launch) {T : zTT} {R : zRR} {a0 : Nat} (h0 : zi11 T R a0) (M : zMem) : zMS l yX11_chain mi_X11_chain zrvI (mf_X11_chain R a0 M) [.ref a0] T R M := by
  refine zMS.of (by decide +kernel) rfl ⟨rfl, rfl⟩ (Nat.le_of_ble_eq_true rfl) (fun C ad _ => ?_)
  show zX C mi_X11_chain (zFin C zrvI ad T R) 0 0 (mf_X11_chain R a0 M) 0 [(0, .ref a0)] [] ad T R M
  unfold mf_X11_chain
  refine zx_aload_n (i := 0) (zd me_X11_chain 0 rfl) rfl 0 rfl ?_
  refine zx_getR (zd me_X11_chain 1 rfl) fl_X11_74 (zi11_c h0) rfl (zi11_r10 h0) ?_
  refine zx_callVI0 (zd me_X11_chain 2 rfl) (mc_X4_bestChain (zl C) (zi11_t10 h0) M) lk_X11_272 ⟨(Nat.le_of_ble_eq_true rfl), (Nat.le_of_ble_eq_true rfl)⟩ (Nat.le_of_ble_eq_true rfl) (zi4_c (zi11_t10 h0)) rfl (fun r2 M1 => ?_)
  exact zx_iret (zd me_X11_chain 3 rfl) rfl
def mf_X11_chainAt (R : zRR) (a0 : Nat) (i1 : Int32) (M : zMem) : Option (Int32 × zMem) :=
  if i1 < 0 then
    (some ((-1 : Int32), M))
  else
    (if (M.1 (zrf R a0 10) 4) ≤ i1 then
      (some ((-1 : Int32), M))
    else
      (zald 5 i1 fun j3 =>
      some ((M.1 (zrf R (zrf R a0 10) 3) j3), M)))
theorem mc_X11_chainAt (l : Launch) {T : zTT} {R : zRR} {a0 : Nat} (h0 : zi11 T R a0) (i1 : Int32) (M : zMem) : zMS l yX11_chainAt mi_X11_chainAt zrvI (mf_X11_chainAt R a0 i1 M) [.ref a0, .int i1] T R M := by
  refine zMS.of (by decide +kernel) rfl ⟨rfl, rfl⟩ (Nat.le_of_ble_eq_true rfl) (fun C ad _ => ?_)
  show zX C mi_X11_chainAt (zFin C zrvI ad T R) 0 0 (mf_X11_chainAt R a0 i1 M) 0 [(0, .ref a0), (1, .int i1)] [] ad T R M
  unfold mf_X11_chainAt
  refine zx_iload_n (i := 1) (zd me_X11_chainAt 0 rfl) rfl 1 rfl ?_
  refine zx_if_lt (tgt := 27) (zd me_X11_chainAt 1 rfl) (by decide) (fun c1 => ?_) (fun c1 => ?_)
  · refine zx_iconst (v := (-1)) (zd me_X11_chainAt 13 rfl) (by decide) ?_
    exact zx_iret (zd me_X11_chainAt 14 rfl) rfl
  · refine zx_iload_n (i := 1) (zd me_X11_chainAt 2 rfl) rfl 1 rfl ?_
    refine zx_aload_n (i := 0) (zd me_X11_chainAt 3 rfl) rfl 0 rfl ?_
    refine zx_getR (zd me_X11_chainAt 4 rfl) fl_X11_74 (zi11_c h0) rfl (zi11_r10 h0) ?_
    refine zx_getI (zd me_X11_chainAt 5 rfl) fl_X11_275 (zi4_c (zi11_t10 h0)) rfl ?_
    refine zx_icmp_ge (tgt := 27) (zd me_X11_chainAt 6 rfl) (by decide) (fun c2 => ?_) (fun c2 => ?_)
    · refine zx_iconst (v := (-1)) (zd me_X11_chainAt 13 rfl) (by decide) ?_
      exact zx_iret (zd me_X11_chainAt 14 rfl) rfl
    · refine zx_aload_n (i := 0) (zd me_X11_chainAt 7 rfl) rfl 0 rfl ?_
      refine zx_getR (zd me_X11_chainAt 8 rfl) fl_X11_74 (zi11_c h0) rfl (zi11_r10 h0) ?_
      refine zx_getR (zd me_X11_chainAt 9 rfl) fl_X11_278 (zi4_c (zi11_t10 h0)) rfl (zi4_r3 (zi11_t10 h0)) ?_
      refine zx_iload_n (i := 1) (zd me_X11_chainAt 10 rfl) rfl 1 rfl ?_
      refine zx_iald (zd me_X11_chainAt 11 rfl) (zi4_t3 (zi11_t10 h0)) (fun j3 hj3 => ?_)
      refine zx_goto (tgt := 28) (zd me_X11_chainAt 12 rfl) (by decide) ?_
      exact zx_iret (zd me_X11_chainAt 14 rfl) rfl
def mf_X11_load (R : zRR) (a0 : Nat) (i1 : Int32) (i2 : Int32) (M : zMem) : Option (Int32 × zMem) :=
  zcl (mf_X7_hasBath R (zrf R a0 1) i1 M) fun r2 M1 =>
  if r2 = 0 then
    (some ((-1 : Int32), M1))
  else
    (if i2 < 0 then
      (some ((-1 : Int32), M1))
    else
      (if i2 ≤ (200 : Int32) then
        (zcl (mf_X3_copyFrom R (zrf R a0 4) (zrf R a0 3) M1) fun _ M6 =>
        zcl (mf_X3_pass R (zrf R a0 4) i2 M6) fun _ M8 =>
        zcl (mf_X3_insideOf R (zrf R a0 4) i1 M8) fun r11 M10 =>
        some (r11, M10))
      else
        (some ((-1 : Int32), M1))))
theorem mc_X11_load (l : Launch) {T : zTT} {R : zRR} {a0 : Nat} (h0 : zi11 T R a0) (i1 : Int32) (i2 : Int32) (M : zMem) : zMS l yX11_load mi_X11_load zrvI (mf_X11_load R a0 i1 i2 M) [.ref a0, .int i1, .int i2] T R M := by
  refine zMS.of (by decide +kernel) rfl ⟨rfl, rfl⟩ (Nat.le_of_ble_eq_true rfl) (fun C ad _ => ?_)
  show zX C mi_X11_load (zFin C zrvI ad T R) 0 0 (mf_X11_load R a0 i1 i2 M) 0 [(0, .ref a0), (1, .int i1), (2, .int i2)] [] ad T R M
  unfold mf_X11_load
  refine zx_aload_n (i := 0) (zd me_X11_load 0 rfl) rfl 0 rfl ?_
  refine zx_getR (zd me_X11_load 1 rfl) fl_X11_19 (zi11_c h0) rfl (zi11_r1 h0) ?_
  refine zx_iload_n (i := 1) (zd me_X11_load 2 rfl) rfl 1 rfl ?_
  refine zx_callVI1 (zd me_X11_load 3 rfl) (mc_X7_hasBath (zl C) (zi11_t1 h0) i1 M) lk_X11_129 ⟨(Nat.le_of_ble_eq_true rfl), (Nat.le_of_ble_eq_true rfl)⟩ (Nat.le_of_ble_eq_true rfl) (zi7_c (zi11_t1 h0)) rfl (fun r2 M1 => ?_)
  refine zx_if_eq (tgt := 22) (zd me_X11_load 4 rfl) (by decide) (fun c3 => ?_) (fun c3 => ?_)
  · refine zx_iconst (v := (-1)) (zd me_X11_load 10 rfl) (by decide) ?_
    exact zx_iret (zd me_X11_load 11 rfl) rfl
  · refine zx_iload_n (i := 2) (zd me_X11_load 5 rfl) rfl 2 rfl ?_
    refine zx_if_lt (tgt := 22) (zd me_X11_load 6 rfl) (by decide) (fun c4 => ?_) (fun c4 => ?_)
    · refine zx_iconst (v := (-1)) (zd me_X11_load 10 rfl) (by decide) ?_
      exact zx_iret (zd me_X11_load 11 rfl) rfl
    · refine zx_iload_n (i := 2) (zd me_X11_load 7 rfl) rfl 2 rfl ?_
      refine zx_sipush (v := 200) (zd me_X11_load 8 rfl) (by decide) ?_
      refine zx_icmp_le (tgt := 24) (zd me_X11_load 9 rfl) (by decide) (fun c5 => ?_) (fun c5 => ?_)
      · refine zx_aload_n (i := 0) (zd me_X11_load 12 rfl) rfl 0 rfl ?_
        refine zx_getR (zd me_X11_load 13 rfl) fl_X11_35 (zi11_c h0) rfl (zi11_r4 h0) ?_
        refine zx_aload_n (i := 0) (zd me_X11_load 14 rfl) rfl 0 rfl ?_
        refine zx_getR (zd me_X11_load 15 rfl) fl_X11_31 (zi11_c h0) rfl (zi11_r3 h0) ?_
        refine zx_callVV1 (zd me_X11_load 16 rfl) (mc_X3_copyFrom (zl C) (zi11_t4 h0) (zi11_t3 h0) M1) lk_X11_281 ⟨(Nat.le_of_ble_eq_true rfl), (Nat.le_of_ble_eq_true rfl)⟩ (Nat.le_of_ble_eq_true rfl) (zi3_c (zi11_t4 h0)) rfl (fun r7 M6 => ?_)
        refine zx_aload_n (i := 0) (zd me_X11_load 17 rfl) rfl 0 rfl ?_
        refine zx_getR (zd me_X11_load 18 rfl) fl_X11_35 (zi11_c h0) rfl (zi11_r4 h0) ?_
        refine zx_iload_n (i := 2) (zd me_X11_load 19 rfl) rfl 2 rfl ?_
        refine zx_callVV1 (zd me_X11_load 20 rfl) (mc_X3_pass (zl C) (zi11_t4 h0) i2 M6) lk_X11_215 ⟨(Nat.le_of_ble_eq_true rfl), (Nat.le_of_ble_eq_true rfl)⟩ (Nat.le_of_ble_eq_true rfl) (zi3_c (zi11_t4 h0)) rfl (fun r9 M8 => ?_)
        refine zx_aload_n (i := 0) (zd me_X11_load 21 rfl) rfl 0 rfl ?_
        refine zx_getR (zd me_X11_load 22 rfl) fl_X11_35 (zi11_c h0) rfl (zi11_r4 h0) ?_
        refine zx_iload_n (i := 1) (zd me_X11_load 23 rfl) rfl 1 rfl ?_
        refine zx_callVI1 (zd me_X11_load 24 rfl) (mc_X3_insideOf (zl C) (zi11_t4 h0) i1 M8) lk_X11_144 ⟨(Nat.le_of_ble_eq_true rfl), (Nat.le_of_ble_eq_true rfl)⟩ (Nat.le_of_ble_eq_true rfl) (zi3_c (zi11_t4 h0)) rfl (fun r11 M10 => ?_)
        exact zx_iret (zd me_X11_load 25 rfl) rfl
      · refine zx_iconst (v := (-1)) (zd me_X11_load 10 rfl) (by decide) ?_
        exact zx_iret (zd me_X11_load 11 rfl) rfl
def mf_X11_block (R : zRR) (a0 : Nat) (i1 : Int32) (M : zMem) : Option (Int32 × zMem) :=
  zcl (mf_X3_isHeld R (zrf R a0 3) i1 M) fun r2 M1 =>
  if r2 = 0 then
    (some ((-1 : Int32), M1))
  else
    (zcl (mf_X3_bathOf R (zrf R a0 3) i1 M1) fun r5 M4 =>
    zcl (mf_X7_bathAfter R (zrf R a0 1) i1 r5 M4) fun r7 M6 =>
    zcl (mf_X3_insideOf R (zrf R a0 3) r7 M6) fun r9 M8 =>
    some (r9, M8))
theorem mc_X11_block (l : Launch) {T : zTT} {R : zRR} {a0 : Nat} (h0 : zi11 T R a0) (i1 : Int32) (M : zMem) : zMS l yX11_block mi_X11_block zrvI (mf_X11_block R a0 i1 M) [.ref a0, .int i1] T R M := by
  refine zMS.of (by decide +kernel) rfl ⟨rfl, rfl⟩ (Nat.le_of_ble_eq_true rfl) (fun C ad _ => ?_)
  show zX C mi_X11_block (zFin C zrvI ad T R) 0 0 (mf_X11_block R a0 i1 M) 0 [(0, .ref a0), (1, .int i1)] [] ad T R M
  unfold mf_X11_block
  refine zx_aload_n (i := 0) (zd me_X11_block 0 rfl) rfl 0 rfl ?_
  refine zx_getR (zd me_X11_block 1 rfl) fl_X11_31 (zi11_c h0) rfl (zi11_r3 h0) ?_
  refine zx_iload_n (i := 1) (zd me_X11_block 2 rfl) rfl 1 rfl ?_
  refine zx_callVI1 (zd me_X11_block 3 rfl) (mc_X3_isHeld (zl C) (zi11_t3 h0) i1 M) lk_X11_283 ⟨(Nat.le_of_ble_eq_true rfl), (Nat.le_of_ble_eq_true rfl)⟩ (Nat.le_of_ble_eq_true rfl) (zi3_c (zi11_t3 h0)) rfl (fun r2 M1 => ?_)
  refine zx_if_ne (tgt := 13) (zd me_X11_block 4 rfl) (by decide) (fun c3 => ?_) (fun c3 => ?_)
  · refine zx_aload_n (i := 0) (zd me_X11_block 7 rfl) rfl 0 rfl ?_
    refine zx_getR (zd me_X11_block 8 rfl) fl_X11_31 (zi11_c h0) rfl (zi11_r3 h0) ?_
    refine zx_aload_n (i := 0) (zd me_X11_block 9 rfl) rfl 0 rfl ?_
    refine zx_getR (zd me_X11_block 10 rfl) fl_X11_19 (zi11_c h0) rfl (zi11_r1 h0) ?_
    refine zx_iload_n (i := 1) (zd me_X11_block 11 rfl) rfl 1 rfl ?_
    refine zx_aload_n (i := 0) (zd me_X11_block 12 rfl) rfl 0 rfl ?_
    refine zx_getR (zd me_X11_block 13 rfl) fl_X11_31 (zi11_c h0) rfl (zi11_r3 h0) ?_
    refine zx_iload_n (i := 1) (zd me_X11_block 14 rfl) rfl 1 rfl ?_
    refine zx_callVI1 (zd me_X11_block 15 rfl) (mc_X3_bathOf (zl C) (zi11_t3 h0) i1 M1) lk_X11_286 ⟨(Nat.le_of_ble_eq_true rfl), (Nat.le_of_ble_eq_true rfl)⟩ (Nat.le_of_ble_eq_true rfl) (zi3_c (zi11_t3 h0)) rfl (fun r5 M4 => ?_)
    refine zx_callVI2 (zd me_X11_block 16 rfl) (mc_X7_bathAfter (zl C) (zi11_t1 h0) i1 r5 M4) lk_X11_289 ⟨(Nat.le_of_ble_eq_true rfl), (Nat.le_of_ble_eq_true rfl)⟩ (Nat.le_of_ble_eq_true rfl) (zi7_c (zi11_t1 h0)) rfl (fun r7 M6 => ?_)
    refine zx_callVI1 (zd me_X11_block 17 rfl) (mc_X3_insideOf (zl C) (zi11_t3 h0) r7 M6) lk_X11_144 ⟨(Nat.le_of_ble_eq_true rfl), (Nat.le_of_ble_eq_true rfl)⟩ (Nat.le_of_ble_eq_true rfl) (zi3_c (zi11_t3 h0)) rfl (fun r9 M8 => ?_)
    exact zx_iret (zd me_X11_block 18 rfl) rfl
  · refine zx_iconst (v := (-1)) (zd me_X11_block 5 rfl) (by decide) ?_
    exact zx_iret (zd me_X11_block 6 rfl) rfl
def mf_X11_often (R : zRR) (a0 : Nat) (M : zMem) : Option (Int32 × zMem) :=
  zcl (mf_X3_mostStarted R (zrf R a0 3) M) fun r2 M1 =>
  some (r2, M1)
theorem mc_X11_often (l : Launch) {T : zTT} {R : zRR} {a0 : Nat} (h0 : zi11 T R a0) (M : zMem) : zMS l yX11_often mi_X11_often zrvI (mf_X11_often R a0 M) [.ref a0] T R M := by
  refine zMS.of (by decide +kernel) rfl ⟨rfl, rfl⟩ (Nat.le_of_ble_eq_true rfl) (fun C ad _ => ?_)
  show zX C mi_X11_often (zFin C zrvI ad T R) 0 0 (mf_X11_often R a0 M) 0 [(0, .ref a0)] [] ad T R M
  unfold mf_X11_often
  refine zx_aload_n (i := 0) (zd me_X11_often 0 rfl) rfl 0 rfl ?_
  refine zx_getR (zd me_X11_often 1 rfl) fl_X11_31 (zi11_c h0) rfl (zi11_r3 h0) ?_
  refine zx_callVI0 (zd me_X11_often 2 rfl) (mc_X3_mostStarted (zl C) (zi11_t3 h0) M) lk_X11_302 ⟨(Nat.le_of_ble_eq_true rfl), (Nat.le_of_ble_eq_true rfl)⟩ (Nat.le_of_ble_eq_true rfl) (zi3_c (zi11_t3 h0)) rfl (fun r2 M1 => ?_)
  exact zx_iret (zd me_X11_often 3 rfl) rfl
def mf_X11_tag (R : zRR) (a0 : Nat) (i1 : Int32) (M : zMem) : Option (Int32 × zMem) :=
  zcl (mf_X7_hasSheet R (zrf R a0 1) i1 M) fun r2 M1 =>
  if r2 = 0 then
    (some ((-1 : Int32), M1))
  else
    (zcl (mf_X9_write R (zrf R a0 12) (zrf R a0 1) (zrf R a0 3) i1 M1) fun _ M4 =>
    some ((M4.1 (zrf R a0 12) 1), M4))
theorem mc_X11_tag (l : Launch) {T : zTT} {R : zRR} {a0 : Nat} (h0 : zi11 T R a0) (i1 : Int32) (M : zMem) : zMS l yX11_tag mi_X11_tag zrvI (mf_X11_tag R a0 i1 M) [.ref a0, .int i1] T R M := by
  refine zMS.of (by decide +kernel) rfl ⟨rfl, rfl⟩ (Nat.le_of_ble_eq_true rfl) (fun C ad _ => ?_)
  show zX C mi_X11_tag (zFin C zrvI ad T R) 0 0 (mf_X11_tag R a0 i1 M) 0 [(0, .ref a0), (1, .int i1)] [] ad T R M
  unfold mf_X11_tag
  refine zx_aload_n (i := 0) (zd me_X11_tag 0 rfl) rfl 0 rfl ?_
  refine zx_getR (zd me_X11_tag 1 rfl) fl_X11_19 (zi11_c h0) rfl (zi11_r1 h0) ?_
  refine zx_iload_n (i := 1) (zd me_X11_tag 2 rfl) rfl 1 rfl ?_
  refine zx_callVI1 (zd me_X11_tag 3 rfl) (mc_X7_hasSheet (zl C) (zi11_t1 h0) i1 M) lk_X11_160 ⟨(Nat.le_of_ble_eq_true rfl), (Nat.le_of_ble_eq_true rfl)⟩ (Nat.le_of_ble_eq_true rfl) (zi7_c (zi11_t1 h0)) rfl (fun r2 M1 => ?_)
  refine zx_if_ne (tgt := 13) (zd me_X11_tag 4 rfl) (by decide) (fun c3 => ?_) (fun c3 => ?_)
  · refine zx_aload_n (i := 0) (zd me_X11_tag 7 rfl) rfl 0 rfl ?_
    refine zx_getR (zd me_X11_tag 8 rfl) fl_X11_88 (zi11_c h0) rfl (zi11_r12 h0) ?_
    refine zx_aload_n (i := 0) (zd me_X11_tag 9 rfl) rfl 0 rfl ?_
    refine zx_getR (zd me_X11_tag 10 rfl) fl_X11_19 (zi11_c h0) rfl (zi11_r1 h0) ?_
    refine zx_aload_n (i := 0) (zd me_X11_tag 11 rfl) rfl 0 rfl ?_
    refine zx_getR (zd me_X11_tag 12 rfl) fl_X11_31 (zi11_c h0) rfl (zi11_r3 h0) ?_
    refine zx_iload_n (i := 1) (zd me_X11_tag 13 rfl) rfl 1 rfl ?_
    refine zx_callVV3 (zd me_X11_tag 14 rfl) (mc_X9_write (zl C) (zi11_t12 h0) (zi11_t1 h0) (zi11_t3 h0) i1 M1) lk_X11_305 ⟨(Nat.le_of_ble_eq_true rfl), (Nat.le_of_ble_eq_true rfl)⟩ (Nat.le_of_ble_eq_true rfl) (zi9_c (zi11_t12 h0)) rfl (fun r5 M4 => ?_)
    refine zx_aload_n (i := 0) (zd me_X11_tag 15 rfl) rfl 0 rfl ?_
    refine zx_getR (zd me_X11_tag 16 rfl) fl_X11_88 (zi11_c h0) rfl (zi11_r12 h0) ?_
    refine zx_getI (zd me_X11_tag 17 rfl) fl_X11_309 (zi9_c (zi11_t12 h0)) rfl ?_
    exact zx_iret (zd me_X11_tag 18 rfl) rfl
  · refine zx_iconst (v := (-1)) (zd me_X11_tag 5 rfl) (by decide) ?_
    exact zx_iret (zd me_X11_tag 6 rfl) rfl
def mf_X11_byteAt (R : zRR) (a0 : Nat) (i1 : Int32) (M : zMem) : Option (Int32 × zMem) :=
  if i1 < 0 then
    (some ((-1 : Int32), M))
  else
    (if (M.1 (zrf R a0 12) 1) ≤ i1 then
      (some ((-1 : Int32), M))
    else
      (zald 24 i1 fun j3 =>
      some ((M.1 (zrf R (zrf R a0 12) 0) j3), M)))
theorem mc_X11_byteAt (l : Launch) {T : zTT} {R : zRR} {a0 : Nat} (h0 : zi11 T R a0) (i1 : Int32) (M : zMem) : zMS l yX11_byteAt mi_X11_byteAt zrvI (mf_X11_byteAt R a0 i1 M) [.ref a0, .int i1] T R M := by
  refine zMS.of (by decide +kernel) rfl ⟨rfl, rfl⟩ (Nat.le_of_ble_eq_true rfl) (fun C ad _ => ?_)
  show zX C mi_X11_byteAt (zFin C zrvI ad T R) 0 0 (mf_X11_byteAt R a0 i1 M) 0 [(0, .ref a0), (1, .int i1)] [] ad T R M
  unfold mf_X11_byteAt
  refine zx_iload_n (i := 1) (zd me_X11_byteAt 0 rfl) rfl 1 rfl ?_
  refine zx_if_lt (tgt := 27) (zd me_X11_byteAt 1 rfl) (by decide) (fun c1 => ?_) (fun c1 => ?_)
  · refine zx_iconst (v := (-1)) (zd me_X11_byteAt 13 rfl) (by decide) ?_
    exact zx_iret (zd me_X11_byteAt 14 rfl) rfl
  · refine zx_iload_n (i := 1) (zd me_X11_byteAt 2 rfl) rfl 1 rfl ?_
    refine zx_aload_n (i := 0) (zd me_X11_byteAt 3 rfl) rfl 0 rfl ?_
    refine zx_getR (zd me_X11_byteAt 4 rfl) fl_X11_88 (zi11_c h0) rfl (zi11_r12 h0) ?_
    refine zx_getI (zd me_X11_byteAt 5 rfl) fl_X11_309 (zi9_c (zi11_t12 h0)) rfl ?_
    refine zx_icmp_ge (tgt := 27) (zd me_X11_byteAt 6 rfl) (by decide) (fun c2 => ?_) (fun c2 => ?_)
    · refine zx_iconst (v := (-1)) (zd me_X11_byteAt 13 rfl) (by decide) ?_
      exact zx_iret (zd me_X11_byteAt 14 rfl) rfl
    · refine zx_aload_n (i := 0) (zd me_X11_byteAt 7 rfl) rfl 0 rfl ?_
      refine zx_getR (zd me_X11_byteAt 8 rfl) fl_X11_88 (zi11_c h0) rfl (zi11_r12 h0) ?_
      refine zx_getR (zd me_X11_byteAt 9 rfl) fl_X11_310 (zi9_c (zi11_t12 h0)) rfl (zi9_r0 (zi11_t12 h0)) ?_
      refine zx_iload_n (i := 1) (zd me_X11_byteAt 10 rfl) rfl 1 rfl ?_
      refine zx_iald (zd me_X11_byteAt 11 rfl) (zi9_t0 (zi11_t12 h0)) (fun j3 hj3 => ?_)
      refine zx_goto (tgt := 28) (zd me_X11_byteAt 12 rfl) (by decide) ?_
      exact zx_iret (zd me_X11_byteAt 14 rfl) rfl
def mf_X11_drawn (R : zRR) (a0 : Nat) (i1 : Int32) (i2 : Int32) (M : zMem) : Option (Int32 × zMem) :=
  if i1 < (1 : Int32) then
    (some ((-1 : Int32), M))
  else
    (if i1 ≤ (60 : Int32) then
      (zcl (mf_X5_mark R (zrf R a0 8) (zrf R a0 3) M) fun _ M3 =>
      zcl (mf_X1_liveMinutes R (zrf R a0 11) (zrf R a0 3) i1 i2 M3) fun r6 M5 =>
      zcl (mf_X11_keptIfAny R a0 r6 M5) fun r8 M7 =>
      some (r8, M7))
    else
      (some ((-1 : Int32), M)))
theorem mc_X11_drawn (l : Launch) {T : zTT} {R : zRR} {a0 : Nat} (h0 : zi11 T R a0) (i1 : Int32) (i2 : Int32) (M : zMem) : zMS l yX11_drawn mi_X11_drawn zrvI (mf_X11_drawn R a0 i1 i2 M) [.ref a0, .int i1, .int i2] T R M := by
  refine zMS.of (by decide +kernel) rfl ⟨rfl, rfl⟩ (Nat.le_of_ble_eq_true rfl) (fun C ad _ => ?_)
  show zX C mi_X11_drawn (zFin C zrvI ad T R) 0 0 (mf_X11_drawn R a0 i1 i2 M) 0 [(0, .ref a0), (1, .int i1), (2, .int i2)] [] ad T R M
  unfold mf_X11_drawn
  refine zx_iload_n (i := 1) (zd me_X11_drawn 0 rfl) rfl 1 rfl ?_
  refine zx_iconst (v := 1) (zd me_X11_drawn 1 rfl) (by decide) ?_
  refine zx_icmp_lt (tgt := 11) (zd me_X11_drawn 2 rfl) (by decide) (fun c1 => ?_) (fun c1 => ?_)
  · refine zx_iconst (v := (-1)) (zd me_X11_drawn 6 rfl) (by decide) ?_
    exact zx_iret (zd me_X11_drawn 7 rfl) rfl
  · refine zx_iload_n (i := 1) (zd me_X11_drawn 3 rfl) rfl 1 rfl ?_
    refine zx_bipush (v := 60) (zd me_X11_drawn 4 rfl) (by decide) ?_
    refine zx_icmp_le (tgt := 13) (zd me_X11_drawn 5 rfl) (by decide) (fun c2 => ?_) (fun c2 => ?_)
    · refine zx_aload_n (i := 0) (zd me_X11_drawn 8 rfl) rfl 0 rfl ?_
      refine zx_getR (zd me_X11_drawn 9 rfl) fl_X11_58 (zi11_c h0) rfl (zi11_r8 h0) ?_
      refine zx_aload_n (i := 0) (zd me_X11_drawn 10 rfl) rfl 0 rfl ?_
      refine zx_getR (zd me_X11_drawn 11 rfl) fl_X11_31 (zi11_c h0) rfl (zi11_r3 h0) ?_
      refine zx_callVV1 (zd me_X11_drawn 12 rfl) (mc_X5_mark (zl C) (zi11_t8 h0) (zi11_t3 h0) M) lk_X11_188 ⟨(Nat.le_of_ble_eq_true rfl), (Nat.le_of_ble_eq_true rfl)⟩ (Nat.le_of_ble_eq_true rfl) (zi5_c (zi11_t8 h0)) rfl (fun r4 M3 => ?_)
      refine zx_aload_n (i := 0) (zd me_X11_drawn 13 rfl) rfl 0 rfl ?_
      refine zx_aload_n (i := 0) (zd me_X11_drawn 14 rfl) rfl 0 rfl ?_
      refine zx_getR (zd me_X11_drawn 15 rfl) fl_X11_81 (zi11_c h0) rfl (zi11_r11 h0) ?_
      refine zx_aload_n (i := 0) (zd me_X11_drawn 16 rfl) rfl 0 rfl ?_
      refine zx_getR (zd me_X11_drawn 17 rfl) fl_X11_31 (zi11_c h0) rfl (zi11_r3 h0) ?_
      refine zx_iload_n (i := 1) (zd me_X11_drawn 18 rfl) rfl 1 rfl ?_
      refine zx_iload_n (i := 2) (zd me_X11_drawn 19 rfl) rfl 2 rfl ?_
      refine zx_callVI3 (zd me_X11_drawn 20 rfl) (mc_X1_liveMinutes (zl C) (zi11_t11 h0) (zi11_t3 h0) i1 i2 M3) lk_X11_313 ⟨(Nat.le_of_ble_eq_true rfl), (Nat.le_of_ble_eq_true rfl)⟩ (Nat.le_of_ble_eq_true rfl) (zi1_c (zi11_t11 h0)) rfl (fun r6 M5 => ?_)
      refine zx_callVI1 (zd me_X11_drawn 21 rfl) (mc_X11_keptIfAny (zl C) h0 r6 M5) lk_X11_218 ⟨(Nat.le_of_ble_eq_true rfl), (Nat.le_of_ble_eq_true rfl)⟩ (Nat.le_of_ble_eq_true rfl) (zi11_c h0) rfl (fun r8 M7 => ?_)
      exact zx_iret (zd me_X11_drawn 22 rfl) rfl
    · refine zx_iconst (v := (-1)) (zd me_X11_drawn 6 rfl) (by decide) ?_
      exact zx_iret (zd me_X11_drawn 7 rfl) rfl
def mf_X11_odds_b80 (R : zRR) (a0 : Nat) (H30 : Int32 → Int32 → Int32 → Int32 → Int32 → zMem → Option (Int32 × zMem)) (i1 : Int32) (i2 : Int32) (i3 : Int32) (i4 : Int32) (i5 : Int32) (M : zMem) : Option (Int32 × zMem) :=
  H30 i1 i2 i3 i4 (i5 + 1) M
theorem mt_X11_odds_b80 {C : zCx} {ad : Nat → Nat} {T : zTT} {R : zRR} {a0 : Nat} (h0 : zi11 T R a0) {H30 : Int32 → Int32 → Int32 → Int32 → Int32 → zMem → Option (Int32 × zMem)} (hH30 : ∀ (i1 : Int32) (i2 : Int32) (i3 : Int32) (i4 : Int32) (i5 : Int32) (M : zMem), zX C mi_X11_odds (zFin C zrvI ad T R) 0 0 (H30 i1 i2 i3 i4 i5 M) 30 [(0, .ref a0), (1, .int i1), (2, .int i2), (3, .int i3), (4, .int i4), (5, .int i5)] [] ad T R M) (i1 : Int32) (i2 : Int32) (i3 : Int32) (i4 : Int32) (i5 : Int32) (M : zMem) : zX C mi_X11_odds (zFin C zrvI ad T R) 0 0 (mf_X11_odds_b80 R a0 H30 i1 i2 i3 i4 i5 M) 80 [(0, .ref a0), (1, .int i1), (2, .int i2), (3, .int i3), (4, .int i4), (5, .int i5)] [] ad T R M := by
  unfold mf_X11_odds_b80
  refine zx_iinc (v := 1) (ls' := [(5, .int (i5 + 1)), (0, .ref a0), (1, .int i1), (2, .int i2), (3, .int i3), (4, .int i4)]) (zd me_X11_odds 42 rfl) (Nat.le_of_ble_eq_true rfl) 5 rfl (by decide) rfl ?_
  refine zx_goto (tgt := 30) (zd me_X11_odds 43 rfl) (by decide) ?_
  refine zx_loc [1, 2, 3, 4, 5, 0] rfl ?_
  exact hH30 i1 i2 i3 i4 (i5 + 1) M
def mf_X11_odds_l30 (R : zRR) (a0 : Nat) : Nat → Int32 → Int32 → Int32 → Int32 → Int32 → zMem → Option (Int32 × zMem)
  | 0, _, _, _, _, _, _ => none
  | fuel + 1, i1, i2, i3, i4, i5, M =>
    if i2 ≤ i5 then
      (some (i4, M))
    else
      (zcl (mf_X3_copyFrom R (zrf R a0 4) (zrf R a0 3) M) fun _ M7 =>
      zcl (mf_X1_liveMinutes R (zrf R a0 11) (zrf R a0 4) (40 : Int32) (i3 + i5) M7) fun r10 M9 =>
      zcl (mf_X3_howIs R (zrf R a0 4) i1 M9) fun r12 M11 =>
      if r12 = (2 : Int32) then
        (mf_X11_odds_b80 R a0 (mf_X11_odds_l30 R a0 fuel) i1 i2 i3 (i4 + 1) i5 M11)
      else
        (mf_X11_odds_b80 R a0 (mf_X11_odds_l30 R a0 fuel) i1 i2 i3 i4 i5 M11))
theorem mt_X11_odds_l30 {C : zCx} {ad : Nat → Nat} {T : zTT} {R : zRR} {a0 : Nat} (h0 : zi11 T R a0) : ∀ (fuel : Nat) (i1 : Int32) (i2 : Int32) (i3 : Int32) (i4 : Int32) (i5 : Int32) (M : zMem), zX C mi_X11_odds (zFin C zrvI ad T R) 0 0 (mf_X11_odds_l30 R a0 fuel i1 i2 i3 i4 i5 M) 30 [(0, .ref a0), (1, .int i1), (2, .int i2), (3, .int i3), (4, .int i4), (5, .int i5)] [] ad T R M := by
  intro fuel
  induction fuel with
  | zero => intros; exact zx_none
  | succ fuel ih =>
    intro i1 i2 i3 i4 i5 M
    rw [mf_X11_odds_l30]
    refine zx_iload (zd me_X11_odds 17 rfl) 5 rfl ?_
    refine zx_iload_n (i := 2) (zd me_X11_odds 18 rfl) rfl 2 rfl ?_
    refine zx_icmp_ge (tgt := 86) (zd me_X11_odds 19 rfl) (by decide) (fun c6 => ?_) (fun c6 => ?_)
    · refine zx_iload (zd me_X11_odds 44 rfl) 4 rfl ?_
      exact zx_iret (zd me_X11_odds 45 rfl) rfl
    · refine zx_aload_n (i := 0) (zd me_X11_odds 20 rfl) rfl 0 rfl ?_
      refine zx_getR (zd me_X11_odds 21 rfl) fl_X11_35 (zi11_c h0) rfl (zi11_r4 h0) ?_
      refine zx_aload_n (i := 0) (zd me_X11_odds 22 rfl) rfl 0 rfl ?_
      refine zx_getR (zd me_X11_odds 23 rfl) fl_X11_31 (zi11_c h0) rfl (zi11_r3 h0) ?_
      refine zx_callVV1 (zd me_X11_odds 24 rfl) (mc_X3_copyFrom (zl C) (zi11_t4 h0) (zi11_t3 h0) M) lk_X11_281 ⟨(Nat.le_of_ble_eq_true rfl), (Nat.le_of_ble_eq_true rfl)⟩ (Nat.le_of_ble_eq_true rfl) (zi3_c (zi11_t4 h0)) rfl (fun r8 M7 => ?_)
      refine zx_aload_n (i := 0) (zd me_X11_odds 25 rfl) rfl 0 rfl ?_
      refine zx_getR (zd me_X11_odds 26 rfl) fl_X11_81 (zi11_c h0) rfl (zi11_r11 h0) ?_
      refine zx_aload_n (i := 0) (zd me_X11_odds 27 rfl) rfl 0 rfl ?_
      refine zx_getR (zd me_X11_odds 28 rfl) fl_X11_35 (zi11_c h0) rfl (zi11_r4 h0) ?_
      refine zx_bipush (v := 40) (zd me_X11_odds 29 rfl) (by decide) ?_
      refine zx_iload_n (i := 3) (zd me_X11_odds 30 rfl) rfl 3 rfl ?_
      refine zx_iload (zd me_X11_odds 31 rfl) 5 rfl ?_
      refine zx_iadd (zd me_X11_odds 32 rfl) ?_
      refine zx_callVI3 (zd me_X11_odds 33 rfl) (mc_X1_liveMinutes (zl C) (zi11_t11 h0) (zi11_t4 h0) (40 : Int32) (i3 + i5) M7) lk_X11_313 ⟨(Nat.le_of_ble_eq_true rfl), (Nat.le_of_ble_eq_true rfl)⟩ (Nat.le_of_ble_eq_true rfl) (zi1_c (zi11_t11 h0)) rfl (fun r10 M9 => ?_)
      refine zx_pop (zd me_X11_odds 34 rfl) rfl ?_
      refine zx_aload_n (i := 0) (zd me_X11_odds 35 rfl) rfl 0 rfl ?_
      refine zx_getR (zd me_X11_odds 36 rfl) fl_X11_35 (zi11_c h0) rfl (zi11_r4 h0) ?_
      refine zx_iload_n (i := 1) (zd me_X11_odds 37 rfl) rfl 1 rfl ?_
      refine zx_callVI1 (zd me_X11_odds 38 rfl) (mc_X3_howIs (zl C) (zi11_t4 h0) i1 M9) lk_X11_228 ⟨(Nat.le_of_ble_eq_true rfl), (Nat.le_of_ble_eq_true rfl)⟩ (Nat.le_of_ble_eq_true rfl) (zi3_c (zi11_t4 h0)) rfl (fun r12 M11 => ?_)
      refine zx_iconst (v := 2) (zd me_X11_odds 39 rfl) (by decide) ?_
      refine zx_icmp_ne (tgt := 80) (zd me_X11_odds 40 rfl) (by decide) (fun c13 => ?_) (fun c13 => ?_)
      · exact mt_X11_odds_b80 h0 ih i1 i2 i3 i4 i5 M11
      · refine zx_iinc (v := 1) (ls' := [(4, .int (i4 + 1)), (0, .ref a0), (1, .int i1), (2, .int i2), (3, .int i3), (5, .int i5)]) (zd me_X11_odds 41 rfl) (Nat.le_of_ble_eq_true rfl) 4 rfl (by decide) rfl ?_
        refine zx_loc [1, 2, 3, 4, 0, 5] rfl ?_
        exact mt_X11_odds_b80 h0 ih i1 i2 i3 (i4 + 1) i5 M11
def mf_X11_odds (R : zRR) (a0 : Nat) (i1 : Int32) (i2 : Int32) (i3 : Int32) (M : zMem) : Option (Int32 × zMem) :=
  zcl (mf_X7_hasSheet R (zrf R a0 1) i1 M) fun r2 M1 =>
  if r2 = 0 then
    (some ((-1 : Int32), M1))
  else
    (if i2 < (1 : Int32) then
      (some ((-1 : Int32), M1))
    else
      (if i2 ≤ (30 : Int32) then
        (mf_X11_odds_l30 R a0 zF i1 i2 i3 (0 : Int32) (0 : Int32) M1)
      else
        (some ((-1 : Int32), M1))))
theorem mc_X11_odds (l : Launch) {T : zTT} {R : zRR} {a0 : Nat} (h0 : zi11 T R a0) (i1 : Int32) (i2 : Int32) (i3 : Int32) (M : zMem) : zMS l yX11_odds mi_X11_odds zrvI (mf_X11_odds R a0 i1 i2 i3 M) [.ref a0, .int i1, .int i2, .int i3] T R M := by
  refine zMS.of (by decide +kernel) rfl ⟨rfl, rfl⟩ (Nat.le_of_ble_eq_true rfl) (fun C ad _ => ?_)
  show zX C mi_X11_odds (zFin C zrvI ad T R) 0 0 (mf_X11_odds R a0 i1 i2 i3 M) 0 [(0, .ref a0), (1, .int i1), (2, .int i2), (3, .int i3)] [] ad T R M
  unfold mf_X11_odds
  refine zx_aload_n (i := 0) (zd me_X11_odds 0 rfl) rfl 0 rfl ?_
  refine zx_getR (zd me_X11_odds 1 rfl) fl_X11_19 (zi11_c h0) rfl (zi11_r1 h0) ?_
  refine zx_iload_n (i := 1) (zd me_X11_odds 2 rfl) rfl 1 rfl ?_
  refine zx_callVI1 (zd me_X11_odds 3 rfl) (mc_X7_hasSheet (zl C) (zi11_t1 h0) i1 M) lk_X11_160 ⟨(Nat.le_of_ble_eq_true rfl), (Nat.le_of_ble_eq_true rfl)⟩ (Nat.le_of_ble_eq_true rfl) (zi7_c (zi11_t1 h0)) rfl (fun r2 M1 => ?_)
  refine zx_if_eq (tgt := 22) (zd me_X11_odds 4 rfl) (by decide) (fun c3 => ?_) (fun c3 => ?_)
  · refine zx_iconst (v := (-1)) (zd me_X11_odds 11 rfl) (by decide) ?_
    exact zx_iret (zd me_X11_odds 12 rfl) rfl
  · refine zx_iload_n (i := 2) (zd me_X11_odds 5 rfl) rfl 2 rfl ?_
    refine zx_iconst (v := 1) (zd me_X11_odds 6 rfl) (by decide) ?_
    refine zx_icmp_lt (tgt := 22) (zd me_X11_odds 7 rfl) (by decide) (fun c4 => ?_) (fun c4 => ?_)
    · refine zx_iconst (v := (-1)) (zd me_X11_odds 11 rfl) (by decide) ?_
      exact zx_iret (zd me_X11_odds 12 rfl) rfl
    · refine zx_iload_n (i := 2) (zd me_X11_odds 8 rfl) rfl 2 rfl ?_
      refine zx_bipush (v := 30) (zd me_X11_odds 9 rfl) (by decide) ?_
      refine zx_icmp_le (tgt := 24) (zd me_X11_odds 10 rfl) (by decide) (fun c5 => ?_) (fun c5 => ?_)
      · refine zx_iconst (v := 0) (zd me_X11_odds 13 rfl) (by decide) ?_
        refine zx_istore (ls' := [(4, .int (0 : Int32)), (0, .ref a0), (1, .int i1), (2, .int i2), (3, .int i3)]) (zd me_X11_odds 14 rfl) (Nat.le_of_ble_eq_true rfl) rfl ?_
        refine zx_iconst (v := 0) (zd me_X11_odds 15 rfl) (by decide) ?_
        refine zx_istore (ls' := [(5, .int (0 : Int32)), (4, .int (0 : Int32)), (0, .ref a0), (1, .int i1), (2, .int i2), (3, .int i3)]) (zd me_X11_odds 16 rfl) (Nat.le_of_ble_eq_true rfl) rfl ?_
        refine zx_loc [2, 3, 4, 5, 1, 0] rfl ?_
        exact mt_X11_odds_l30 h0 zF i1 i2 i3 (0 : Int32) (0 : Int32) M1
      · refine zx_iconst (v := (-1)) (zd me_X11_odds 11 rfl) (by decide) ?_
        exact zx_iret (zd me_X11_odds 12 rfl) rfl
def mf_X11_book_b118 (R : zRR) (a0 : Nat) (M : zMem) : Option (Int32 × zMem) :=
  if (M.1 (zrf R a0 7) 4) = 0 then
    (some ((-1 : Int32), M))
  else
    (some ((M.1 (zrf R a0 7) 5), M))
theorem mt_X11_book_b118 {C : zCx} {ad : Nat → Nat} {T : zTT} {R : zRR} {a0 : Nat} (h0 : zi11 T R a0) (M : zMem) : zX C mi_X11_book (zFin C zrvI ad T R) 0 0 (mf_X11_book_b118 R a0 M) 118 [(0, .ref a0)] [] ad T R M := by
  unfold mf_X11_book_b118
  refine zx_aload_n (i := 0) (zd me_X11_book 57 rfl) rfl 0 rfl ?_
  refine zx_getR (zd me_X11_book 58 rfl) fl_X11_51 (zi11_c h0) rfl (zi11_r7 h0) ?_
  refine zx_getI (zd me_X11_book 59 rfl) fl_X11_326 (zi0_c (zi11_t7 h0)) rfl ?_
  refine zx_if_ne (tgt := 132) (zd me_X11_book 60 rfl) (by decide) (fun c19 => ?_) (fun c19 => ?_)
  · refine zx_aload_n (i := 0) (zd me_X11_book 63 rfl) rfl 0 rfl ?_
    refine zx_getR (zd me_X11_book 64 rfl) fl_X11_51 (zi11_c h0) rfl (zi11_r7 h0) ?_
    refine zx_getI (zd me_X11_book 65 rfl) fl_X11_323 (zi0_c (zi11_t7 h0)) rfl ?_
    exact zx_iret (zd me_X11_book 66 rfl) rfl
  · refine zx_iconst (v := (-1)) (zd me_X11_book 61 rfl) (by decide) ?_
    refine zx_goto (tgt := 139) (zd me_X11_book 62 rfl) (by decide) ?_
    exact zx_iret (zd me_X11_book 66 rfl) rfl
def mf_X11_book_b13 (R : zRR) (a0 : Nat) (i1 : Int32) (M : zMem) : Option (Int32 × zMem) :=
  zcl (mf_X0_readLines R (zrf R a0 7) (zrf R a0 0) (zrf R a0 1) M) fun r4 M3 =>
  zlet (zwI M3 (zrf R a0 0) 1 (0 : Int32)) fun M5 =>
  if r4 = 0 then
    (some (((-2 : Int32) - (M5.1 (zrf R a0 0) 3)), M5))
  else
    (zcl (mf_X3_copyFrom R (zrf R a0 4) (zrf R a0 3) M5) fun _ M7 =>
    zcl (mf_X0_live R (zrf R a0 7) (zrf R a0 4) M7) fun _ M9 =>
    if i1 = (1 : Int32) then
      (if (M9.1 (zrf R a0 7) 5) ≤ 0 then
        (mf_X11_book_b118 R a0 M9)
      else
        (zcl (mf_X5_mark R (zrf R a0 8) (zrf R a0 3) M9) fun _ M13 =>
        zcl (mf_X5_keepMarked R (zrf R a0 8) M13) fun _ M15 =>
        zcl (mf_X3_copyFrom R (zrf R a0 3) (zrf R a0 4) M15) fun _ M17 =>
        mf_X11_book_b118 R a0 M17))
    else
      (mf_X11_book_b118 R a0 M9))
theorem mt_X11_book_b13 {C : zCx} {ad : Nat → Nat} {T : zTT} {R : zRR} {a0 : Nat} (h0 : zi11 T R a0) (i1 : Int32) (M : zMem) : zX C mi_X11_book (zFin C zrvI ad T R) 0 0 (mf_X11_book_b13 R a0 i1 M) 13 [(0, .ref a0), (1, .int i1)] [] ad T R M := by
  unfold mf_X11_book_b13
  refine zx_aload_n (i := 0) (zd me_X11_book 7 rfl) rfl 0 rfl ?_
  refine zx_getR (zd me_X11_book 8 rfl) fl_X11_51 (zi11_c h0) rfl (zi11_r7 h0) ?_
  refine zx_aload_n (i := 0) (zd me_X11_book 9 rfl) rfl 0 rfl ?_
  refine zx_getR (zd me_X11_book 10 rfl) fl_X11_10 (zi11_c h0) rfl (zi11_r0 h0) ?_
  refine zx_aload_n (i := 0) (zd me_X11_book 11 rfl) rfl 0 rfl ?_
  refine zx_getR (zd me_X11_book 12 rfl) fl_X11_19 (zi11_c h0) rfl (zi11_r1 h0) ?_
  refine zx_callVI2 (zd me_X11_book 13 rfl) (mc_X0_readLines (zl C) (zi11_t7 h0) (zi11_t0 h0) (zi11_t1 h0) M) lk_X11_317 ⟨(Nat.le_of_ble_eq_true rfl), (Nat.le_of_ble_eq_true rfl)⟩ (Nat.le_of_ble_eq_true rfl) (zi0_c (zi11_t7 h0)) rfl (fun r4 M3 => ?_)
  refine zx_istore_n (i := 2) (ls' := [(2, .int r4), (0, .ref a0), (1, .int i1)]) (zd me_X11_book 14 rfl) rfl (Nat.le_of_ble_eq_true rfl) rfl ?_
  refine zx_aload_n (i := 0) (zd me_X11_book 15 rfl) rfl 1 rfl ?_
  refine zx_getR (zd me_X11_book 16 rfl) fl_X11_10 (zi11_c h0) rfl (zi11_r0 h0) ?_
  refine zx_iconst (v := 0) (zd me_X11_book 17 rfl) (by decide) ?_
  refine zx_putI (zd me_X11_book 18 rfl) fp_X11_99 (zi10_c (zi11_t0 h0)) rfl (fun M5 _ => ?_)
  refine zx_iload_n (i := 2) (zd me_X11_book 19 rfl) rfl 0 rfl ?_
  refine zx_if_ne (tgt := 52) (zd me_X11_book 20 rfl) (by decide) (fun c6 => ?_) (fun c6 => ?_)
  · refine zx_aload_n (i := 0) (zd me_X11_book 27 rfl) rfl 1 rfl ?_
    refine zx_getR (zd me_X11_book 28 rfl) fl_X11_35 (zi11_c h0) rfl (zi11_r4 h0) ?_
    refine zx_aload_n (i := 0) (zd me_X11_book 29 rfl) rfl 1 rfl ?_
    refine zx_getR (zd me_X11_book 30 rfl) fl_X11_31 (zi11_c h0) rfl (zi11_r3 h0) ?_
    refine zx_callVV1 (zd me_X11_book 31 rfl) (mc_X3_copyFrom (zl C) (zi11_t4 h0) (zi11_t3 h0) M5) lk_X11_281 ⟨(Nat.le_of_ble_eq_true rfl), (Nat.le_of_ble_eq_true rfl)⟩ (Nat.le_of_ble_eq_true rfl) (zi3_c (zi11_t4 h0)) rfl (fun r8 M7 => ?_)
    refine zx_aload_n (i := 0) (zd me_X11_book 32 rfl) rfl 1 rfl ?_
    refine zx_getR (zd me_X11_book 33 rfl) fl_X11_51 (zi11_c h0) rfl (zi11_r7 h0) ?_
    refine zx_aload_n (i := 0) (zd me_X11_book 34 rfl) rfl 1 rfl ?_
    refine zx_getR (zd me_X11_book 35 rfl) fl_X11_35 (zi11_c h0) rfl (zi11_r4 h0) ?_
    refine zx_callVV1 (zd me_X11_book 36 rfl) (mc_X0_live (zl C) (zi11_t7 h0) (zi11_t4 h0) M7) lk_X11_320 ⟨(Nat.le_of_ble_eq_true rfl), (Nat.le_of_ble_eq_true rfl)⟩ (Nat.le_of_ble_eq_true rfl) (zi0_c (zi11_t7 h0)) rfl (fun r10 M9 => ?_)
    refine zx_iload_n (i := 1) (zd me_X11_book 37 rfl) rfl 2 rfl ?_
    refine zx_iconst (v := 1) (zd me_X11_book 38 rfl) (by decide) ?_
    refine zx_icmp_ne (tgt := 118) (zd me_X11_book 39 rfl) (by decide) (fun c11 => ?_) (fun c11 => ?_)
    · refine zx_loc [1] rfl ?_
      exact mt_X11_book_b118 h0 M9
    · refine zx_aload_n (i := 0) (zd me_X11_book 40 rfl) rfl 1 rfl ?_
      refine zx_getR (zd me_X11_book 41 rfl) fl_X11_51 (zi11_c h0) rfl (zi11_r7 h0) ?_
      refine zx_getI (zd me_X11_book 42 rfl) fl_X11_323 (zi0_c (zi11_t7 h0)) rfl ?_
      refine zx_if_le (tgt := 118) (zd me_X11_book 43 rfl) (by decide) (fun c12 => ?_) (fun c12 => ?_)
      · refine zx_loc [1] rfl ?_
        exact mt_X11_book_b118 h0 M9
      · refine zx_aload_n (i := 0) (zd me_X11_book 44 rfl) rfl 1 rfl ?_
        refine zx_getR (zd me_X11_book 45 rfl) fl_X11_58 (zi11_c h0) rfl (zi11_r8 h0) ?_
        refine zx_aload_n (i := 0) (zd me_X11_book 46 rfl) rfl 1 rfl ?_
        refine zx_getR (zd me_X11_book 47 rfl) fl_X11_31 (zi11_c h0) rfl (zi11_r3 h0) ?_
        refine zx_callVV1 (zd me_X11_book 48 rfl) (mc_X5_mark (zl C) (zi11_t8 h0) (zi11_t3 h0) M9) lk_X11_188 ⟨(Nat.le_of_ble_eq_true rfl), (Nat.le_of_ble_eq_true rfl)⟩ (Nat.le_of_ble_eq_true rfl) (zi5_c (zi11_t8 h0)) rfl (fun r14 M13 => ?_)
        refine zx_aload_n (i := 0) (zd me_X11_book 49 rfl) rfl 1 rfl ?_
        refine zx_getR (zd me_X11_book 50 rfl) fl_X11_58 (zi11_c h0) rfl (zi11_r8 h0) ?_
        refine zx_callVV0 (zd me_X11_book 51 rfl) (mc_X5_keepMarked (zl C) (zi11_t8 h0) M13) lk_X11_207 ⟨(Nat.le_of_ble_eq_true rfl), (Nat.le_of_ble_eq_true rfl)⟩ (Nat.le_of_ble_eq_true rfl) (zi5_c (zi11_t8 h0)) rfl (fun r16 M15 => ?_)
        refine zx_aload_n (i := 0) (zd me_X11_book 52 rfl) rfl 1 rfl ?_
        refine zx_getR (zd me_X11_book 53 rfl) fl_X11_31 (zi11_c h0) rfl (zi11_r3 h0) ?_
        refine zx_aload_n (i := 0) (zd me_X11_book 54 rfl) rfl 1 rfl ?_
        refine zx_getR (zd me_X11_book 55 rfl) fl_X11_35 (zi11_c h0) rfl (zi11_r4 h0) ?_
        refine zx_callVV1 (zd me_X11_book 56 rfl) (mc_X3_copyFrom (zl C) (zi11_t3 h0) (zi11_t4 h0) M15) lk_X11_281 ⟨(Nat.le_of_ble_eq_true rfl), (Nat.le_of_ble_eq_true rfl)⟩ (Nat.le_of_ble_eq_true rfl) (zi3_c (zi11_t3 h0)) rfl (fun r18 M17 => ?_)
        refine zx_loc [1] rfl ?_
        exact mt_X11_book_b118 h0 M17
  · refine zx_bipush (v := (-2)) (zd me_X11_book 21 rfl) (by decide) ?_
    refine zx_aload_n (i := 0) (zd me_X11_book 22 rfl) rfl 1 rfl ?_
    refine zx_getR (zd me_X11_book 23 rfl) fl_X11_10 (zi11_c h0) rfl (zi11_r0 h0) ?_
    refine zx_getI (zd me_X11_book 24 rfl) fl_X11_114 (zi10_c (zi11_t0 h0)) rfl ?_
    refine zx_isub (zd me_X11_book 25 rfl) ?_
    exact zx_iret (zd me_X11_book 26 rfl) rfl
def mf_X11_book (R : zRR) (a0 : Nat) (i1 : Int32) (M : zMem) : Option (Int32 × zMem) :=
  if i1 = 0 then
    (mf_X11_book_b13 R a0 i1 M)
  else
    (if i1 = (1 : Int32) then
      (mf_X11_book_b13 R a0 i1 M)
    else
      (some ((-1000 : Int32), M)))
theorem mc_X11_book (l : Launch) {T : zTT} {R : zRR} {a0 : Nat} (h0 : zi11 T R a0) (i1 : Int32) (M : zMem) : zMS l yX11_book mi_X11_book zrvI (mf_X11_book R a0 i1 M) [.ref a0, .int i1] T R M := by
  refine zMS.of (by decide +kernel) rfl ⟨rfl, rfl⟩ (Nat.le_of_ble_eq_true rfl) (fun C ad _ => ?_)
  show zX C mi_X11_book (zFin C zrvI ad T R) 0 0 (mf_X11_book R a0 i1 M) 0 [(0, .ref a0), (1, .int i1)] [] ad T R M
  unfold mf_X11_book
  refine zx_iload_n (i := 1) (zd me_X11_book 0 rfl) rfl 1 rfl ?_
  refine zx_if_eq (tgt := 13) (zd me_X11_book 1 rfl) (by decide) (fun c1 => ?_) (fun c1 => ?_)
  · exact mt_X11_book_b13 h0 i1 M
  · refine zx_iload_n (i := 1) (zd me_X11_book 2 rfl) rfl 1 rfl ?_
    refine zx_iconst (v := 1) (zd me_X11_book 3 rfl) (by decide) ?_
    refine zx_icmp_eq (tgt := 13) (zd me_X11_book 4 rfl) (by decide) (fun c2 => ?_) (fun c2 => ?_)
    · exact mt_X11_book_b13 h0 i1 M
    · refine zx_sipush (v := (-1000)) (zd me_X11_book 5 rfl) (by decide) ?_
      exact zx_iret (zd me_X11_book 6 rfl) rfl
def mf_X11_told (R : zRR) (a0 : Nat) (i1 : Int32) (M : zMem) : Option (Int32 × zMem) :=
  zcl (mf_X0_tell R (zrf R a0 7) i1 M) fun r2 M1 =>
  some (r2, M1)
theorem mc_X11_told (l : Launch) {T : zTT} {R : zRR} {a0 : Nat} (h0 : zi11 T R a0) (i1 : Int32) (M : zMem) : zMS l yX11_told mi_X11_told zrvI (mf_X11_told R a0 i1 M) [.ref a0, .int i1] T R M := by
  refine zMS.of (by decide +kernel) rfl ⟨rfl, rfl⟩ (Nat.le_of_ble_eq_true rfl) (fun C ad _ => ?_)
  show zX C mi_X11_told (zFin C zrvI ad T R) 0 0 (mf_X11_told R a0 i1 M) 0 [(0, .ref a0), (1, .int i1)] [] ad T R M
  unfold mf_X11_told
  refine zx_aload_n (i := 0) (zd me_X11_told 0 rfl) rfl 0 rfl ?_
  refine zx_getR (zd me_X11_told 1 rfl) fl_X11_51 (zi11_c h0) rfl (zi11_r7 h0) ?_
  refine zx_iload_n (i := 1) (zd me_X11_told 2 rfl) rfl 1 rfl ?_
  refine zx_callVI1 (zd me_X11_told 3 rfl) (mc_X0_tell (zl C) (zi11_t7 h0) i1 M) lk_X11_329 ⟨(Nat.le_of_ble_eq_true rfl), (Nat.le_of_ble_eq_true rfl)⟩ (Nat.le_of_ble_eq_true rfl) (zi0_c (zi11_t7 h0)) rfl (fun r2 M1 => ?_)
  exact zx_iret (zd me_X11_told 4 rfl) rfl
def mf_X11_sentence (R : zRR) (a0 : Nat) (M : zMem) : Option (Int32 × zMem) :=
  zcl (mf_X8_readAll R (zrf R a0 6) (zrf R a0 0) (zrf R a0 1) M) fun r2 M1 =>
  zlet (zwI M1 (zrf R a0 0) 1 (0 : Int32)) fun M3 =>
  if r2 = 0 then
    (some (((-1 : Int32) - (M3.1 (zrf R a0 0) 3)), M3))
  else
    (zcl (mf_X8_copyFrom R (zrf R a0 5) (zrf R a0 6) M3) fun _ M5 =>
    some ((M5.1 (zrf R a0 5) 0), M5))
theorem mc_X11_sentence (l : Launch) {T : zTT} {R : zRR} {a0 : Nat} (h0 : zi11 T R a0) (M : zMem) : zMS l yX11_sentence mi_X11_sentence zrvI (mf_X11_sentence R a0 M) [.ref a0] T R M := by
  refine zMS.of (by decide +kernel) rfl ⟨rfl, rfl⟩ (Nat.le_of_ble_eq_true rfl) (fun C ad _ => ?_)
  show zX C mi_X11_sentence (zFin C zrvI ad T R) 0 0 (mf_X11_sentence R a0 M) 0 [(0, .ref a0)] [] ad T R M
  unfold mf_X11_sentence
  refine zx_aload_n (i := 0) (zd me_X11_sentence 0 rfl) rfl 0 rfl ?_
  refine zx_getR (zd me_X11_sentence 1 rfl) fl_X11_45 (zi11_c h0) rfl (zi11_r6 h0) ?_
  refine zx_aload_n (i := 0) (zd me_X11_sentence 2 rfl) rfl 0 rfl ?_
  refine zx_getR (zd me_X11_sentence 3 rfl) fl_X11_10 (zi11_c h0) rfl (zi11_r0 h0) ?_
  refine zx_aload_n (i := 0) (zd me_X11_sentence 4 rfl) rfl 0 rfl ?_
  refine zx_getR (zd me_X11_sentence 5 rfl) fl_X11_19 (zi11_c h0) rfl (zi11_r1 h0) ?_
  refine zx_callVI2 (zd me_X11_sentence 6 rfl) (mc_X8_readAll (zl C) (zi11_t6 h0) (zi11_t0 h0) (zi11_t1 h0) M) lk_X11_332 ⟨(Nat.le_of_ble_eq_true rfl), (Nat.le_of_ble_eq_true rfl)⟩ (Nat.le_of_ble_eq_true rfl) (zi8_c (zi11_t6 h0)) rfl (fun r2 M1 => ?_)
  refine zx_istore_n (i := 1) (ls' := [(1, .int r2), (0, .ref a0)]) (zd me_X11_sentence 7 rfl) rfl (Nat.le_of_ble_eq_true rfl) rfl ?_
  refine zx_aload_n (i := 0) (zd me_X11_sentence 8 rfl) rfl 1 rfl ?_
  refine zx_getR (zd me_X11_sentence 9 rfl) fl_X11_10 (zi11_c h0) rfl (zi11_r0 h0) ?_
  refine zx_iconst (v := 0) (zd me_X11_sentence 10 rfl) (by decide) ?_
  refine zx_putI (zd me_X11_sentence 11 rfl) fp_X11_99 (zi10_c (zi11_t0 h0)) rfl (fun M3 _ => ?_)
  refine zx_iload_n (i := 1) (zd me_X11_sentence 12 rfl) rfl 0 rfl ?_
  refine zx_if_ne (tgt := 38) (zd me_X11_sentence 13 rfl) (by decide) (fun c4 => ?_) (fun c4 => ?_)
  · refine zx_aload_n (i := 0) (zd me_X11_sentence 20 rfl) rfl 1 rfl ?_
    refine zx_getR (zd me_X11_sentence 21 rfl) fl_X11_41 (zi11_c h0) rfl (zi11_r5 h0) ?_
    refine zx_aload_n (i := 0) (zd me_X11_sentence 22 rfl) rfl 1 rfl ?_
    refine zx_getR (zd me_X11_sentence 23 rfl) fl_X11_45 (zi11_c h0) rfl (zi11_r6 h0) ?_
    refine zx_callVV1 (zd me_X11_sentence 24 rfl) (mc_X8_copyFrom (zl C) (zi11_t5 h0) (zi11_t6 h0) M3) lk_X11_335 ⟨(Nat.le_of_ble_eq_true rfl), (Nat.le_of_ble_eq_true rfl)⟩ (Nat.le_of_ble_eq_true rfl) (zi8_c (zi11_t5 h0)) rfl (fun r6 M5 => ?_)
    refine zx_aload_n (i := 0) (zd me_X11_sentence 25 rfl) rfl 1 rfl ?_
    refine zx_getR (zd me_X11_sentence 26 rfl) fl_X11_41 (zi11_c h0) rfl (zi11_r5 h0) ?_
    refine zx_getI (zd me_X11_sentence 27 rfl) fl_X11_338 (zi8_c (zi11_t5 h0)) rfl ?_
    exact zx_iret (zd me_X11_sentence 28 rfl) rfl
  · refine zx_iconst (v := (-1)) (zd me_X11_sentence 14 rfl) (by decide) ?_
    refine zx_aload_n (i := 0) (zd me_X11_sentence 15 rfl) rfl 1 rfl ?_
    refine zx_getR (zd me_X11_sentence 16 rfl) fl_X11_10 (zi11_c h0) rfl (zi11_r0 h0) ?_
    refine zx_getI (zd me_X11_sentence 17 rfl) fl_X11_114 (zi10_c (zi11_t0 h0)) rfl ?_
    refine zx_isub (zd me_X11_sentence 18 rfl) ?_
    exact zx_iret (zd me_X11_sentence 19 rfl) rfl
def mf_X11_bitAt_b28 (R : zRR) (H4 : Int32 → Int32 → Int32 → Int32 → zMem → Option (Int32 × zMem)) (i0 : Int32) (i1 : Int32) (i2 : Int32) (i3 : Int32) (M : zMem) : Option (Int32 × zMem) :=
  H4 i0 i1 i2 (i3 + 1) M
theorem mt_X11_bitAt_b28 {C : zCx} {ad : Nat → Nat} {T : zTT} {R : zRR}  {H4 : Int32 → Int32 → Int32 → Int32 → zMem → Option (Int32 × zMem)} (hH4 : ∀ (i0 : Int32) (i1 : Int32) (i2 : Int32) (i3 : Int32) (M : zMem), zX C mi_X11_bitAt (zFin C zrvI ad T R) 0 0 (H4 i0 i1 i2 i3 M) 4 [(0, .int i0), (1, .int i1), (2, .int i2), (3, .int i3)] [] ad T R M) (i0 : Int32) (i1 : Int32) (i2 : Int32) (i3 : Int32) (M : zMem) : zX C mi_X11_bitAt (zFin C zrvI ad T R) 0 0 (mf_X11_bitAt_b28 R H4 i0 i1 i2 i3 M) 28 [(0, .int i0), (1, .int i1), (2, .int i2), (3, .int i3)] [] ad T R M := by
  unfold mf_X11_bitAt_b28
  refine zx_iinc (v := 1) (ls' := [(3, .int (i3 + 1)), (0, .int i0), (1, .int i1), (2, .int i2)]) (zd me_X11_bitAt 19 rfl) (Nat.le_of_ble_eq_true rfl) 3 rfl (by decide) rfl ?_
  refine zx_goto (tgt := 4) (zd me_X11_bitAt 20 rfl) (by decide) ?_
  refine zx_loc [1, 2, 3, 0] rfl ?_
  exact hH4 i0 i1 i2 (i3 + 1) M
def mf_X11_bitAt_l4 (R : zRR) : Nat → Int32 → Int32 → Int32 → Int32 → zMem → Option (Int32 × zMem)
  | 0, _, _, _, _, _ => none
  | fuel + 1, i0, i1, i2, i3, M =>
    if (8 : Int32) ≤ i3 then
      (some ((-1 : Int32), M))
    else
      (if ((i0 >>> (i3 &&& 31)) &&& (1 : Int32)) = 0 then
        (mf_X11_bitAt_b28 R (mf_X11_bitAt_l4 R fuel) i0 i1 i2 i3 M)
      else
        (if i2 = i1 then
          (some (i3, M))
        else
          (mf_X11_bitAt_b28 R (mf_X11_bitAt_l4 R fuel) i0 i1 (i2 + 1) i3 M)))
theorem mt_X11_bitAt_l4 {C : zCx} {ad : Nat → Nat} {T : zTT} {R : zRR}  : ∀ (fuel : Nat) (i0 : Int32) (i1 : Int32) (i2 : Int32) (i3 : Int32) (M : zMem), zX C mi_X11_bitAt (zFin C zrvI ad T R) 0 0 (mf_X11_bitAt_l4 R fuel i0 i1 i2 i3 M) 4 [(0, .int i0), (1, .int i1), (2, .int i2), (3, .int i3)] [] ad T R M := by
  intro fuel
  induction fuel with
  | zero => intros; exact zx_none
  | succ fuel ih =>
    intro i0 i1 i2 i3 M
    rw [mf_X11_bitAt_l4]
    refine zx_iload_n (i := 3) (zd me_X11_bitAt 4 rfl) rfl 3 rfl ?_
    refine zx_bipush (v := 8) (zd me_X11_bitAt 5 rfl) (by decide) ?_
    refine zx_icmp_ge (tgt := 34) (zd me_X11_bitAt 6 rfl) (by decide) (fun c1 => ?_) (fun c1 => ?_)
    · refine zx_iconst (v := (-1)) (zd me_X11_bitAt 21 rfl) (by decide) ?_
      exact zx_iret (zd me_X11_bitAt 22 rfl) rfl
    · refine zx_iload_n (i := 0) (zd me_X11_bitAt 7 rfl) rfl 0 rfl ?_
      refine zx_iload_n (i := 3) (zd me_X11_bitAt 8 rfl) rfl 3 rfl ?_
      refine zx_ishr (zd me_X11_bitAt 9 rfl) ?_
      refine zx_iconst (v := 1) (zd me_X11_bitAt 10 rfl) (by decide) ?_
      refine zx_iand (zd me_X11_bitAt 11 rfl) ?_
      refine zx_if_eq (tgt := 28) (zd me_X11_bitAt 12 rfl) (by decide) (fun c2 => ?_) (fun c2 => ?_)
      · exact mt_X11_bitAt_b28 ih i0 i1 i2 i3 M
      · refine zx_iload_n (i := 2) (zd me_X11_bitAt 13 rfl) rfl 2 rfl ?_
        refine zx_iload_n (i := 1) (zd me_X11_bitAt 14 rfl) rfl 1 rfl ?_
        refine zx_icmp_ne (tgt := 25) (zd me_X11_bitAt 15 rfl) (by decide) (fun c3 => ?_) (fun c3 => ?_)
        · refine zx_iinc (v := 1) (ls' := [(2, .int (i2 + 1)), (0, .int i0), (1, .int i1), (3, .int i3)]) (zd me_X11_bitAt 18 rfl) (Nat.le_of_ble_eq_true rfl) 2 rfl (by decide) rfl ?_
          refine zx_loc [1, 2, 0, 3] rfl ?_
          exact mt_X11_bitAt_b28 ih i0 i1 (i2 + 1) i3 M
        · refine zx_iload_n (i := 3) (zd me_X11_bitAt 16 rfl) rfl 3 rfl ?_
          exact zx_iret (zd me_X11_bitAt 17 rfl) rfl
def mf_X11_bitAt (R : zRR) (i0 : Int32) (i1 : Int32) (M : zMem) : Option (Int32 × zMem) :=
  mf_X11_bitAt_l4 R zF i0 i1 (0 : Int32) (0 : Int32) M
theorem mc_X11_bitAt (l : Launch) {T : zTT} {R : zRR}  (i0 : Int32) (i1 : Int32) (M : zMem) : zMS l yX11_bitAt mi_X11_bitAt zrvI (mf_X11_bitAt R i0 i1 M) [.int i0, .int i1] T R M := by
  refine zMS.of (by decide +kernel) rfl ⟨rfl, rfl⟩ (Nat.le_of_ble_eq_true rfl) (fun C ad _ => ?_)
  show zX C mi_X11_bitAt (zFin C zrvI ad T R) 0 0 (mf_X11_bitAt R i0 i1 M) 0 [(0, .int i0), (1, .int i1)] [] ad T R M
  unfold mf_X11_bitAt
  refine zx_iconst (v := 0) (zd me_X11_bitAt 0 rfl) (by decide) ?_
  refine zx_istore_n (i := 2) (ls' := [(2, .int (0 : Int32)), (0, .int i0), (1, .int i1)]) (zd me_X11_bitAt 1 rfl) rfl (Nat.le_of_ble_eq_true rfl) rfl ?_
  refine zx_iconst (v := 0) (zd me_X11_bitAt 2 rfl) (by decide) ?_
  refine zx_istore_n (i := 3) (ls' := [(3, .int (0 : Int32)), (2, .int (0 : Int32)), (0, .int i0), (1, .int i1)]) (zd me_X11_bitAt 3 rfl) rfl (Nat.le_of_ble_eq_true rfl) rfl ?_
  refine zx_loc [2, 3, 1, 0] rfl ?_
  exact mt_X11_bitAt_l4 zF i0 i1 (0 : Int32) (0 : Int32) M
def mf_X11_said (R : zRR) (a0 : Nat) (i1 : Int32) (M : zMem) : Option (Int32 × zMem) :=
  if (M.1 (zrf R a0 5) 0) = 0 then
    (some ((-1 : Int32), M))
  else
    (if (-1 : Int32) ≤ i1 then
      (zcl (mf_X8_sheetsOf R (zrf R a0 5) (zrf R a0 1) (zrf R a0 3) M) fun r4 M3 =>
      if i1 = (-1 : Int32) then
        (zcl (mf_J6_bitCount_0f7a4 R r4 M3) fun r9 M8 =>
        some (r9, M8))
      else
        (zcl (mf_X11_bitAt R r4 i1 M3) fun r7 M6 =>
        some (r7, M6)))
    else
      (some ((-1 : Int32), M)))
theorem mc_X11_said (l : Launch) {T : zTT} {R : zRR} {a0 : Nat} (h0 : zi11 T R a0) (i1 : Int32) (M : zMem) : zMS l yX11_said mi_X11_said zrvI (mf_X11_said R a0 i1 M) [.ref a0, .int i1] T R M := by
  refine zMS.of (by decide +kernel) rfl ⟨rfl, rfl⟩ (Nat.le_of_ble_eq_true rfl) (fun C ad _ => ?_)
  show zX C mi_X11_said (zFin C zrvI ad T R) 0 0 (mf_X11_said R a0 i1 M) 0 [(0, .ref a0), (1, .int i1)] [] ad T R M
  unfold mf_X11_said
  refine zx_aload_n (i := 0) (zd me_X11_said 0 rfl) rfl 0 rfl ?_
  refine zx_getR (zd me_X11_said 1 rfl) fl_X11_41 (zi11_c h0) rfl (zi11_r5 h0) ?_
  refine zx_getI (zd me_X11_said 2 rfl) fl_X11_338 (zi8_c (zi11_t5 h0)) rfl ?_
  refine zx_if_eq (tgt := 15) (zd me_X11_said 3 rfl) (by decide) (fun c1 => ?_) (fun c1 => ?_)
  · refine zx_iconst (v := (-1)) (zd me_X11_said 7 rfl) (by decide) ?_
    exact zx_iret (zd me_X11_said 8 rfl) rfl
  · refine zx_iload_n (i := 1) (zd me_X11_said 4 rfl) rfl 1 rfl ?_
    refine zx_iconst (v := (-1)) (zd me_X11_said 5 rfl) (by decide) ?_
    refine zx_icmp_ge (tgt := 17) (zd me_X11_said 6 rfl) (by decide) (fun c2 => ?_) (fun c2 => ?_)
    · refine zx_aload_n (i := 0) (zd me_X11_said 9 rfl) rfl 0 rfl ?_
      refine zx_getR (zd me_X11_said 10 rfl) fl_X11_41 (zi11_c h0) rfl (zi11_r5 h0) ?_
      refine zx_aload_n (i := 0) (zd me_X11_said 11 rfl) rfl 0 rfl ?_
      refine zx_getR (zd me_X11_said 12 rfl) fl_X11_19 (zi11_c h0) rfl (zi11_r1 h0) ?_
      refine zx_aload_n (i := 0) (zd me_X11_said 13 rfl) rfl 0 rfl ?_
      refine zx_getR (zd me_X11_said 14 rfl) fl_X11_31 (zi11_c h0) rfl (zi11_r3 h0) ?_
      refine zx_callVI2 (zd me_X11_said 15 rfl) (mc_X8_sheetsOf (zl C) (zi11_t5 h0) (zi11_t1 h0) (zi11_t3 h0) M) lk_X11_341 ⟨(Nat.le_of_ble_eq_true rfl), (Nat.le_of_ble_eq_true rfl)⟩ (Nat.le_of_ble_eq_true rfl) (zi8_c (zi11_t5 h0)) rfl (fun r4 M3 => ?_)
      refine zx_istore_n (i := 2) (ls' := [(2, .int r4), (0, .ref a0), (1, .int i1)]) (zd me_X11_said 16 rfl) rfl (Nat.le_of_ble_eq_true rfl) rfl ?_
      refine zx_iload_n (i := 1) (zd me_X11_said 17 rfl) rfl 2 rfl ?_
      refine zx_iconst (v := (-1)) (zd me_X11_said 18 rfl) (by decide) ?_
      refine zx_icmp_ne (tgt := 45) (zd me_X11_said 19 rfl) (by decide) (fun c5 => ?_) (fun c5 => ?_)
      · refine zx_iload_n (i := 2) (zd me_X11_said 23 rfl) rfl 0 rfl ?_
        refine zx_iload_n (i := 1) (zd me_X11_said 24 rfl) rfl 2 rfl ?_
        refine zx_callSI2 (zd me_X11_said 25 rfl) (mc_X11_bitAt (zl C) r4 i1 M3) lk_X11_350 ⟨(Nat.le_of_ble_eq_true rfl), (Nat.le_of_ble_eq_true rfl)⟩ (Nat.le_of_ble_eq_true rfl) (fun r7 M6 => ?_)
        exact zx_iret (zd me_X11_said 26 rfl) rfl
      · refine zx_iload_n (i := 2) (zd me_X11_said 20 rfl) rfl 0 rfl ?_
        refine zx_callSI1 (zd me_X11_said 21 rfl) (mc_J6_bitCount_0f7a4 (zl C) r4 M3) lk_X11_345 ⟨(Nat.le_of_ble_eq_true rfl), (Nat.le_of_ble_eq_true rfl)⟩ (Nat.le_of_ble_eq_true rfl) (fun r9 M8 => ?_)
        refine zx_goto (tgt := 50) (zd me_X11_said 22 rfl) (by decide) ?_
        exact zx_iret (zd me_X11_said 26 rfl) rfl
    · refine zx_iconst (v := (-1)) (zd me_X11_said 7 rfl) (by decide) ?_
      exact zx_iret (zd me_X11_said 8 rfl) rfl
def mf_X11_image (R : zRR) (a0 : Nat) (i1 : Int32) (M : zMem) : Option (Int32 × zMem) :=
  if i1 < 0 then
    (some ((0 : Int32), M))
  else
    (if i1 < (2 : Int32) then
      (zald 2 i1 fun j3 =>
      zcl (mf_X2_keep R (zrf R (zrf R a0 13) j3) (zrf R a0 1) (zrf R a0 3) (zrf R a0 5) M) fun _ M4 =>
      some ((1 : Int32), M4))
    else
      (some ((0 : Int32), M)))
theorem mc_X11_image (l : Launch) {T : zTT} {R : zRR} {a0 : Nat} (h0 : zi11 T R a0) (i1 : Int32) (M : zMem) : zMS l yX11_image mi_X11_image zrvI (mf_X11_image R a0 i1 M) [.ref a0, .int i1] T R M := by
  refine zMS.of (by decide +kernel) rfl ⟨rfl, rfl⟩ (Nat.le_of_ble_eq_true rfl) (fun C ad _ => ?_)
  show zX C mi_X11_image (zFin C zrvI ad T R) 0 0 (mf_X11_image R a0 i1 M) 0 [(0, .ref a0), (1, .int i1)] [] ad T R M
  unfold mf_X11_image
  refine zx_iload_n (i := 1) (zd me_X11_image 0 rfl) rfl 1 rfl ?_
  refine zx_if_lt (tgt := 13) (zd me_X11_image 1 rfl) (by decide) (fun c1 => ?_) (fun c1 => ?_)
  · refine zx_iconst (v := 0) (zd me_X11_image 7 rfl) (by decide) ?_
    exact zx_zret (zd me_X11_image 8 rfl) rfl rfl
  · refine zx_iload_n (i := 1) (zd me_X11_image 2 rfl) rfl 1 rfl ?_
    refine zx_aload_n (i := 0) (zd me_X11_image 3 rfl) rfl 0 rfl ?_
    refine zx_getR (zd me_X11_image 4 rfl) fl_X11_94 (zi11_c h0) rfl (zi11_r13 h0) ?_
    refine zx_alen (v := 2) (zd me_X11_image 5 rfl) (zi11_t13 h0).1 rfl ?_
    refine zx_icmp_lt (tgt := 15) (zd me_X11_image 6 rfl) (by decide) (fun c2 => ?_) (fun c2 => ?_)
    · refine zx_aload_n (i := 0) (zd me_X11_image 9 rfl) rfl 0 rfl ?_
      refine zx_getR (zd me_X11_image 10 rfl) fl_X11_94 (zi11_c h0) rfl (zi11_r13 h0) ?_
      refine zx_iload_n (i := 1) (zd me_X11_image 11 rfl) rfl 1 rfl ?_
      refine zx_aald (zd me_X11_image 12 rfl) (zi11_t13 h0).1 (fun j h => ((zi11_t13 h0).2 j h).1) (fun j3 hj3 => ?_)
      refine zx_aload_n (i := 0) (zd me_X11_image 13 rfl) rfl 0 rfl ?_
      refine zx_getR (zd me_X11_image 14 rfl) fl_X11_19 (zi11_c h0) rfl (zi11_r1 h0) ?_
      refine zx_aload_n (i := 0) (zd me_X11_image 15 rfl) rfl 0 rfl ?_
      refine zx_getR (zd me_X11_image 16 rfl) fl_X11_31 (zi11_c h0) rfl (zi11_r3 h0) ?_
      refine zx_aload_n (i := 0) (zd me_X11_image 17 rfl) rfl 0 rfl ?_
      refine zx_getR (zd me_X11_image 18 rfl) fl_X11_41 (zi11_c h0) rfl (zi11_r5 h0) ?_
      refine zx_callVV3 (zd me_X11_image 19 rfl) (mc_X2_keep (zl C) (((zi11_t13 h0).2 j3 hj3).2) (zi11_t1 h0) (zi11_t3 h0) (zi11_t5 h0) M) lk_X11_353 ⟨(Nat.le_of_ble_eq_true rfl), (Nat.le_of_ble_eq_true rfl)⟩ (Nat.le_of_ble_eq_true rfl) (zi2_c ((zi11_t13 h0).2 j3 hj3).2) rfl (fun r5 M4 => ?_)
      refine zx_iconst (v := 1) (zd me_X11_image 20 rfl) (by decide) ?_
      exact zx_zret (zd me_X11_image 21 rfl) rfl rfl
    · refine zx_iconst (v := 0) (zd me_X11_image 7 rfl) (by decide) ?_
      exact zx_zret (zd me_X11_image 8 rfl) rfl rfl
def mf_X11_restore (R : zRR) (a0 : Nat) (i1 : Int32) (M : zMem) : Option (Int32 × zMem) :=
  if i1 < 0 then
    (some ((0 : Int32), M))
  else
    (if (2 : Int32) ≤ i1 then
      (some ((0 : Int32), M))
    else
      (zald 2 i1 fun j3 =>
      if (M.1 (zrf R (zrf R a0 13) j3) 3) = 0 then
        (some ((0 : Int32), M))
      else
        (zald 2 i1 fun j5 =>
        zcl (mf_X2_giveBack R (zrf R (zrf R a0 13) j5) (zrf R a0 1) (zrf R a0 3) (zrf R a0 5) M) fun _ M6 =>
        zcl (mf_X5_forget R (zrf R a0 8) M6) fun _ M8 =>
        some ((1 : Int32), M8))))
theorem mc_X11_restore (l : Launch) {T : zTT} {R : zRR} {a0 : Nat} (h0 : zi11 T R a0) (i1 : Int32) (M : zMem) : zMS l yX11_restore mi_X11_restore zrvI (mf_X11_restore R a0 i1 M) [.ref a0, .int i1] T R M := by
  refine zMS.of (by decide +kernel) rfl ⟨rfl, rfl⟩ (Nat.le_of_ble_eq_true rfl) (fun C ad _ => ?_)
  show zX C mi_X11_restore (zFin C zrvI ad T R) 0 0 (mf_X11_restore R a0 i1 M) 0 [(0, .ref a0), (1, .int i1)] [] ad T R M
  unfold mf_X11_restore
  refine zx_iload_n (i := 1) (zd me_X11_restore 0 rfl) rfl 1 rfl ?_
  refine zx_if_lt (tgt := 25) (zd me_X11_restore 1 rfl) (by decide) (fun c1 => ?_) (fun c1 => ?_)
  · refine zx_iconst (v := 0) (zd me_X11_restore 13 rfl) (by decide) ?_
    exact zx_zret (zd me_X11_restore 14 rfl) rfl rfl
  · refine zx_iload_n (i := 1) (zd me_X11_restore 2 rfl) rfl 1 rfl ?_
    refine zx_aload_n (i := 0) (zd me_X11_restore 3 rfl) rfl 0 rfl ?_
    refine zx_getR (zd me_X11_restore 4 rfl) fl_X11_94 (zi11_c h0) rfl (zi11_r13 h0) ?_
    refine zx_alen (v := 2) (zd me_X11_restore 5 rfl) (zi11_t13 h0).1 rfl ?_
    refine zx_icmp_ge (tgt := 25) (zd me_X11_restore 6 rfl) (by decide) (fun c2 => ?_) (fun c2 => ?_)
    · refine zx_iconst (v := 0) (zd me_X11_restore 13 rfl) (by decide) ?_
      exact zx_zret (zd me_X11_restore 14 rfl) rfl rfl
    · refine zx_aload_n (i := 0) (zd me_X11_restore 7 rfl) rfl 0 rfl ?_
      refine zx_getR (zd me_X11_restore 8 rfl) fl_X11_94 (zi11_c h0) rfl (zi11_r13 h0) ?_
      refine zx_iload_n (i := 1) (zd me_X11_restore 9 rfl) rfl 1 rfl ?_
      refine zx_aald (zd me_X11_restore 10 rfl) (zi11_t13 h0).1 (fun j h => ((zi11_t13 h0).2 j h).1) (fun j3 hj3 => ?_)
      refine zx_getI (zd me_X11_restore 11 rfl) fl_X11_357 (zi2_c ((zi11_t13 h0).2 j3 hj3).2) rfl ?_
      refine zx_if_ne (tgt := 27) (zd me_X11_restore 12 rfl) (by decide) (fun c4 => ?_) (fun c4 => ?_)
      · refine zx_aload_n (i := 0) (zd me_X11_restore 15 rfl) rfl 0 rfl ?_
        refine zx_getR (zd me_X11_restore 16 rfl) fl_X11_94 (zi11_c h0) rfl (zi11_r13 h0) ?_
        refine zx_iload_n (i := 1) (zd me_X11_restore 17 rfl) rfl 1 rfl ?_
        refine zx_aald (zd me_X11_restore 18 rfl) (zi11_t13 h0).1 (fun j h => ((zi11_t13 h0).2 j h).1) (fun j5 hj5 => ?_)
        refine zx_aload_n (i := 0) (zd me_X11_restore 19 rfl) rfl 0 rfl ?_
        refine zx_getR (zd me_X11_restore 20 rfl) fl_X11_19 (zi11_c h0) rfl (zi11_r1 h0) ?_
        refine zx_aload_n (i := 0) (zd me_X11_restore 21 rfl) rfl 0 rfl ?_
        refine zx_getR (zd me_X11_restore 22 rfl) fl_X11_31 (zi11_c h0) rfl (zi11_r3 h0) ?_
        refine zx_aload_n (i := 0) (zd me_X11_restore 23 rfl) rfl 0 rfl ?_
        refine zx_getR (zd me_X11_restore 24 rfl) fl_X11_41 (zi11_c h0) rfl (zi11_r5 h0) ?_
        refine zx_callVV3 (zd me_X11_restore 25 rfl) (mc_X2_giveBack (zl C) (((zi11_t13 h0).2 j5 hj5).2) (zi11_t1 h0) (zi11_t3 h0) (zi11_t5 h0) M) lk_X11_361 ⟨(Nat.le_of_ble_eq_true rfl), (Nat.le_of_ble_eq_true rfl)⟩ (Nat.le_of_ble_eq_true rfl) (zi2_c ((zi11_t13 h0).2 j5 hj5).2) rfl (fun r7 M6 => ?_)
        refine zx_aload_n (i := 0) (zd me_X11_restore 26 rfl) rfl 0 rfl ?_
        refine zx_getR (zd me_X11_restore 27 rfl) fl_X11_58 (zi11_c h0) rfl (zi11_r8 h0) ?_
        refine zx_callVV0 (zd me_X11_restore 28 rfl) (mc_X5_forget (zl C) (zi11_t8 h0) M6) lk_X11_126 ⟨(Nat.le_of_ble_eq_true rfl), (Nat.le_of_ble_eq_true rfl)⟩ (Nat.le_of_ble_eq_true rfl) (zi5_c (zi11_t8 h0)) rfl (fun r9 M8 => ?_)
        refine zx_iconst (v := 1) (zd me_X11_restore 29 rfl) (by decide) ?_
        exact zx_zret (zd me_X11_restore 30 rfl) rfl rfl
      · refine zx_iconst (v := 0) (zd me_X11_restore 13 rfl) (by decide) ?_
        exact zx_zret (zd me_X11_restore 14 rfl) rfl rfl
def mf_X11_count (R : zRR) (a0 : Nat) (i1 : Int32) (M : zMem) : Option (Int32 × zMem) :=
  if i1 = 0 then
    (some ((M.1 (zrf R a0 1) 0), M))
  else
  if i1 = 1 then
    (some ((M.1 (zrf R a0 1) 1), M))
  else
  if i1 = 2 then
    (some ((M.1 (zrf R a0 1) 2), M))
  else
  if i1 = 3 then
    (some ((M.1 (zrf R a0 1) 3), M))
  else
  if i1 = 4 then
    (some ((M.1 (zrf R a0 1) 4), M))
  else
  if i1 = 5 then
    (some ((M.1 (zrf R a0 1) 5), M))
  else
  if i1 = 6 then
    (some ((M.1 (zrf R a0 0) 1), M))
  else
    (some ((-1 : Int32), M))
theorem mc_X11_count (l : Launch) {T : zTT} {R : zRR} {a0 : Nat} (h0 : zi11 T R a0) (i1 : Int32) (M : zMem) : zMS l yX11_count mi_X11_count zrvI (mf_X11_count R a0 i1 M) [.ref a0, .int i1] T R M := by
  refine zMS.of (by decide +kernel) rfl ⟨rfl, rfl⟩ (Nat.le_of_ble_eq_true rfl) (fun C ad _ => ?_)
  show zX C mi_X11_count (zFin C zrvI ad T R) 0 0 (mf_X11_count R a0 i1 M) 0 [(0, .ref a0), (1, .int i1)] [] ad T R M
  unfold mf_X11_count
  refine zx_iload_n (i := 1) (zd me_X11_count 0 rfl) rfl 1 rfl ?_
  refine zx_ite (fun c1 => ?_) (fun c1 => ?_)
  · refine zx_tin (off := 43) (tgt := 44) (zd me_X11_count 1 rfl) (by rw [c1]; decide) (by rw [c1]; decide) (by rw [c1]; rfl) (by decide) ?_
    refine zx_aload_n (i := 0) (zd me_X11_count 2 rfl) rfl 0 rfl ?_
    refine zx_getR (zd me_X11_count 3 rfl) fl_X11_19 (zi11_c h0) rfl (zi11_r1 h0) ?_
    refine zx_getI (zd me_X11_count 4 rfl) fl_X11_364 (zi7_c (zi11_t1 h0)) rfl ?_
    exact zx_iret (zd me_X11_count 5 rfl) rfl
  · refine zx_ite (fun c2 => ?_) (fun c2 => ?_)
    · refine zx_tin (off := 51) (tgt := 52) (zd me_X11_count 1 rfl) (by rw [c2]; decide) (by rw [c2]; decide) (by rw [c2]; rfl) (by decide) ?_
      refine zx_aload_n (i := 0) (zd me_X11_count 6 rfl) rfl 0 rfl ?_
      refine zx_getR (zd me_X11_count 7 rfl) fl_X11_19 (zi11_c h0) rfl (zi11_r1 h0) ?_
      refine zx_getI (zd me_X11_count 8 rfl) fl_X11_367 (zi7_c (zi11_t1 h0)) rfl ?_
      exact zx_iret (zd me_X11_count 9 rfl) rfl
    · refine zx_ite (fun c3 => ?_) (fun c3 => ?_)
      · refine zx_tin (off := 59) (tgt := 60) (zd me_X11_count 1 rfl) (by rw [c3]; decide) (by rw [c3]; decide) (by rw [c3]; rfl) (by decide) ?_
        refine zx_aload_n (i := 0) (zd me_X11_count 10 rfl) rfl 0 rfl ?_
        refine zx_getR (zd me_X11_count 11 rfl) fl_X11_19 (zi11_c h0) rfl (zi11_r1 h0) ?_
        refine zx_getI (zd me_X11_count 12 rfl) fl_X11_296 (zi7_c (zi11_t1 h0)) rfl ?_
        exact zx_iret (zd me_X11_count 13 rfl) rfl
      · refine zx_ite (fun c4 => ?_) (fun c4 => ?_)
        · refine zx_tin (off := 67) (tgt := 68) (zd me_X11_count 1 rfl) (by rw [c4]; decide) (by rw [c4]; decide) (by rw [c4]; rfl) (by decide) ?_
          refine zx_aload_n (i := 0) (zd me_X11_count 14 rfl) rfl 0 rfl ?_
          refine zx_getR (zd me_X11_count 15 rfl) fl_X11_19 (zi11_c h0) rfl (zi11_r1 h0) ?_
          refine zx_getI (zd me_X11_count 16 rfl) fl_X11_369 (zi7_c (zi11_t1 h0)) rfl ?_
          exact zx_iret (zd me_X11_count 17 rfl) rfl
        · refine zx_ite (fun c5 => ?_) (fun c5 => ?_)
          · refine zx_tin (off := 75) (tgt := 76) (zd me_X11_count 1 rfl) (by rw [c5]; decide) (by rw [c5]; decide) (by rw [c5]; rfl) (by decide) ?_
            refine zx_aload_n (i := 0) (zd me_X11_count 18 rfl) rfl 0 rfl ?_
            refine zx_getR (zd me_X11_count 19 rfl) fl_X11_19 (zi11_c h0) rfl (zi11_r1 h0) ?_
            refine zx_getI (zd me_X11_count 20 rfl) fl_X11_372 (zi7_c (zi11_t1 h0)) rfl ?_
            exact zx_iret (zd me_X11_count 21 rfl) rfl
          · refine zx_ite (fun c6 => ?_) (fun c6 => ?_)
            · refine zx_tin (off := 83) (tgt := 84) (zd me_X11_count 1 rfl) (by rw [c6]; decide) (by rw [c6]; decide) (by rw [c6]; rfl) (by decide) ?_
              refine zx_aload_n (i := 0) (zd me_X11_count 22 rfl) rfl 0 rfl ?_
              refine zx_getR (zd me_X11_count 23 rfl) fl_X11_19 (zi11_c h0) rfl (zi11_r1 h0) ?_
              refine zx_getI (zd me_X11_count 24 rfl) fl_X11_375 (zi7_c (zi11_t1 h0)) rfl ?_
              exact zx_iret (zd me_X11_count 25 rfl) rfl
            · refine zx_ite (fun c7 => ?_) (fun c7 => ?_)
              · refine zx_tin (off := 91) (tgt := 92) (zd me_X11_count 1 rfl) (by rw [c7]; decide) (by rw [c7]; decide) (by rw [c7]; rfl) (by decide) ?_
                refine zx_aload_n (i := 0) (zd me_X11_count 26 rfl) rfl 0 rfl ?_
                refine zx_getR (zd me_X11_count 27 rfl) fl_X11_10 (zi11_c h0) rfl (zi11_r0 h0) ?_
                refine zx_getI (zd me_X11_count 28 rfl) fl_X11_99 (zi10_c (zi11_t0 h0)) rfl ?_
                exact zx_iret (zd me_X11_count 29 rfl) rfl
              · refine zx_tout (tgt := 100) (zd me_X11_count 1 rfl) (by have e0 := lv_neT c1 (a := 0) (by decide); have e1 := lv_neT c2 (a := 1) (by decide); have e2 := lv_neT c3 (a := 2) (by decide); have e3 := lv_neT c4 (a := 3) (by decide); have e4 := lv_neT c5 (a := 4) (by decide); have e5 := lv_neT c6 (a := 5) (by decide); have e6 := lv_neT c7 (a := 6) (by decide); omega) (by decide) ?_
                refine zx_iconst (v := (-1)) (zd me_X11_count 30 rfl) (by decide) ?_
                exact zx_iret (zd me_X11_count 31 rfl) rfl
def mf_X11_inLeastTerms_b53 (R : zRR) (i3 : Int32) (s0 : Int32) (M : zMem) : Option (Int32 × zMem) :=
  if i3 = 0 then
    (some (s0, M))
  else
    (zchk (¬ i3 = 0) <|
    some ((s0 / i3), M))
theorem mt_X11_inLeastTerms_b53 {C : zCx} {ad : Nat → Nat} {T : zTT} {R : zRR}  (i3 : Int32) (s0 : Int32) (M : zMem) : zX C mi_X11_inLeastTerms (zFin C zrvI ad T R) 0 0 (mf_X11_inLeastTerms_b53 R i3 s0 M) 53 [(3, .int i3)] [.int s0] ad T R M := by
  unfold mf_X11_inLeastTerms_b53
  refine zx_istore (ls' := [(5, .int s0), (3, .int i3)]) (zd me_X11_inLeastTerms 28 rfl) (Nat.le_of_ble_eq_true rfl) rfl ?_
  refine zx_iload_n (i := 3) (zd me_X11_inLeastTerms 29 rfl) rfl 1 rfl ?_
  refine zx_if_ne (tgt := 64) (zd me_X11_inLeastTerms 30 rfl) (by decide) (fun c6 => ?_) (fun c6 => ?_)
  · refine zx_iload (zd me_X11_inLeastTerms 33 rfl) 0 rfl ?_
    refine zx_iload_n (i := 3) (zd me_X11_inLeastTerms 34 rfl) rfl 1 rfl ?_
    refine zx_idiv (zd me_X11_inLeastTerms 35 rfl) ?_
    exact zx_iret (zd me_X11_inLeastTerms 36 rfl) rfl
  · refine zx_iload (zd me_X11_inLeastTerms 31 rfl) 0 rfl ?_
    refine zx_goto (tgt := 68) (zd me_X11_inLeastTerms 32 rfl) (by decide) ?_
    exact zx_iret (zd me_X11_inLeastTerms 36 rfl) rfl
def mf_X11_inLeastTerms_b44 (R : zRR) (i0 : Int32) (i1 : Int32) (i2 : Int32) (i3 : Int32) (M : zMem) : Option (Int32 × zMem) :=
  if i2 = 0 then
    (mf_X11_inLeastTerms_b53 R i3 i0 M)
  else
    (mf_X11_inLeastTerms_b53 R i3 i1 M)
theorem mt_X11_inLeastTerms_b44 {C : zCx} {ad : Nat → Nat} {T : zTT} {R : zRR}  (i0 : Int32) (i1 : Int32) (i2 : Int32) (i3 : Int32) (M : zMem) : zX C mi_X11_inLeastTerms (zFin C zrvI ad T R) 0 0 (mf_X11_inLeastTerms_b44 R i0 i1 i2 i3 M) 44 [(0, .int i0), (1, .int i1), (2, .int i2), (3, .int i3)] [] ad T R M := by
  unfold mf_X11_inLeastTerms_b44
  refine zx_iload_n (i := 2) (zd me_X11_inLeastTerms 23 rfl) rfl 2 rfl ?_
  refine zx_if_ne (tgt := 52) (zd me_X11_inLeastTerms 24 rfl) (by decide) (fun c5 => ?_) (fun c5 => ?_)
  · refine zx_iload_n (i := 1) (zd me_X11_inLeastTerms 27 rfl) rfl 1 rfl ?_
    refine zx_loc [3] rfl ?_
    exact mt_X11_inLeastTerms_b53 i3 i1 M
  · refine zx_iload_n (i := 0) (zd me_X11_inLeastTerms 25 rfl) rfl 0 rfl ?_
    refine zx_goto (tgt := 53) (zd me_X11_inLeastTerms 26 rfl) (by decide) ?_
    refine zx_loc [3] rfl ?_
    exact mt_X11_inLeastTerms_b53 i3 i0 M
def mf_X11_inLeastTerms_l8 (R : zRR) : Nat → Int32 → Int32 → Int32 → Int32 → Int32 → Int32 → zMem → Option (Int32 × zMem)
  | 0, _, _, _, _, _, _, _ => none
  | fuel + 1, i0, i1, i2, i3, i4, i5, M =>
    if (1000000 : Int32) ≤ i5 then
      (mf_X11_inLeastTerms_b44 R i0 i1 i2 i3 M)
    else
      (if i4 = 0 then
        (mf_X11_inLeastTerms_b44 R i0 i1 i2 i3 M)
      else
        (if i3 = 0 then
          (mf_X11_inLeastTerms_b44 R i0 i1 i2 i3 M)
        else
          (zchk (¬ i4 = 0) <|
          zlet ((i3 - i3 / i4 * i4) : Int32) fun x4 =>
          mf_X11_inLeastTerms_l8 R fuel i0 i1 i2 i4 x4 (i5 + 1) M)))
theorem mt_X11_inLeastTerms_l8 {C : zCx} {ad : Nat → Nat} {T : zTT} {R : zRR}  : ∀ (fuel : Nat) (i0 : Int32) (i1 : Int32) (i2 : Int32) (i3 : Int32) (i4 : Int32) (i5 : Int32) (M : zMem), zX C mi_X11_inLeastTerms (zFin C zrvI ad T R) 0 0 (mf_X11_inLeastTerms_l8 R fuel i0 i1 i2 i3 i4 i5 M) 8 [(0, .int i0), (1, .int i1), (2, .int i2), (3, .int i3), (4, .int i4), (5, .int i5)] [] ad T R M := by
  intro fuel
  induction fuel with
  | zero => intros; exact zx_none
  | succ fuel ih =>
    intro i0 i1 i2 i3 i4 i5 M
    rw [mf_X11_inLeastTerms_l8]
    refine zx_iload (zd me_X11_inLeastTerms 6 rfl) 5 rfl ?_
    refine zx_ldcw (v := 1000000) (zd me_X11_inLeastTerms 7 rfl) (zt6 50 rfl rfl) ?_
    refine zx_icmp_ge (tgt := 44) (zd me_X11_inLeastTerms 8 rfl) (by decide) (fun c1 => ?_) (fun c1 => ?_)
    · refine zx_loc [0, 1, 2, 3] rfl ?_
      exact mt_X11_inLeastTerms_b44 i0 i1 i2 i3 M
    · refine zx_iload (zd me_X11_inLeastTerms 9 rfl) 4 rfl ?_
      refine zx_if_eq (tgt := 44) (zd me_X11_inLeastTerms 10 rfl) (by decide) (fun c2 => ?_) (fun c2 => ?_)
      · refine zx_loc [0, 1, 2, 3] rfl ?_
        exact mt_X11_inLeastTerms_b44 i0 i1 i2 i3 M
      · refine zx_iload_n (i := 3) (zd me_X11_inLeastTerms 11 rfl) rfl 3 rfl ?_
        refine zx_if_eq (tgt := 44) (zd me_X11_inLeastTerms 12 rfl) (by decide) (fun c3 => ?_) (fun c3 => ?_)
        · refine zx_loc [0, 1, 2, 3] rfl ?_
          exact mt_X11_inLeastTerms_b44 i0 i1 i2 i3 M
        · refine zx_iload_n (i := 3) (zd me_X11_inLeastTerms 13 rfl) rfl 3 rfl ?_
          refine zx_iload (zd me_X11_inLeastTerms 14 rfl) 4 rfl ?_
          refine zx_irem (zd me_X11_inLeastTerms 15 rfl) ?_
          refine zx_leti (fun x4 => ?_)
          refine zx_istore (ls' := [(6, .int x4), (0, .int i0), (1, .int i1), (2, .int i2), (3, .int i3), (4, .int i4), (5, .int i5)]) (zd me_X11_inLeastTerms 16 rfl) (Nat.le_of_ble_eq_true rfl) rfl ?_
          refine zx_iload (zd me_X11_inLeastTerms 17 rfl) 5 rfl ?_
          refine zx_istore_n (i := 3) (ls' := [(3, .int i4), (6, .int x4), (0, .int i0), (1, .int i1), (2, .int i2), (4, .int i4), (5, .int i5)]) (zd me_X11_inLeastTerms 18 rfl) rfl (Nat.le_of_ble_eq_true rfl) rfl ?_
          refine zx_iload (zd me_X11_inLeastTerms 19 rfl) 1 rfl ?_
          refine zx_istore (ls' := [(4, .int x4), (3, .int i4), (6, .int x4), (0, .int i0), (1, .int i1), (2, .int i2), (5, .int i5)]) (zd me_X11_inLeastTerms 20 rfl) (Nat.le_of_ble_eq_true rfl) rfl ?_
          refine zx_iinc (v := 1) (ls' := [(5, .int (i5 + 1)), (4, .int x4), (3, .int i4), (6, .int x4), (0, .int i0), (1, .int i1), (2, .int i2)]) (zd me_X11_inLeastTerms 21 rfl) (Nat.le_of_ble_eq_true rfl) 6 rfl (by decide) rfl ?_
          refine zx_goto (tgt := 8) (zd me_X11_inLeastTerms 22 rfl) (by decide) ?_
          refine zx_loc [4, 5, 6, 2, 1, 0] rfl ?_
          exact ih i0 i1 i2 i4 x4 (i5 + 1) M
def mf_X11_inLeastTerms (R : zRR) (i0 : Int32) (i1 : Int32) (i2 : Int32) (M : zMem) : Option (Int32 × zMem) :=
  mf_X11_inLeastTerms_l8 R zF i0 i1 i2 i1 i0 (0 : Int32) M
theorem mc_X11_inLeastTerms (l : Launch) {T : zTT} {R : zRR}  (i0 : Int32) (i1 : Int32) (i2 : Int32) (M : zMem) : zMS l yX11_inLeastTerms mi_X11_inLeastTerms zrvI (mf_X11_inLeastTerms R i0 i1 i2 M) [.int i0, .int i1, .int i2] T R M := by
  refine zMS.of (by decide +kernel) rfl ⟨rfl, rfl⟩ (Nat.le_of_ble_eq_true rfl) (fun C ad _ => ?_)
  show zX C mi_X11_inLeastTerms (zFin C zrvI ad T R) 0 0 (mf_X11_inLeastTerms R i0 i1 i2 M) 0 [(0, .int i0), (1, .int i1), (2, .int i2)] [] ad T R M
  unfold mf_X11_inLeastTerms
  refine zx_iload_n (i := 1) (zd me_X11_inLeastTerms 0 rfl) rfl 1 rfl ?_
  refine zx_istore_n (i := 3) (ls' := [(3, .int i1), (0, .int i0), (1, .int i1), (2, .int i2)]) (zd me_X11_inLeastTerms 1 rfl) rfl (Nat.le_of_ble_eq_true rfl) rfl ?_
  refine zx_iload_n (i := 0) (zd me_X11_inLeastTerms 2 rfl) rfl 1 rfl ?_
  refine zx_istore (ls' := [(4, .int i0), (3, .int i1), (0, .int i0), (1, .int i1), (2, .int i2)]) (zd me_X11_inLeastTerms 3 rfl) (Nat.le_of_ble_eq_true rfl) rfl ?_
  refine zx_iconst (v := 0) (zd me_X11_inLeastTerms 4 rfl) (by decide) ?_
  refine zx_istore (ls' := [(5, .int (0 : Int32)), (4, .int i0), (3, .int i1), (0, .int i0), (1, .int i1), (2, .int i2)]) (zd me_X11_inLeastTerms 5 rfl) (Nat.le_of_ble_eq_true rfl) rfl ?_
  refine zx_loc [3, 4, 5, 2, 1, 0] rfl ?_
  exact mt_X11_inLeastTerms_l8 zF i0 i1 i2 i1 i0 (0 : Int32) M
