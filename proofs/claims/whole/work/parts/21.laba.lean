def mf_X3_isOpen (R : zRR) (a0 : Nat) (i1 : Int32) (M : zMem) : Option (Int32 × zMem) :=
  zcl (mf_X7_hasBath R (zrf R a0 0) i1 M) fun r2 M1 =>
  if r2 = 0 then
    (some ((0 : Int32), M1))
  else
    (zald 62 ((6 : Int32) + i1) fun j4 =>
    zcl (mf_J6_bitCount_0f7a4 R (M1.1 (zrf R a0 1) j4) M1) fun r6 M5 =>
    zald 6 i1 fun j7 =>
    if (M5.1 (zrf R (zrf R a0 0) 6) j7) ≤ r6 then
      (some ((0 : Int32), M5))
    else
      (zald 62 ((0 : Int32) + i1) fun j9 =>
      zald 6 i1 fun j10 =>
      if (M5.1 (zrf R (zrf R a0 0) 7) j10) ≤ (M5.1 (zrf R a0 1) j9) then
        (some ((0 : Int32), M5))
      else
        (some ((1 : Int32), M5))))
theorem mc_X3_isOpen (l : Launch) {T : zTT} {R : zRR} {a0 : Nat} (h0 : zi3 T R a0) (i1 : Int32) (M : zMem) : zMS l yX3_isOpen mi_X3_isOpen zrvI (mf_X3_isOpen R a0 i1 M) [.ref a0, .int i1] T R M := by
  refine zMS.of (by decide +kernel) rfl ⟨rfl, rfl⟩ (Nat.le_of_ble_eq_true rfl) (fun C ad _ => ?_)
  show zX C mi_X3_isOpen (zFin C zrvI ad T R) 0 0 (mf_X3_isOpen R a0 i1 M) 0 [(0, .ref a0), (1, .int i1)] [] ad T R M
  unfold mf_X3_isOpen
  refine zx_aload_n (i := 0) (zd me_X3_isOpen 0 rfl) rfl 0 rfl ?_
  refine zx_getR (zd me_X3_isOpen 1 rfl) fl_X3_15 (zi3_c h0) rfl (zi3_r0 h0) ?_
  refine zx_iload_n (i := 1) (zd me_X3_isOpen 2 rfl) rfl 1 rfl ?_
  refine zx_callVI1 (zd me_X3_isOpen 3 rfl) (mc_X7_hasBath (zl C) (zi3_t0 h0) i1 M) lk_X3_40 ⟨(Nat.le_of_ble_eq_true rfl), (Nat.le_of_ble_eq_true rfl)⟩ (Nat.le_of_ble_eq_true rfl) (zi7_c (zi3_t0 h0)) rfl (fun r2 M1 => ?_)
  refine zx_if_eq (tgt := 59) (zd me_X3_isOpen 4 rfl) (by decide) (fun c3 => ?_) (fun c3 => ?_)
  · refine zx_iconst (v := 0) (zd me_X3_isOpen 32 rfl) (by decide) ?_
    exact zx_zret (zd me_X3_isOpen 33 rfl) rfl rfl
  · refine zx_aload_n (i := 0) (zd me_X3_isOpen 5 rfl) rfl 0 rfl ?_
    refine zx_getR (zd me_X3_isOpen 6 rfl) fl_X3_11 (zi3_c h0) rfl (zi3_r1 h0) ?_
    refine zx_bipush (v := 6) (zd me_X3_isOpen 7 rfl) (by decide) ?_
    refine zx_iload_n (i := 1) (zd me_X3_isOpen 8 rfl) rfl 1 rfl ?_
    refine zx_iadd (zd me_X3_isOpen 9 rfl) ?_
    refine zx_iald (zd me_X3_isOpen 10 rfl) (zi3_t1 h0) (fun j4 hj4 => ?_)
    refine zx_callSI1 (zd me_X3_isOpen 11 rfl) (mc_J6_bitCount_0f7a4 (zl C) (M1.1 (zrf R a0 1) j4) M1) lk_X3_44 ⟨(Nat.le_of_ble_eq_true rfl), (Nat.le_of_ble_eq_true rfl)⟩ (Nat.le_of_ble_eq_true rfl) (fun r6 M5 => ?_)
    refine zx_aload_n (i := 0) (zd me_X3_isOpen 12 rfl) rfl 0 rfl ?_
    refine zx_getR (zd me_X3_isOpen 13 rfl) fl_X3_15 (zi3_c h0) rfl (zi3_r0 h0) ?_
    refine zx_getR (zd me_X3_isOpen 14 rfl) fl_X3_50 (zi7_c (zi3_t0 h0)) rfl (zi7_r6 (zi3_t0 h0)) ?_
    refine zx_iload_n (i := 1) (zd me_X3_isOpen 15 rfl) rfl 1 rfl ?_
    refine zx_iald (zd me_X3_isOpen 16 rfl) (zi7_t6 (zi3_t0 h0)) (fun j7 hj7 => ?_)
    refine zx_icmp_ge (tgt := 59) (zd me_X3_isOpen 17 rfl) (by decide) (fun c8 => ?_) (fun c8 => ?_)
    · refine zx_iconst (v := 0) (zd me_X3_isOpen 32 rfl) (by decide) ?_
      exact zx_zret (zd me_X3_isOpen 33 rfl) rfl rfl
    · refine zx_aload_n (i := 0) (zd me_X3_isOpen 18 rfl) rfl 0 rfl ?_
      refine zx_getR (zd me_X3_isOpen 19 rfl) fl_X3_11 (zi3_c h0) rfl (zi3_r1 h0) ?_
      refine zx_iconst (v := 0) (zd me_X3_isOpen 20 rfl) (by decide) ?_
      refine zx_iload_n (i := 1) (zd me_X3_isOpen 21 rfl) rfl 1 rfl ?_
      refine zx_iadd (zd me_X3_isOpen 22 rfl) ?_
      refine zx_iald (zd me_X3_isOpen 23 rfl) (zi3_t1 h0) (fun j9 hj9 => ?_)
      refine zx_aload_n (i := 0) (zd me_X3_isOpen 24 rfl) rfl 0 rfl ?_
      refine zx_getR (zd me_X3_isOpen 25 rfl) fl_X3_15 (zi3_c h0) rfl (zi3_r0 h0) ?_
      refine zx_getR (zd me_X3_isOpen 26 rfl) fl_X3_53 (zi7_c (zi3_t0 h0)) rfl (zi7_r7 (zi3_t0 h0)) ?_
      refine zx_iload_n (i := 1) (zd me_X3_isOpen 27 rfl) rfl 1 rfl ?_
      refine zx_iald (zd me_X3_isOpen 28 rfl) (zi7_t7 (zi3_t0 h0)) (fun j10 hj10 => ?_)
      refine zx_icmp_ge (tgt := 59) (zd me_X3_isOpen 29 rfl) (by decide) (fun c11 => ?_) (fun c11 => ?_)
      · refine zx_iconst (v := 0) (zd me_X3_isOpen 32 rfl) (by decide) ?_
        exact zx_zret (zd me_X3_isOpen 33 rfl) rfl rfl
      · refine zx_iconst (v := 1) (zd me_X3_isOpen 30 rfl) (by decide) ?_
        refine zx_goto (tgt := 60) (zd me_X3_isOpen 31 rfl) (by decide) ?_
        exact zx_zret (zd me_X3_isOpen 33 rfl) rfl rfl
def mf_X3_settle_b31 (R : zRR) (a0 : Nat) (i1 : Int32) (i2 : Int32) (M : zMem) : Option (Unit × zMem) :=
  zald 62 ((12 : Int32) + i1) fun j7 =>
  zlet (zwI M (zrf R a0 1) j7 i2) fun M8 =>
  zald 62 ((20 : Int32) + i1) fun j9 =>
  zlet (zwI M8 (zrf R a0 1) j9 (-1 : Int32)) fun M10 =>
  zald 62 ((28 : Int32) + i1) fun j11 =>
  zlet (zwI M10 (zrf R a0 1) j11 (0 : Int32)) fun M12 =>
  zald 62 ((36 : Int32) + i1) fun j13 =>
  zlet (zwI M12 (zrf R a0 1) j13 (0 : Int32)) fun M14 =>
  some ((), M14)
theorem mt_X3_settle_b31 {C : zCx} {ad : Nat → Nat} {T : zTT} {R : zRR} {a0 : Nat} (h0 : zi3 T R a0) (i1 : Int32) (i2 : Int32) (M : zMem) : zX C mi_X3_settle (zFin C zrvV ad T R) 0 0 (mf_X3_settle_b31 R a0 i1 i2 M) 31 [(0, .ref a0), (1, .int i1), (2, .int i2)] [] ad T R M := by
  unfold mf_X3_settle_b31
  refine zx_aload_n (i := 0) (zd me_X3_settle 23 rfl) rfl 0 rfl ?_
  refine zx_getR (zd me_X3_settle 24 rfl) fl_X3_11 (zi3_c h0) rfl (zi3_r1 h0) ?_
  refine zx_bipush (v := 12) (zd me_X3_settle 25 rfl) (by decide) ?_
  refine zx_iload_n (i := 1) (zd me_X3_settle 26 rfl) rfl 1 rfl ?_
  refine zx_iadd (zd me_X3_settle 27 rfl) ?_
  refine zx_iload_n (i := 2) (zd me_X3_settle 28 rfl) rfl 2 rfl ?_
  refine zx_iast (zd me_X3_settle 29 rfl) (zi3_t1 h0) (fun M8 => ?_)
  refine zx_aload_n (i := 0) (zd me_X3_settle 30 rfl) rfl 0 rfl ?_
  refine zx_getR (zd me_X3_settle 31 rfl) fl_X3_11 (zi3_c h0) rfl (zi3_r1 h0) ?_
  refine zx_bipush (v := 20) (zd me_X3_settle 32 rfl) (by decide) ?_
  refine zx_iload_n (i := 1) (zd me_X3_settle 33 rfl) rfl 1 rfl ?_
  refine zx_iadd (zd me_X3_settle 34 rfl) ?_
  refine zx_iconst (v := (-1)) (zd me_X3_settle 35 rfl) (by decide) ?_
  refine zx_iast (zd me_X3_settle 36 rfl) (zi3_t1 h0) (fun M10 => ?_)
  refine zx_aload_n (i := 0) (zd me_X3_settle 37 rfl) rfl 0 rfl ?_
  refine zx_getR (zd me_X3_settle 38 rfl) fl_X3_11 (zi3_c h0) rfl (zi3_r1 h0) ?_
  refine zx_bipush (v := 28) (zd me_X3_settle 39 rfl) (by decide) ?_
  refine zx_iload_n (i := 1) (zd me_X3_settle 40 rfl) rfl 1 rfl ?_
  refine zx_iadd (zd me_X3_settle 41 rfl) ?_
  refine zx_iconst (v := 0) (zd me_X3_settle 42 rfl) (by decide) ?_
  refine zx_iast (zd me_X3_settle 43 rfl) (zi3_t1 h0) (fun M12 => ?_)
  refine zx_aload_n (i := 0) (zd me_X3_settle 44 rfl) rfl 0 rfl ?_
  refine zx_getR (zd me_X3_settle 45 rfl) fl_X3_11 (zi3_c h0) rfl (zi3_r1 h0) ?_
  refine zx_bipush (v := 36) (zd me_X3_settle 46 rfl) (by decide) ?_
  refine zx_iload_n (i := 1) (zd me_X3_settle 47 rfl) rfl 1 rfl ?_
  refine zx_iadd (zd me_X3_settle 48 rfl) ?_
  refine zx_iconst (v := 0) (zd me_X3_settle 49 rfl) (by decide) ?_
  refine zx_iast (zd me_X3_settle 50 rfl) (zi3_t1 h0) (fun M14 => ?_)
  exact zx_vret (zd me_X3_settle 51 rfl) rfl
def mf_X3_settle (R : zRR) (a0 : Nat) (i1 : Int32) (i2 : Int32) (M : zMem) : Option (Unit × zMem) :=
  zald 62 ((20 : Int32) + i1) fun j1 =>
  zlet ((M.1 (zrf R a0 1) j1) : Int32) fun x2 =>
  if x2 < 0 then
    (mf_X3_settle_b31 R a0 i1 i2 M)
  else
    (zald 62 ((6 : Int32) + x2) fun j4 =>
    zald 62 ((6 : Int32) + x2) fun j5 =>
    zlet (zwI M (zrf R a0 1) j5 ((M.1 (zrf R a0 1) j4) &&& (((1 : Int32) <<< (i1 &&& 31)) ^^^ (-1 : Int32)))) fun M6 =>
    mf_X3_settle_b31 R a0 i1 i2 M6)
theorem mc_X3_settle (l : Launch) {T : zTT} {R : zRR} {a0 : Nat} (h0 : zi3 T R a0) (i1 : Int32) (i2 : Int32) (M : zMem) : zMS l yX3_settle mi_X3_settle zrvV (mf_X3_settle R a0 i1 i2 M) [.ref a0, .int i1, .int i2] T R M := by
  refine zMS.of (by decide +kernel) rfl ⟨rfl, rfl⟩ (Nat.le_of_ble_eq_true rfl) (fun C ad _ => ?_)
  show zX C mi_X3_settle (zFin C zrvV ad T R) 0 0 (mf_X3_settle R a0 i1 i2 M) 0 [(0, .ref a0), (1, .int i1), (2, .int i2)] [] ad T R M
  unfold mf_X3_settle
  refine zx_aload_n (i := 0) (zd me_X3_settle 0 rfl) rfl 0 rfl ?_
  refine zx_getR (zd me_X3_settle 1 rfl) fl_X3_11 (zi3_c h0) rfl (zi3_r1 h0) ?_
  refine zx_bipush (v := 20) (zd me_X3_settle 2 rfl) (by decide) ?_
  refine zx_iload_n (i := 1) (zd me_X3_settle 3 rfl) rfl 1 rfl ?_
  refine zx_iadd (zd me_X3_settle 4 rfl) ?_
  refine zx_iald (zd me_X3_settle 5 rfl) (zi3_t1 h0) (fun j1 hj1 => ?_)
  refine zx_leti (fun x2 => ?_)
  refine zx_istore_n (i := 3) (ls' := [(3, .int x2), (0, .ref a0), (1, .int i1), (2, .int i2)]) (zd me_X3_settle 6 rfl) rfl (Nat.le_of_ble_eq_true rfl) rfl ?_
  refine zx_iload_n (i := 3) (zd me_X3_settle 7 rfl) rfl 0 rfl ?_
  refine zx_if_lt (tgt := 31) (zd me_X3_settle 8 rfl) (by decide) (fun c3 => ?_) (fun c3 => ?_)
  · refine zx_loc [1, 2, 3] rfl ?_
    exact mt_X3_settle_b31 h0 i1 i2 M
  · refine zx_aload_n (i := 0) (zd me_X3_settle 9 rfl) rfl 1 rfl ?_
    refine zx_getR (zd me_X3_settle 10 rfl) fl_X3_11 (zi3_c h0) rfl (zi3_r1 h0) ?_
    refine zx_bipush (v := 6) (zd me_X3_settle 11 rfl) (by decide) ?_
    refine zx_iload_n (i := 3) (zd me_X3_settle 12 rfl) rfl 0 rfl ?_
    refine zx_iadd (zd me_X3_settle 13 rfl) ?_
    refine zx_dup2 (zd me_X3_settle 14 rfl) rfl rfl ?_
    refine zx_iald (zd me_X3_settle 15 rfl) (zi3_t1 h0) (fun j4 hj4 => ?_)
    refine zx_iconst (v := 1) (zd me_X3_settle 16 rfl) (by decide) ?_
    refine zx_iload_n (i := 1) (zd me_X3_settle 17 rfl) rfl 2 rfl ?_
    refine zx_ishl (zd me_X3_settle 18 rfl) ?_
    refine zx_iconst (v := (-1)) (zd me_X3_settle 19 rfl) (by decide) ?_
    refine zx_ixor (zd me_X3_settle 20 rfl) ?_
    refine zx_iand (zd me_X3_settle 21 rfl) ?_
    refine zx_iast (zd me_X3_settle 22 rfl) (zi3_t1 h0) (fun M6 => ?_)
    refine zx_loc [1, 2, 3] rfl ?_
    exact mt_X3_settle_b31 h0 i1 i2 M6
def mf_X3_enter_b84 (R : zRR) (a0 : Nat) (i1 : Int32) (i2 : Int32) (s0 : Int32) (s1 : Int32) (s2 : Int32) (M : zMem) : Option (Unit × zMem) :=
  zald 62 s2 fun j12 =>
  zlet (zwI M (zrf R a0 1) j12 (s1 + s0)) fun M13 =>
  zald 62 ((6 : Int32) + i2) fun j14 =>
  zald 62 ((6 : Int32) + i2) fun j15 =>
  zlet (zwI M13 (zrf R a0 1) j15 ((M13.1 (zrf R a0 1) j14) ||| ((1 : Int32) <<< (i1 &&& 31)))) fun M16 =>
  zald 62 ((0 : Int32) + i2) fun j17 =>
  zald 62 ((0 : Int32) + i2) fun j18 =>
  zlet (zwI M16 (zrf R a0 1) j18 ((M16.1 (zrf R a0 1) j17) + (1 : Int32))) fun M19 =>
  some ((), M19)
theorem mt_X3_enter_b84 {C : zCx} {ad : Nat → Nat} {T : zTT} {R : zRR} {a0 : Nat} (h0 : zi3 T R a0) (i1 : Int32) (i2 : Int32) (s0 : Int32) (s1 : Int32) (s2 : Int32) (M : zMem) : zX C mi_X3_enter (zFin C zrvV ad T R) 0 0 (mf_X3_enter_b84 R a0 i1 i2 s0 s1 s2 M) 84 [(0, .ref a0), (1, .int i1), (2, .int i2)] [.int s0, .int s1, .int s2, .ref (zrf R a0 1)] ad T R M := by
  unfold mf_X3_enter_b84
  refine zx_iadd (zd me_X3_enter 50 rfl) ?_
  refine zx_iast (zd me_X3_enter 51 rfl) (zi3_t1 h0) (fun M13 => ?_)
  refine zx_aload_n (i := 0) (zd me_X3_enter 52 rfl) rfl 0 rfl ?_
  refine zx_getR (zd me_X3_enter 53 rfl) fl_X3_11 (zi3_c h0) rfl (zi3_r1 h0) ?_
  refine zx_bipush (v := 6) (zd me_X3_enter 54 rfl) (by decide) ?_
  refine zx_iload_n (i := 2) (zd me_X3_enter 55 rfl) rfl 2 rfl ?_
  refine zx_iadd (zd me_X3_enter 56 rfl) ?_
  refine zx_dup2 (zd me_X3_enter 57 rfl) rfl rfl ?_
  refine zx_iald (zd me_X3_enter 58 rfl) (zi3_t1 h0) (fun j14 hj14 => ?_)
  refine zx_iconst (v := 1) (zd me_X3_enter 59 rfl) (by decide) ?_
  refine zx_iload_n (i := 1) (zd me_X3_enter 60 rfl) rfl 1 rfl ?_
  refine zx_ishl (zd me_X3_enter 61 rfl) ?_
  refine zx_ior (zd me_X3_enter 62 rfl) ?_
  refine zx_iast (zd me_X3_enter 63 rfl) (zi3_t1 h0) (fun M16 => ?_)
  refine zx_aload_n (i := 0) (zd me_X3_enter 64 rfl) rfl 0 rfl ?_
  refine zx_getR (zd me_X3_enter 65 rfl) fl_X3_11 (zi3_c h0) rfl (zi3_r1 h0) ?_
  refine zx_iconst (v := 0) (zd me_X3_enter 66 rfl) (by decide) ?_
  refine zx_iload_n (i := 2) (zd me_X3_enter 67 rfl) rfl 2 rfl ?_
  refine zx_iadd (zd me_X3_enter 68 rfl) ?_
  refine zx_dup2 (zd me_X3_enter 69 rfl) rfl rfl ?_
  refine zx_iald (zd me_X3_enter 70 rfl) (zi3_t1 h0) (fun j17 hj17 => ?_)
  refine zx_iconst (v := 1) (zd me_X3_enter 71 rfl) (by decide) ?_
  refine zx_iadd (zd me_X3_enter 72 rfl) ?_
  refine zx_iast (zd me_X3_enter 73 rfl) (zi3_t1 h0) (fun M19 => ?_)
  exact zx_vret (zd me_X3_enter 74 rfl) rfl
def mf_X3_enter_b33 (R : zRR) (a0 : Nat) (i1 : Int32) (i2 : Int32) (s0 : Int32) (M : zMem) : Option (Unit × zMem) :=
  zald 62 ((20 : Int32) + i1) fun j6 =>
  zlet (zwI M (zrf R a0 1) j6 i2) fun M7 =>
  zald 8 i1 fun j8 =>
  zcl (mf_X7_asked R (zrf R a0 0) (M7.1 (zrf R (zrf R a0 0) 8) j8) i2 M7) fun r10 M9 =>
  if s0 = 0 then
    (mf_X3_enter_b84 R a0 i1 i2 (0 : Int32) r10 ((28 : Int32) + i1) M9)
  else
    (mf_X3_enter_b84 R a0 i1 i2 (M9.1 (zrf R a0 0) 4) r10 ((28 : Int32) + i1) M9)
theorem mt_X3_enter_b33 {C : zCx} {ad : Nat → Nat} {T : zTT} {R : zRR} {a0 : Nat} (h0 : zi3 T R a0) (i1 : Int32) (i2 : Int32) (s0 : Int32) (M : zMem) : zX C mi_X3_enter (zFin C zrvV ad T R) 0 0 (mf_X3_enter_b33 R a0 i1 i2 s0 M) 33 [(0, .ref a0), (1, .int i1), (2, .int i2)] [.int s0] ad T R M := by
  unfold mf_X3_enter_b33
  refine zx_istore_n (i := 3) (ls' := [(3, .int s0), (0, .ref a0), (1, .int i1), (2, .int i2)]) (zd me_X3_enter 21 rfl) rfl (Nat.le_of_ble_eq_true rfl) rfl ?_
  refine zx_aload_n (i := 0) (zd me_X3_enter 22 rfl) rfl 1 rfl ?_
  refine zx_getR (zd me_X3_enter 23 rfl) fl_X3_11 (zi3_c h0) rfl (zi3_r1 h0) ?_
  refine zx_bipush (v := 20) (zd me_X3_enter 24 rfl) (by decide) ?_
  refine zx_iload_n (i := 1) (zd me_X3_enter 25 rfl) rfl 2 rfl ?_
  refine zx_iadd (zd me_X3_enter 26 rfl) ?_
  refine zx_iload_n (i := 2) (zd me_X3_enter 27 rfl) rfl 3 rfl ?_
  refine zx_iast (zd me_X3_enter 28 rfl) (zi3_t1 h0) (fun M7 => ?_)
  refine zx_aload_n (i := 0) (zd me_X3_enter 29 rfl) rfl 1 rfl ?_
  refine zx_getR (zd me_X3_enter 30 rfl) fl_X3_11 (zi3_c h0) rfl (zi3_r1 h0) ?_
  refine zx_bipush (v := 28) (zd me_X3_enter 31 rfl) (by decide) ?_
  refine zx_iload_n (i := 1) (zd me_X3_enter 32 rfl) rfl 2 rfl ?_
  refine zx_iadd (zd me_X3_enter 33 rfl) ?_
  refine zx_aload_n (i := 0) (zd me_X3_enter 34 rfl) rfl 1 rfl ?_
  refine zx_getR (zd me_X3_enter 35 rfl) fl_X3_15 (zi3_c h0) rfl (zi3_r0 h0) ?_
  refine zx_aload_n (i := 0) (zd me_X3_enter 36 rfl) rfl 1 rfl ?_
  refine zx_getR (zd me_X3_enter 37 rfl) fl_X3_15 (zi3_c h0) rfl (zi3_r0 h0) ?_
  refine zx_getR (zd me_X3_enter 38 rfl) fl_X3_86 (zi7_c (zi3_t0 h0)) rfl (zi7_r8 (zi3_t0 h0)) ?_
  refine zx_iload_n (i := 1) (zd me_X3_enter 39 rfl) rfl 2 rfl ?_
  refine zx_iald (zd me_X3_enter 40 rfl) (zi7_t8 (zi3_t0 h0)) (fun j8 hj8 => ?_)
  refine zx_iload_n (i := 2) (zd me_X3_enter 41 rfl) rfl 3 rfl ?_
  refine zx_callVI2 (zd me_X3_enter 42 rfl) (mc_X7_asked (zl C) (zi3_t0 h0) (M7.1 (zrf R (zrf R a0 0) 8) j8) i2 M7) lk_X3_89 ⟨(Nat.le_of_ble_eq_true rfl), (Nat.le_of_ble_eq_true rfl)⟩ (Nat.le_of_ble_eq_true rfl) (zi7_c (zi3_t0 h0)) rfl (fun r10 M9 => ?_)
  refine zx_iload_n (i := 3) (zd me_X3_enter 43 rfl) rfl 0 rfl ?_
  refine zx_if_eq (tgt := 83) (zd me_X3_enter 44 rfl) (by decide) (fun c11 => ?_) (fun c11 => ?_)
  · refine zx_iconst (v := 0) (zd me_X3_enter 49 rfl) (by decide) ?_
    refine zx_loc [1, 2, 3] rfl ?_
    exact mt_X3_enter_b84 h0 i1 i2 (0 : Int32) r10 ((28 : Int32) + i1) M9
  · refine zx_aload_n (i := 0) (zd me_X3_enter 45 rfl) rfl 1 rfl ?_
    refine zx_getR (zd me_X3_enter 46 rfl) fl_X3_15 (zi3_c h0) rfl (zi3_r0 h0) ?_
    refine zx_getI (zd me_X3_enter 47 rfl) fl_X3_121 (zi7_c (zi3_t0 h0)) rfl ?_
    refine zx_goto (tgt := 84) (zd me_X3_enter 48 rfl) (by decide) ?_
    refine zx_loc [1, 2, 3] rfl ?_
    exact mt_X3_enter_b84 h0 i1 i2 (M9.1 (zrf R a0 0) 4) r10 ((28 : Int32) + i1) M9
def mf_X3_enter (R : zRR) (a0 : Nat) (i1 : Int32) (i2 : Int32) (M : zMem) : Option (Unit × zMem) :=
  zcl (mf_X3_settle R a0 i1 (1 : Int32) M) fun _ M1 =>
  zald 62 ((0 : Int32) + i2) fun j3 =>
  zald 6 i2 fun j4 =>
  if ((2 : Int32) * (M1.1 (zrf R a0 1) j3)) < (M1.1 (zrf R (zrf R a0 0) 7) j4) then
    (mf_X3_enter_b33 R a0 i1 i2 (0 : Int32) M1)
  else
    (mf_X3_enter_b33 R a0 i1 i2 (1 : Int32) M1)
theorem mc_X3_enter (l : Launch) {T : zTT} {R : zRR} {a0 : Nat} (h0 : zi3 T R a0) (i1 : Int32) (i2 : Int32) (M : zMem) : zMS l yX3_enter mi_X3_enter zrvV (mf_X3_enter R a0 i1 i2 M) [.ref a0, .int i1, .int i2] T R M := by
  refine zMS.of (by decide +kernel) rfl ⟨rfl, rfl⟩ (Nat.le_of_ble_eq_true rfl) (fun C ad _ => ?_)
  show zX C mi_X3_enter (zFin C zrvV ad T R) 0 0 (mf_X3_enter R a0 i1 i2 M) 0 [(0, .ref a0), (1, .int i1), (2, .int i2)] [] ad T R M
  unfold mf_X3_enter
  refine zx_aload_n (i := 0) (zd me_X3_enter 0 rfl) rfl 0 rfl ?_
  refine zx_iload_n (i := 1) (zd me_X3_enter 1 rfl) rfl 1 rfl ?_
  refine zx_iconst (v := 1) (zd me_X3_enter 2 rfl) (by decide) ?_
  refine zx_callVV2 (zd me_X3_enter 3 rfl) (mc_X3_settle (zl C) h0 i1 (1 : Int32) M) lk_X3_98 ⟨(Nat.le_of_ble_eq_true rfl), (Nat.le_of_ble_eq_true rfl)⟩ (Nat.le_of_ble_eq_true rfl) (zi3_c h0) rfl (fun r2 M1 => ?_)
  refine zx_iconst (v := 2) (zd me_X3_enter 4 rfl) (by decide) ?_
  refine zx_aload_n (i := 0) (zd me_X3_enter 5 rfl) rfl 0 rfl ?_
  refine zx_getR (zd me_X3_enter 6 rfl) fl_X3_11 (zi3_c h0) rfl (zi3_r1 h0) ?_
  refine zx_iconst (v := 0) (zd me_X3_enter 7 rfl) (by decide) ?_
  refine zx_iload_n (i := 2) (zd me_X3_enter 8 rfl) rfl 2 rfl ?_
  refine zx_iadd (zd me_X3_enter 9 rfl) ?_
  refine zx_iald (zd me_X3_enter 10 rfl) (zi3_t1 h0) (fun j3 hj3 => ?_)
  refine zx_imul (zd me_X3_enter 11 rfl) ?_
  refine zx_aload_n (i := 0) (zd me_X3_enter 12 rfl) rfl 0 rfl ?_
  refine zx_getR (zd me_X3_enter 13 rfl) fl_X3_15 (zi3_c h0) rfl (zi3_r0 h0) ?_
  refine zx_getR (zd me_X3_enter 14 rfl) fl_X3_53 (zi7_c (zi3_t0 h0)) rfl (zi7_r7 (zi3_t0 h0)) ?_
  refine zx_iload_n (i := 2) (zd me_X3_enter 15 rfl) rfl 2 rfl ?_
  refine zx_iald (zd me_X3_enter 16 rfl) (zi7_t7 (zi3_t0 h0)) (fun j4 hj4 => ?_)
  refine zx_icmp_lt (tgt := 32) (zd me_X3_enter 17 rfl) (by decide) (fun c5 => ?_) (fun c5 => ?_)
  · refine zx_iconst (v := 0) (zd me_X3_enter 20 rfl) (by decide) ?_
    exact mt_X3_enter_b33 h0 i1 i2 (0 : Int32) M1
  · refine zx_iconst (v := 1) (zd me_X3_enter 18 rfl) (by decide) ?_
    refine zx_goto (tgt := 33) (zd me_X3_enter 19 rfl) (by decide) ?_
    exact mt_X3_enter_b33 h0 i1 i2 (1 : Int32) M1
def mf_X3_startSheet_b52 (R : zRR) (a0 : Nat) (i1 : Int32) (i2 : Int32) (M : zMem) : Option (Int32 × zMem) :=
  zald 62 ((44 : Int32) + i1) fun j12 =>
  zlet (zwI M (zrf R a0 1) j12 (0 : Int32)) fun M13 =>
  zald 62 ((52 : Int32) + i1) fun j14 =>
  zald 62 ((52 : Int32) + i1) fun j15 =>
  zlet (zwI M13 (zrf R a0 1) j15 ((M13.1 (zrf R a0 1) j14) + (1 : Int32))) fun M16 =>
  if i2 = (-1 : Int32) then
    (zcl (mf_X3_settle R a0 i1 (2 : Int32) M16) fun _ M20 =>
    some ((0 : Int32), M20))
  else
    (zcl (mf_X3_enter R a0 i1 i2 M16) fun _ M18 =>
    some ((0 : Int32), M18))
theorem mt_X3_startSheet_b52 {C : zCx} {ad : Nat → Nat} {T : zTT} {R : zRR} {a0 : Nat} (h0 : zi3 T R a0) (i1 : Int32) (i2 : Int32) (M : zMem) : zX C mi_X3_startSheet (zFin C zrvI ad T R) 0 0 (mf_X3_startSheet_b52 R a0 i1 i2 M) 52 [(0, .ref a0), (1, .int i1), (2, .int i2)] [] ad T R M := by
  unfold mf_X3_startSheet_b52
  refine zx_aload_n (i := 0) (zd me_X3_startSheet 31 rfl) rfl 0 rfl ?_
  refine zx_getR (zd me_X3_startSheet 32 rfl) fl_X3_11 (zi3_c h0) rfl (zi3_r1 h0) ?_
  refine zx_bipush (v := 44) (zd me_X3_startSheet 33 rfl) (by decide) ?_
  refine zx_iload_n (i := 1) (zd me_X3_startSheet 34 rfl) rfl 1 rfl ?_
  refine zx_iadd (zd me_X3_startSheet 35 rfl) ?_
  refine zx_iconst (v := 0) (zd me_X3_startSheet 36 rfl) (by decide) ?_
  refine zx_iast (zd me_X3_startSheet 37 rfl) (zi3_t1 h0) (fun M13 => ?_)
  refine zx_aload_n (i := 0) (zd me_X3_startSheet 38 rfl) rfl 0 rfl ?_
  refine zx_getR (zd me_X3_startSheet 39 rfl) fl_X3_11 (zi3_c h0) rfl (zi3_r1 h0) ?_
  refine zx_bipush (v := 52) (zd me_X3_startSheet 40 rfl) (by decide) ?_
  refine zx_iload_n (i := 1) (zd me_X3_startSheet 41 rfl) rfl 1 rfl ?_
  refine zx_iadd (zd me_X3_startSheet 42 rfl) ?_
  refine zx_dup2 (zd me_X3_startSheet 43 rfl) rfl rfl ?_
  refine zx_iald (zd me_X3_startSheet 44 rfl) (zi3_t1 h0) (fun j14 hj14 => ?_)
  refine zx_iconst (v := 1) (zd me_X3_startSheet 45 rfl) (by decide) ?_
  refine zx_iadd (zd me_X3_startSheet 46 rfl) ?_
  refine zx_iast (zd me_X3_startSheet 47 rfl) (zi3_t1 h0) (fun M16 => ?_)
  refine zx_iload_n (i := 2) (zd me_X3_startSheet 48 rfl) rfl 2 rfl ?_
  refine zx_iconst (v := (-1)) (zd me_X3_startSheet 49 rfl) (by decide) ?_
  refine zx_icmp_ne (tgt := 89) (zd me_X3_startSheet 50 rfl) (by decide) (fun c17 => ?_) (fun c17 => ?_)
  · refine zx_aload_n (i := 0) (zd me_X3_startSheet 56 rfl) rfl 0 rfl ?_
    refine zx_iload_n (i := 1) (zd me_X3_startSheet 57 rfl) rfl 1 rfl ?_
    refine zx_iload_n (i := 2) (zd me_X3_startSheet 58 rfl) rfl 2 rfl ?_
    refine zx_callVV2 (zd me_X3_startSheet 59 rfl) (mc_X3_enter (zl C) h0 i1 i2 M16) lk_X3_102 ⟨(Nat.le_of_ble_eq_true rfl), (Nat.le_of_ble_eq_true rfl)⟩ (Nat.le_of_ble_eq_true rfl) (zi3_c h0) rfl (fun r19 M18 => ?_)
    refine zx_iconst (v := 0) (zd me_X3_startSheet 60 rfl) (by decide) ?_
    exact zx_iret (zd me_X3_startSheet 61 rfl) rfl
  · refine zx_aload_n (i := 0) (zd me_X3_startSheet 51 rfl) rfl 0 rfl ?_
    refine zx_iload_n (i := 1) (zd me_X3_startSheet 52 rfl) rfl 1 rfl ?_
    refine zx_iconst (v := 2) (zd me_X3_startSheet 53 rfl) (by decide) ?_
    refine zx_callVV2 (zd me_X3_startSheet 54 rfl) (mc_X3_settle (zl C) h0 i1 (2 : Int32) M16) lk_X3_98 ⟨(Nat.le_of_ble_eq_true rfl), (Nat.le_of_ble_eq_true rfl)⟩ (Nat.le_of_ble_eq_true rfl) (zi3_c h0) rfl (fun r21 M20 => ?_)
    refine zx_goto (tgt := 95) (zd me_X3_startSheet 55 rfl) (by decide) ?_
    refine zx_iconst (v := 0) (zd me_X3_startSheet 60 rfl) (by decide) ?_
    exact zx_iret (zd me_X3_startSheet 61 rfl) rfl
def mf_X3_startSheet (R : zRR) (a0 : Nat) (i1 : Int32) (M : zMem) : Option (Int32 × zMem) :=
  zcl (mf_X7_hasSheet R (zrf R a0 0) i1 M) fun r2 M1 =>
  if r2 = 0 then
    (some ((-1 : Int32), M1))
  else
    (zald 62 ((12 : Int32) + i1) fun j4 =>
    if (M1.1 (zrf R a0 1) j4) = 0 then
      (zcl (mf_X7_bathAfter R (zrf R a0 0) i1 (-1 : Int32) M1) fun r7 M6 =>
      if r7 = (-1 : Int32) then
        (mf_X3_startSheet_b52 R a0 i1 r7 M6)
      else
        (zcl (mf_X3_isOpen R a0 r7 M6) fun r10 M9 =>
        if r10 = 0 then
          (some ((2 : Int32), M9))
        else
          (mf_X3_startSheet_b52 R a0 i1 r7 M9)))
    else
      (some ((1 : Int32), M1)))
theorem mc_X3_startSheet (l : Launch) {T : zTT} {R : zRR} {a0 : Nat} (h0 : zi3 T R a0) (i1 : Int32) (M : zMem) : zMS l yX3_startSheet mi_X3_startSheet zrvI (mf_X3_startSheet R a0 i1 M) [.ref a0, .int i1] T R M := by
  refine zMS.of (by decide +kernel) rfl ⟨rfl, rfl⟩ (Nat.le_of_ble_eq_true rfl) (fun C ad _ => ?_)
  show zX C mi_X3_startSheet (zFin C zrvI ad T R) 0 0 (mf_X3_startSheet R a0 i1 M) 0 [(0, .ref a0), (1, .int i1)] [] ad T R M
  unfold mf_X3_startSheet
  refine zx_aload_n (i := 0) (zd me_X3_startSheet 0 rfl) rfl 0 rfl ?_
  refine zx_getR (zd me_X3_startSheet 1 rfl) fl_X3_15 (zi3_c h0) rfl (zi3_r0 h0) ?_
  refine zx_iload_n (i := 1) (zd me_X3_startSheet 2 rfl) rfl 1 rfl ?_
  refine zx_callVI1 (zd me_X3_startSheet 3 rfl) (mc_X7_hasSheet (zl C) (zi3_t0 h0) i1 M) lk_X3_62 ⟨(Nat.le_of_ble_eq_true rfl), (Nat.le_of_ble_eq_true rfl)⟩ (Nat.le_of_ble_eq_true rfl) (zi7_c (zi3_t0 h0)) rfl (fun r2 M1 => ?_)
  refine zx_if_ne (tgt := 13) (zd me_X3_startSheet 4 rfl) (by decide) (fun c3 => ?_) (fun c3 => ?_)
  · refine zx_aload_n (i := 0) (zd me_X3_startSheet 7 rfl) rfl 0 rfl ?_
    refine zx_getR (zd me_X3_startSheet 8 rfl) fl_X3_11 (zi3_c h0) rfl (zi3_r1 h0) ?_
    refine zx_bipush (v := 12) (zd me_X3_startSheet 9 rfl) (by decide) ?_
    refine zx_iload_n (i := 1) (zd me_X3_startSheet 10 rfl) rfl 1 rfl ?_
    refine zx_iadd (zd me_X3_startSheet 11 rfl) ?_
    refine zx_iald (zd me_X3_startSheet 12 rfl) (zi3_t1 h0) (fun j4 hj4 => ?_)
    refine zx_if_eq (tgt := 27) (zd me_X3_startSheet 13 rfl) (by decide) (fun c5 => ?_) (fun c5 => ?_)
    · refine zx_aload_n (i := 0) (zd me_X3_startSheet 16 rfl) rfl 0 rfl ?_
      refine zx_getR (zd me_X3_startSheet 17 rfl) fl_X3_15 (zi3_c h0) rfl (zi3_r0 h0) ?_
      refine zx_iload_n (i := 1) (zd me_X3_startSheet 18 rfl) rfl 1 rfl ?_
      refine zx_iconst (v := (-1)) (zd me_X3_startSheet 19 rfl) (by decide) ?_
      refine zx_callVI2 (zd me_X3_startSheet 20 rfl) (mc_X7_bathAfter (zl C) (zi3_t0 h0) i1 (-1 : Int32) M1) lk_X3_95 ⟨(Nat.le_of_ble_eq_true rfl), (Nat.le_of_ble_eq_true rfl)⟩ (Nat.le_of_ble_eq_true rfl) (zi7_c (zi3_t0 h0)) rfl (fun r7 M6 => ?_)
      refine zx_istore_n (i := 2) (ls' := [(2, .int r7), (0, .ref a0), (1, .int i1)]) (zd me_X3_startSheet 21 rfl) rfl (Nat.le_of_ble_eq_true rfl) rfl ?_
      refine zx_iload_n (i := 2) (zd me_X3_startSheet 22 rfl) rfl 0 rfl ?_
      refine zx_iconst (v := (-1)) (zd me_X3_startSheet 23 rfl) (by decide) ?_
      refine zx_icmp_eq (tgt := 52) (zd me_X3_startSheet 24 rfl) (by decide) (fun c8 => ?_) (fun c8 => ?_)
      · refine zx_loc [1, 2, 0] rfl ?_
        exact mt_X3_startSheet_b52 h0 i1 r7 M6
      · refine zx_aload_n (i := 0) (zd me_X3_startSheet 25 rfl) rfl 1 rfl ?_
        refine zx_iload_n (i := 2) (zd me_X3_startSheet 26 rfl) rfl 0 rfl ?_
        refine zx_callVI1 (zd me_X3_startSheet 27 rfl) (mc_X3_isOpen (zl C) h0 r7 M6) lk_X3_59 ⟨(Nat.le_of_ble_eq_true rfl), (Nat.le_of_ble_eq_true rfl)⟩ (Nat.le_of_ble_eq_true rfl) (zi3_c h0) rfl (fun r10 M9 => ?_)
        refine zx_if_ne (tgt := 52) (zd me_X3_startSheet 28 rfl) (by decide) (fun c11 => ?_) (fun c11 => ?_)
        · refine zx_loc [1, 2, 0] rfl ?_
          exact mt_X3_startSheet_b52 h0 i1 r7 M9
        · refine zx_iconst (v := 2) (zd me_X3_startSheet 29 rfl) (by decide) ?_
          exact zx_iret (zd me_X3_startSheet 30 rfl) rfl
    · refine zx_iconst (v := 1) (zd me_X3_startSheet 14 rfl) (by decide) ?_
      exact zx_iret (zd me_X3_startSheet 15 rfl) rfl
  · refine zx_iconst (v := (-1)) (zd me_X3_startSheet 5 rfl) (by decide) ?_
    exact zx_iret (zd me_X3_startSheet 6 rfl) rfl
def mf_X3_takeSheet (R : zRR) (a0 : Nat) (i1 : Int32) (M : zMem) : Option (Int32 × zMem) :=
  zcl (mf_X7_hasSheet R (zrf R a0 0) i1 M) fun r2 M1 =>
  if r2 = 0 then
    (some ((-1 : Int32), M1))
  else
    (zald 62 ((12 : Int32) + i1) fun j4 =>
    if (M1.1 (zrf R a0 1) j4) = (1 : Int32) then
      (zcl (mf_X3_settle R a0 i1 (3 : Int32) M1) fun _ M6 =>
      some ((0 : Int32), M6))
    else
      (some ((1 : Int32), M1)))
theorem mc_X3_takeSheet (l : Launch) {T : zTT} {R : zRR} {a0 : Nat} (h0 : zi3 T R a0) (i1 : Int32) (M : zMem) : zMS l yX3_takeSheet mi_X3_takeSheet zrvI (mf_X3_takeSheet R a0 i1 M) [.ref a0, .int i1] T R M := by
  refine zMS.of (by decide +kernel) rfl ⟨rfl, rfl⟩ (Nat.le_of_ble_eq_true rfl) (fun C ad _ => ?_)
  show zX C mi_X3_takeSheet (zFin C zrvI ad T R) 0 0 (mf_X3_takeSheet R a0 i1 M) 0 [(0, .ref a0), (1, .int i1)] [] ad T R M
  unfold mf_X3_takeSheet
  refine zx_aload_n (i := 0) (zd me_X3_takeSheet 0 rfl) rfl 0 rfl ?_
  refine zx_getR (zd me_X3_takeSheet 1 rfl) fl_X3_15 (zi3_c h0) rfl (zi3_r0 h0) ?_
  refine zx_iload_n (i := 1) (zd me_X3_takeSheet 2 rfl) rfl 1 rfl ?_
  refine zx_callVI1 (zd me_X3_takeSheet 3 rfl) (mc_X7_hasSheet (zl C) (zi3_t0 h0) i1 M) lk_X3_62 ⟨(Nat.le_of_ble_eq_true rfl), (Nat.le_of_ble_eq_true rfl)⟩ (Nat.le_of_ble_eq_true rfl) (zi7_c (zi3_t0 h0)) rfl (fun r2 M1 => ?_)
  refine zx_if_ne (tgt := 13) (zd me_X3_takeSheet 4 rfl) (by decide) (fun c3 => ?_) (fun c3 => ?_)
  · refine zx_aload_n (i := 0) (zd me_X3_takeSheet 7 rfl) rfl 0 rfl ?_
    refine zx_getR (zd me_X3_takeSheet 8 rfl) fl_X3_11 (zi3_c h0) rfl (zi3_r1 h0) ?_
    refine zx_bipush (v := 12) (zd me_X3_takeSheet 9 rfl) (by decide) ?_
    refine zx_iload_n (i := 1) (zd me_X3_takeSheet 10 rfl) rfl 1 rfl ?_
    refine zx_iadd (zd me_X3_takeSheet 11 rfl) ?_
    refine zx_iald (zd me_X3_takeSheet 12 rfl) (zi3_t1 h0) (fun j4 hj4 => ?_)
    refine zx_iconst (v := 1) (zd me_X3_takeSheet 13 rfl) (by decide) ?_
    refine zx_icmp_eq (tgt := 28) (zd me_X3_takeSheet 14 rfl) (by decide) (fun c5 => ?_) (fun c5 => ?_)
    · refine zx_aload_n (i := 0) (zd me_X3_takeSheet 17 rfl) rfl 0 rfl ?_
      refine zx_iload_n (i := 1) (zd me_X3_takeSheet 18 rfl) rfl 1 rfl ?_
      refine zx_iconst (v := 3) (zd me_X3_takeSheet 19 rfl) (by decide) ?_
      refine zx_callVV2 (zd me_X3_takeSheet 20 rfl) (mc_X3_settle (zl C) h0 i1 (3 : Int32) M1) lk_X3_98 ⟨(Nat.le_of_ble_eq_true rfl), (Nat.le_of_ble_eq_true rfl)⟩ (Nat.le_of_ble_eq_true rfl) (zi3_c h0) rfl (fun r7 M6 => ?_)
      refine zx_iconst (v := 0) (zd me_X3_takeSheet 21 rfl) (by decide) ?_
      exact zx_iret (zd me_X3_takeSheet 22 rfl) rfl
    · refine zx_iconst (v := 1) (zd me_X3_takeSheet 15 rfl) (by decide) ?_
      exact zx_iret (zd me_X3_takeSheet 16 rfl) rfl
  · refine zx_iconst (v := (-1)) (zd me_X3_takeSheet 5 rfl) (by decide) ?_
    exact zx_iret (zd me_X3_takeSheet 6 rfl) rfl
def mf_X3_againSheet (R : zRR) (a0 : Nat) (i1 : Int32) (M : zMem) : Option (Int32 × zMem) :=
  zcl (mf_X7_hasSheet R (zrf R a0 0) i1 M) fun r2 M1 =>
  if r2 = 0 then
    (some ((-1 : Int32), M1))
  else
    (zald 62 ((12 : Int32) + i1) fun j4 =>
    if (M1.1 (zrf R a0 1) j4) = (3 : Int32) then
      (zcl (mf_X3_settle R a0 i1 (0 : Int32) M1) fun _ M6 =>
      some ((0 : Int32), M6))
    else
      (some ((1 : Int32), M1)))
theorem mc_X3_againSheet (l : Launch) {T : zTT} {R : zRR} {a0 : Nat} (h0 : zi3 T R a0) (i1 : Int32) (M : zMem) : zMS l yX3_againSheet mi_X3_againSheet zrvI (mf_X3_againSheet R a0 i1 M) [.ref a0, .int i1] T R M := by
  refine zMS.of (by decide +kernel) rfl ⟨rfl, rfl⟩ (Nat.le_of_ble_eq_true rfl) (fun C ad _ => ?_)
  show zX C mi_X3_againSheet (zFin C zrvI ad T R) 0 0 (mf_X3_againSheet R a0 i1 M) 0 [(0, .ref a0), (1, .int i1)] [] ad T R M
  unfold mf_X3_againSheet
  refine zx_aload_n (i := 0) (zd me_X3_againSheet 0 rfl) rfl 0 rfl ?_
  refine zx_getR (zd me_X3_againSheet 1 rfl) fl_X3_15 (zi3_c h0) rfl (zi3_r0 h0) ?_
  refine zx_iload_n (i := 1) (zd me_X3_againSheet 2 rfl) rfl 1 rfl ?_
  refine zx_callVI1 (zd me_X3_againSheet 3 rfl) (mc_X7_hasSheet (zl C) (zi3_t0 h0) i1 M) lk_X3_62 ⟨(Nat.le_of_ble_eq_true rfl), (Nat.le_of_ble_eq_true rfl)⟩ (Nat.le_of_ble_eq_true rfl) (zi7_c (zi3_t0 h0)) rfl (fun r2 M1 => ?_)
  refine zx_if_ne (tgt := 13) (zd me_X3_againSheet 4 rfl) (by decide) (fun c3 => ?_) (fun c3 => ?_)
  · refine zx_aload_n (i := 0) (zd me_X3_againSheet 7 rfl) rfl 0 rfl ?_
    refine zx_getR (zd me_X3_againSheet 8 rfl) fl_X3_11 (zi3_c h0) rfl (zi3_r1 h0) ?_
    refine zx_bipush (v := 12) (zd me_X3_againSheet 9 rfl) (by decide) ?_
    refine zx_iload_n (i := 1) (zd me_X3_againSheet 10 rfl) rfl 1 rfl ?_
    refine zx_iadd (zd me_X3_againSheet 11 rfl) ?_
    refine zx_iald (zd me_X3_againSheet 12 rfl) (zi3_t1 h0) (fun j4 hj4 => ?_)
    refine zx_iconst (v := 3) (zd me_X3_againSheet 13 rfl) (by decide) ?_
    refine zx_icmp_eq (tgt := 28) (zd me_X3_againSheet 14 rfl) (by decide) (fun c5 => ?_) (fun c5 => ?_)
    · refine zx_aload_n (i := 0) (zd me_X3_againSheet 17 rfl) rfl 0 rfl ?_
      refine zx_iload_n (i := 1) (zd me_X3_againSheet 18 rfl) rfl 1 rfl ?_
      refine zx_iconst (v := 0) (zd me_X3_againSheet 19 rfl) (by decide) ?_
      refine zx_callVV2 (zd me_X3_againSheet 20 rfl) (mc_X3_settle (zl C) h0 i1 (0 : Int32) M1) lk_X3_98 ⟨(Nat.le_of_ble_eq_true rfl), (Nat.le_of_ble_eq_true rfl)⟩ (Nat.le_of_ble_eq_true rfl) (zi3_c h0) rfl (fun r7 M6 => ?_)
      refine zx_iconst (v := 0) (zd me_X3_againSheet 21 rfl) (by decide) ?_
      exact zx_iret (zd me_X3_againSheet 22 rfl) rfl
    · refine zx_iconst (v := 1) (zd me_X3_againSheet 15 rfl) (by decide) ?_
      exact zx_iret (zd me_X3_againSheet 16 rfl) rfl
  · refine zx_iconst (v := (-1)) (zd me_X3_againSheet 5 rfl) (by decide) ?_
    exact zx_iret (zd me_X3_againSheet 6 rfl) rfl
def mf_X3_renewBath (R : zRR) (a0 : Nat) (i1 : Int32) (M : zMem) : Option (Int32 × zMem) :=
  zcl (mf_X7_hasBath R (zrf R a0 0) i1 M) fun r2 M1 =>
  if r2 = 0 then
    (some ((-1 : Int32), M1))
  else
    (zald 62 ((0 : Int32) + i1) fun j4 =>
    if (M1.1 (zrf R a0 1) j4) = 0 then
      (some ((1 : Int32), M1))
    else
      (zald 62 (61 : Int32) fun j6 =>
      if 0 < (M1.1 (zrf R a0 1) j6) then
        (zald 62 ((6 : Int32) + i1) fun j8 =>
        if (M1.1 (zrf R a0 1) j8) = 0 then
          (zald 62 ((0 : Int32) + i1) fun j10 =>
          zlet (zwI M1 (zrf R a0 1) j10 (0 : Int32)) fun M11 =>
          zald 62 (61 : Int32) fun j12 =>
          zald 62 (61 : Int32) fun j13 =>
          zlet (zwI M11 (zrf R a0 1) j13 ((M11.1 (zrf R a0 1) j12) - (1 : Int32))) fun M14 =>
          some ((0 : Int32), M14))
        else
          (some ((3 : Int32), M1)))
      else
        (some ((2 : Int32), M1))))
theorem mc_X3_renewBath (l : Launch) {T : zTT} {R : zRR} {a0 : Nat} (h0 : zi3 T R a0) (i1 : Int32) (M : zMem) : zMS l yX3_renewBath mi_X3_renewBath zrvI (mf_X3_renewBath R a0 i1 M) [.ref a0, .int i1] T R M := by
  refine zMS.of (by decide +kernel) rfl ⟨rfl, rfl⟩ (Nat.le_of_ble_eq_true rfl) (fun C ad _ => ?_)
  show zX C mi_X3_renewBath (zFin C zrvI ad T R) 0 0 (mf_X3_renewBath R a0 i1 M) 0 [(0, .ref a0), (1, .int i1)] [] ad T R M
  unfold mf_X3_renewBath
  refine zx_aload_n (i := 0) (zd me_X3_renewBath 0 rfl) rfl 0 rfl ?_
  refine zx_getR (zd me_X3_renewBath 1 rfl) fl_X3_15 (zi3_c h0) rfl (zi3_r0 h0) ?_
  refine zx_iload_n (i := 1) (zd me_X3_renewBath 2 rfl) rfl 1 rfl ?_
  refine zx_callVI1 (zd me_X3_renewBath 3 rfl) (mc_X7_hasBath (zl C) (zi3_t0 h0) i1 M) lk_X3_40 ⟨(Nat.le_of_ble_eq_true rfl), (Nat.le_of_ble_eq_true rfl)⟩ (Nat.le_of_ble_eq_true rfl) (zi7_c (zi3_t0 h0)) rfl (fun r2 M1 => ?_)
  refine zx_if_ne (tgt := 13) (zd me_X3_renewBath 4 rfl) (by decide) (fun c3 => ?_) (fun c3 => ?_)
  · refine zx_aload_n (i := 0) (zd me_X3_renewBath 7 rfl) rfl 0 rfl ?_
    refine zx_getR (zd me_X3_renewBath 8 rfl) fl_X3_11 (zi3_c h0) rfl (zi3_r1 h0) ?_
    refine zx_iconst (v := 0) (zd me_X3_renewBath 9 rfl) (by decide) ?_
    refine zx_iload_n (i := 1) (zd me_X3_renewBath 10 rfl) rfl 1 rfl ?_
    refine zx_iadd (zd me_X3_renewBath 11 rfl) ?_
    refine zx_iald (zd me_X3_renewBath 12 rfl) (zi3_t1 h0) (fun j4 hj4 => ?_)
    refine zx_if_ne (tgt := 26) (zd me_X3_renewBath 13 rfl) (by decide) (fun c5 => ?_) (fun c5 => ?_)
    · refine zx_aload_n (i := 0) (zd me_X3_renewBath 16 rfl) rfl 0 rfl ?_
      refine zx_getR (zd me_X3_renewBath 17 rfl) fl_X3_11 (zi3_c h0) rfl (zi3_r1 h0) ?_
      refine zx_bipush (v := 61) (zd me_X3_renewBath 18 rfl) (by decide) ?_
      refine zx_iald (zd me_X3_renewBath 19 rfl) (zi3_t1 h0) (fun j6 hj6 => ?_)
      refine zx_if_gt (tgt := 38) (zd me_X3_renewBath 20 rfl) (by decide) (fun c7 => ?_) (fun c7 => ?_)
      · refine zx_aload_n (i := 0) (zd me_X3_renewBath 23 rfl) rfl 0 rfl ?_
        refine zx_getR (zd me_X3_renewBath 24 rfl) fl_X3_11 (zi3_c h0) rfl (zi3_r1 h0) ?_
        refine zx_bipush (v := 6) (zd me_X3_renewBath 25 rfl) (by decide) ?_
        refine zx_iload_n (i := 1) (zd me_X3_renewBath 26 rfl) rfl 1 rfl ?_
        refine zx_iadd (zd me_X3_renewBath 27 rfl) ?_
        refine zx_iald (zd me_X3_renewBath 28 rfl) (zi3_t1 h0) (fun j8 hj8 => ?_)
        refine zx_if_eq (tgt := 52) (zd me_X3_renewBath 29 rfl) (by decide) (fun c9 => ?_) (fun c9 => ?_)
        · refine zx_aload_n (i := 0) (zd me_X3_renewBath 32 rfl) rfl 0 rfl ?_
          refine zx_getR (zd me_X3_renewBath 33 rfl) fl_X3_11 (zi3_c h0) rfl (zi3_r1 h0) ?_
          refine zx_iconst (v := 0) (zd me_X3_renewBath 34 rfl) (by decide) ?_
          refine zx_iload_n (i := 1) (zd me_X3_renewBath 35 rfl) rfl 1 rfl ?_
          refine zx_iadd (zd me_X3_renewBath 36 rfl) ?_
          refine zx_iconst (v := 0) (zd me_X3_renewBath 37 rfl) (by decide) ?_
          refine zx_iast (zd me_X3_renewBath 38 rfl) (zi3_t1 h0) (fun M11 => ?_)
          refine zx_aload_n (i := 0) (zd me_X3_renewBath 39 rfl) rfl 0 rfl ?_
          refine zx_getR (zd me_X3_renewBath 40 rfl) fl_X3_11 (zi3_c h0) rfl (zi3_r1 h0) ?_
          refine zx_bipush (v := 61) (zd me_X3_renewBath 41 rfl) (by decide) ?_
          refine zx_dup2 (zd me_X3_renewBath 42 rfl) rfl rfl ?_
          refine zx_iald (zd me_X3_renewBath 43 rfl) (zi3_t1 h0) (fun j12 hj12 => ?_)
          refine zx_iconst (v := 1) (zd me_X3_renewBath 44 rfl) (by decide) ?_
          refine zx_isub (zd me_X3_renewBath 45 rfl) ?_
          refine zx_iast (zd me_X3_renewBath 46 rfl) (zi3_t1 h0) (fun M14 => ?_)
          refine zx_iconst (v := 0) (zd me_X3_renewBath 47 rfl) (by decide) ?_
          exact zx_iret (zd me_X3_renewBath 48 rfl) rfl
        · refine zx_iconst (v := 3) (zd me_X3_renewBath 30 rfl) (by decide) ?_
          exact zx_iret (zd me_X3_renewBath 31 rfl) rfl
      · refine zx_iconst (v := 2) (zd me_X3_renewBath 21 rfl) (by decide) ?_
        exact zx_iret (zd me_X3_renewBath 22 rfl) rfl
    · refine zx_iconst (v := 1) (zd me_X3_renewBath 14 rfl) (by decide) ?_
      exact zx_iret (zd me_X3_renewBath 15 rfl) rfl
  · refine zx_iconst (v := (-1)) (zd me_X3_renewBath 5 rfl) (by decide) ?_
    exact zx_iret (zd me_X3_renewBath 6 rfl) rfl
def mf_X3_minute (R : zRR) (a0 : Nat) (M : zMem) : Option (Int32 × zMem) :=
  zald 62 (60 : Int32) fun j1 =>
  some ((M.1 (zrf R a0 1) j1), M)
theorem mc_X3_minute (l : Launch) {T : zTT} {R : zRR} {a0 : Nat} (h0 : zi3 T R a0) (M : zMem) : zMS l yX3_minute mi_X3_minute zrvI (mf_X3_minute R a0 M) [.ref a0] T R M := by
  refine zMS.of (by decide +kernel) rfl ⟨rfl, rfl⟩ (Nat.le_of_ble_eq_true rfl) (fun C ad _ => ?_)
  show zX C mi_X3_minute (zFin C zrvI ad T R) 0 0 (mf_X3_minute R a0 M) 0 [(0, .ref a0)] [] ad T R M
  unfold mf_X3_minute
  refine zx_aload_n (i := 0) (zd me_X3_minute 0 rfl) rfl 0 rfl ?_
  refine zx_getR (zd me_X3_minute 1 rfl) fl_X3_11 (zi3_c h0) rfl (zi3_r1 h0) ?_
  refine zx_bipush (v := 60) (zd me_X3_minute 2 rfl) (by decide) ?_
  refine zx_iald (zd me_X3_minute 3 rfl) (zi3_t1 h0) (fun j1 hj1 => ?_)
  exact zx_iret (zd me_X3_minute 4 rfl) rfl
def mf_X3_quietMinutes_b55 (R : zRR) (a0 : Nat) (H4 : Int32 → Int32 → zMem → Option (Int32 × zMem)) (i2 : Int32) (i3 : Int32) (M : zMem) : Option (Int32 × zMem) :=
  H4 i2 (i3 + 1) M
theorem mt_X3_quietMinutes_b55 {C : zCx} {ad : Nat → Nat} {T : zTT} {R : zRR} {a0 : Nat} (h0 : zi3 T R a0) {H4 : Int32 → Int32 → zMem → Option (Int32 × zMem)} (hH4 : ∀ (i2 : Int32) (i3 : Int32) (M : zMem), zX C mi_X3_quietMinutes (zFin C zrvI ad T R) 0 0 (H4 i2 i3 M) 4 [(0, .ref a0), (2, .int i2), (3, .int i3)] [] ad T R M) (i2 : Int32) (i3 : Int32) (M : zMem) : zX C mi_X3_quietMinutes (zFin C zrvI ad T R) 0 0 (mf_X3_quietMinutes_b55 R a0 H4 i2 i3 M) 55 [(0, .ref a0), (2, .int i2), (3, .int i3)] [] ad T R M := by
  unfold mf_X3_quietMinutes_b55
  refine zx_iinc (v := 1) (ls' := [(3, .int (i3 + 1)), (0, .ref a0), (2, .int i2)]) (zd me_X3_quietMinutes 36 rfl) (Nat.le_of_ble_eq_true rfl) 2 rfl (by decide) rfl ?_
  refine zx_goto (tgt := 4) (zd me_X3_quietMinutes 37 rfl) (by decide) ?_
  refine zx_loc [1, 2, 0] rfl ?_
  exact hH4 i2 (i3 + 1) M
def mf_X3_quietMinutes_l4 (R : zRR) (a0 : Nat) : Nat → Int32 → Int32 → zMem → Option (Int32 × zMem)
  | 0, _, _, _ => none
  | fuel + 1, i2, i3, M =>
    if (M.1 (zrf R a0 0) 2) ≤ i3 then
      (some (i2, M))
    else
      (zald 62 ((12 : Int32) + i3) fun j2 =>
      if (M.1 (zrf R a0 1) j2) = (1 : Int32) then
        (zald 62 ((28 : Int32) + i3) fun j4 =>
        if i2 ≤ ((M.1 (zrf R a0 1) j4) - (1 : Int32)) then
          (mf_X3_quietMinutes_b55 R a0 (mf_X3_quietMinutes_l4 R a0 fuel) i2 i3 M)
        else
          (zald 62 ((28 : Int32) + i3) fun j6 =>
          zlet (((M.1 (zrf R a0 1) j6) - (1 : Int32)) : Int32) fun x7 =>
          mf_X3_quietMinutes_b55 R a0 (mf_X3_quietMinutes_l4 R a0 fuel) x7 i3 M))
      else
        (mf_X3_quietMinutes_b55 R a0 (mf_X3_quietMinutes_l4 R a0 fuel) i2 i3 M))
theorem mt_X3_quietMinutes_l4 {C : zCx} {ad : Nat → Nat} {T : zTT} {R : zRR} {a0 : Nat} (h0 : zi3 T R a0) : ∀ (fuel : Nat) (i2 : Int32) (i3 : Int32) (M : zMem), zX C mi_X3_quietMinutes (zFin C zrvI ad T R) 0 0 (mf_X3_quietMinutes_l4 R a0 fuel i2 i3 M) 4 [(0, .ref a0), (2, .int i2), (3, .int i3)] [] ad T R M := by
  intro fuel
  induction fuel with
  | zero => intros; exact zx_none
  | succ fuel ih =>
    intro i2 i3 M
    rw [mf_X3_quietMinutes_l4]
    refine zx_iload_n (i := 3) (zd me_X3_quietMinutes 4 rfl) rfl 2 rfl ?_
    refine zx_aload_n (i := 0) (zd me_X3_quietMinutes 5 rfl) rfl 0 rfl ?_
    refine zx_getR (zd me_X3_quietMinutes 6 rfl) fl_X3_15 (zi3_c h0) rfl (zi3_r0 h0) ?_
    refine zx_getI (zd me_X3_quietMinutes 7 rfl) fl_X3_80 (zi7_c (zi3_t0 h0)) rfl ?_
    refine zx_icmp_ge (tgt := 61) (zd me_X3_quietMinutes 8 rfl) (by decide) (fun c1 => ?_) (fun c1 => ?_)
    · refine zx_iload_n (i := 2) (zd me_X3_quietMinutes 38 rfl) rfl 1 rfl ?_
      exact zx_iret (zd me_X3_quietMinutes 39 rfl) rfl
    · refine zx_aload_n (i := 0) (zd me_X3_quietMinutes 9 rfl) rfl 0 rfl ?_
      refine zx_getR (zd me_X3_quietMinutes 10 rfl) fl_X3_11 (zi3_c h0) rfl (zi3_r1 h0) ?_
      refine zx_bipush (v := 12) (zd me_X3_quietMinutes 11 rfl) (by decide) ?_
      refine zx_iload_n (i := 3) (zd me_X3_quietMinutes 12 rfl) rfl 2 rfl ?_
      refine zx_iadd (zd me_X3_quietMinutes 13 rfl) ?_
      refine zx_iald (zd me_X3_quietMinutes 14 rfl) (zi3_t1 h0) (fun j2 hj2 => ?_)
      refine zx_iconst (v := 1) (zd me_X3_quietMinutes 15 rfl) (by decide) ?_
      refine zx_icmp_ne (tgt := 55) (zd me_X3_quietMinutes 16 rfl) (by decide) (fun c3 => ?_) (fun c3 => ?_)
      · exact mt_X3_quietMinutes_b55 h0 ih i2 i3 M
      · refine zx_aload_n (i := 0) (zd me_X3_quietMinutes 17 rfl) rfl 0 rfl ?_
        refine zx_getR (zd me_X3_quietMinutes 18 rfl) fl_X3_11 (zi3_c h0) rfl (zi3_r1 h0) ?_
        refine zx_bipush (v := 28) (zd me_X3_quietMinutes 19 rfl) (by decide) ?_
        refine zx_iload_n (i := 3) (zd me_X3_quietMinutes 20 rfl) rfl 2 rfl ?_
        refine zx_iadd (zd me_X3_quietMinutes 21 rfl) ?_
        refine zx_iald (zd me_X3_quietMinutes 22 rfl) (zi3_t1 h0) (fun j4 hj4 => ?_)
        refine zx_iconst (v := 1) (zd me_X3_quietMinutes 23 rfl) (by decide) ?_
        refine zx_isub (zd me_X3_quietMinutes 24 rfl) ?_
        refine zx_iload_n (i := 2) (zd me_X3_quietMinutes 25 rfl) rfl 1 rfl ?_
        refine zx_icmp_ge (tgt := 55) (zd me_X3_quietMinutes 26 rfl) (by decide) (fun c5 => ?_) (fun c5 => ?_)
        · exact mt_X3_quietMinutes_b55 h0 ih i2 i3 M
        · refine zx_aload_n (i := 0) (zd me_X3_quietMinutes 27 rfl) rfl 0 rfl ?_
          refine zx_getR (zd me_X3_quietMinutes 28 rfl) fl_X3_11 (zi3_c h0) rfl (zi3_r1 h0) ?_
          refine zx_bipush (v := 28) (zd me_X3_quietMinutes 29 rfl) (by decide) ?_
          refine zx_iload_n (i := 3) (zd me_X3_quietMinutes 30 rfl) rfl 2 rfl ?_
          refine zx_iadd (zd me_X3_quietMinutes 31 rfl) ?_
          refine zx_iald (zd me_X3_quietMinutes 32 rfl) (zi3_t1 h0) (fun j6 hj6 => ?_)
          refine zx_iconst (v := 1) (zd me_X3_quietMinutes 33 rfl) (by decide) ?_
          refine zx_isub (zd me_X3_quietMinutes 34 rfl) ?_
          refine zx_leti (fun x7 => ?_)
          refine zx_istore_n (i := 2) (ls' := [(2, .int x7), (0, .ref a0), (3, .int i3)]) (zd me_X3_quietMinutes 35 rfl) rfl (Nat.le_of_ble_eq_true rfl) rfl ?_
          refine zx_loc [1, 0, 2] rfl ?_
          exact mt_X3_quietMinutes_b55 h0 ih x7 i3 M
def mf_X3_quietMinutes (R : zRR) (a0 : Nat) (i1 : Int32) (M : zMem) : Option (Int32 × zMem) :=
  mf_X3_quietMinutes_l4 R a0 zF i1 (0 : Int32) M
theorem mc_X3_quietMinutes (l : Launch) {T : zTT} {R : zRR} {a0 : Nat} (h0 : zi3 T R a0) (i1 : Int32) (M : zMem) : zMS l yX3_quietMinutes mi_X3_quietMinutes zrvI (mf_X3_quietMinutes R a0 i1 M) [.ref a0, .int i1] T R M := by
  refine zMS.of (by decide +kernel) rfl ⟨rfl, rfl⟩ (Nat.le_of_ble_eq_true rfl) (fun C ad _ => ?_)
  show zX C mi_X3_quietMinutes (zFin C zrvI ad T R) 0 0 (mf_X3_quietMinutes R a0 i1 M) 0 [(0, .ref a0), (1, .int i1)] [] ad T R M
  unfold mf_X3_quietMinutes
  refine zx_iload_n (i := 1) (zd me_X3_quietMinutes 0 rfl) rfl 1 rfl ?_
  refine zx_istore_n (i := 2) (ls' := [(2, .int i1), (0, .ref a0), (1, .int i1)]) (zd me_X3_quietMinutes 1 rfl) rfl (Nat.le_of_ble_eq_true rfl) rfl ?_
  refine zx_iconst (v := 0) (zd me_X3_quietMinutes 2 rfl) (by decide) ?_
  refine zx_istore_n (i := 3) (ls' := [(3, .int (0 : Int32)), (2, .int i1), (0, .ref a0), (1, .int i1)]) (zd me_X3_quietMinutes 3 rfl) rfl (Nat.le_of_ble_eq_true rfl) rfl ?_
  refine zx_loc [2, 1, 0] rfl ?_
  exact mt_X3_quietMinutes_l4 h0 zF i1 (0 : Int32) M
def mf_X3_skip_b39 (R : zRR) (a0 : Nat) (H2 : Int32 → Int32 → zMem → Option (Unit × zMem)) (i1 : Int32) (i2 : Int32) (M : zMem) : Option (Unit × zMem) :=
  H2 i1 (i2 + 1) M
theorem mt_X3_skip_b39 {C : zCx} {ad : Nat → Nat} {T : zTT} {R : zRR} {a0 : Nat} (h0 : zi3 T R a0) {H2 : Int32 → Int32 → zMem → Option (Unit × zMem)} (hH2 : ∀ (i1 : Int32) (i2 : Int32) (M : zMem), zX C mi_X3_skip (zFin C zrvV ad T R) 0 0 (H2 i1 i2 M) 2 [(0, .ref a0), (1, .int i1), (2, .int i2)] [] ad T R M) (i1 : Int32) (i2 : Int32) (M : zMem) : zX C mi_X3_skip (zFin C zrvV ad T R) 0 0 (mf_X3_skip_b39 R a0 H2 i1 i2 M) 39 [(0, .ref a0), (1, .int i1), (2, .int i2)] [] ad T R M := by
  unfold mf_X3_skip_b39
  refine zx_iinc (v := 1) (ls' := [(2, .int (i2 + 1)), (0, .ref a0), (1, .int i1)]) (zd me_X3_skip 25 rfl) (Nat.le_of_ble_eq_true rfl) 2 rfl (by decide) rfl ?_
  refine zx_goto (tgt := 2) (zd me_X3_skip 26 rfl) (by decide) ?_
  refine zx_loc [1, 2, 0] rfl ?_
  exact hH2 i1 (i2 + 1) M
def mf_X3_skip_l2 (R : zRR) (a0 : Nat) : Nat → Int32 → Int32 → zMem → Option (Unit × zMem)
  | 0, _, _, _ => none
  | fuel + 1, i1, i2, M =>
    if (M.1 (zrf R a0 0) 2) ≤ i2 then
      (zald 62 (60 : Int32) fun j2 =>
      zald 62 (60 : Int32) fun j3 =>
      zlet (zwI M (zrf R a0 1) j3 ((M.1 (zrf R a0 1) j2) + i1)) fun M4 =>
      some ((), M4))
    else
      (zald 62 ((12 : Int32) + i2) fun j5 =>
      if (M.1 (zrf R a0 1) j5) = (1 : Int32) then
        (zald 62 ((28 : Int32) + i2) fun j7 =>
        zald 62 ((28 : Int32) + i2) fun j8 =>
        zlet (zwI M (zrf R a0 1) j8 ((M.1 (zrf R a0 1) j7) - i1)) fun M9 =>
        mf_X3_skip_b39 R a0 (mf_X3_skip_l2 R a0 fuel) i1 i2 M9)
      else
        (mf_X3_skip_b39 R a0 (mf_X3_skip_l2 R a0 fuel) i1 i2 M))
theorem mt_X3_skip_l2 {C : zCx} {ad : Nat → Nat} {T : zTT} {R : zRR} {a0 : Nat} (h0 : zi3 T R a0) : ∀ (fuel : Nat) (i1 : Int32) (i2 : Int32) (M : zMem), zX C mi_X3_skip (zFin C zrvV ad T R) 0 0 (mf_X3_skip_l2 R a0 fuel i1 i2 M) 2 [(0, .ref a0), (1, .int i1), (2, .int i2)] [] ad T R M := by
  intro fuel
  induction fuel with
  | zero => intros; exact zx_none
  | succ fuel ih =>
    intro i1 i2 M
    rw [mf_X3_skip_l2]
    refine zx_iload_n (i := 2) (zd me_X3_skip 2 rfl) rfl 2 rfl ?_
    refine zx_aload_n (i := 0) (zd me_X3_skip 3 rfl) rfl 0 rfl ?_
    refine zx_getR (zd me_X3_skip 4 rfl) fl_X3_15 (zi3_c h0) rfl (zi3_r0 h0) ?_
    refine zx_getI (zd me_X3_skip 5 rfl) fl_X3_80 (zi7_c (zi3_t0 h0)) rfl ?_
    refine zx_icmp_ge (tgt := 45) (zd me_X3_skip 6 rfl) (by decide) (fun c1 => ?_) (fun c1 => ?_)
    · refine zx_aload_n (i := 0) (zd me_X3_skip 27 rfl) rfl 0 rfl ?_
      refine zx_getR (zd me_X3_skip 28 rfl) fl_X3_11 (zi3_c h0) rfl (zi3_r1 h0) ?_
      refine zx_bipush (v := 60) (zd me_X3_skip 29 rfl) (by decide) ?_
      refine zx_dup2 (zd me_X3_skip 30 rfl) rfl rfl ?_
      refine zx_iald (zd me_X3_skip 31 rfl) (zi3_t1 h0) (fun j2 hj2 => ?_)
      refine zx_iload_n (i := 1) (zd me_X3_skip 32 rfl) rfl 1 rfl ?_
      refine zx_iadd (zd me_X3_skip 33 rfl) ?_
      refine zx_iast (zd me_X3_skip 34 rfl) (zi3_t1 h0) (fun M4 => ?_)
      exact zx_vret (zd me_X3_skip 35 rfl) rfl
    · refine zx_aload_n (i := 0) (zd me_X3_skip 7 rfl) rfl 0 rfl ?_
      refine zx_getR (zd me_X3_skip 8 rfl) fl_X3_11 (zi3_c h0) rfl (zi3_r1 h0) ?_
      refine zx_bipush (v := 12) (zd me_X3_skip 9 rfl) (by decide) ?_
      refine zx_iload_n (i := 2) (zd me_X3_skip 10 rfl) rfl 2 rfl ?_
      refine zx_iadd (zd me_X3_skip 11 rfl) ?_
      refine zx_iald (zd me_X3_skip 12 rfl) (zi3_t1 h0) (fun j5 hj5 => ?_)
      refine zx_iconst (v := 1) (zd me_X3_skip 13 rfl) (by decide) ?_
      refine zx_icmp_ne (tgt := 39) (zd me_X3_skip 14 rfl) (by decide) (fun c6 => ?_) (fun c6 => ?_)
      · exact mt_X3_skip_b39 h0 ih i1 i2 M
      · refine zx_aload_n (i := 0) (zd me_X3_skip 15 rfl) rfl 0 rfl ?_
        refine zx_getR (zd me_X3_skip 16 rfl) fl_X3_11 (zi3_c h0) rfl (zi3_r1 h0) ?_
        refine zx_bipush (v := 28) (zd me_X3_skip 17 rfl) (by decide) ?_
        refine zx_iload_n (i := 2) (zd me_X3_skip 18 rfl) rfl 2 rfl ?_
        refine zx_iadd (zd me_X3_skip 19 rfl) ?_
        refine zx_dup2 (zd me_X3_skip 20 rfl) rfl rfl ?_
        refine zx_iald (zd me_X3_skip 21 rfl) (zi3_t1 h0) (fun j7 hj7 => ?_)
        refine zx_iload_n (i := 1) (zd me_X3_skip 22 rfl) rfl 1 rfl ?_
        refine zx_isub (zd me_X3_skip 23 rfl) ?_
        refine zx_iast (zd me_X3_skip 24 rfl) (zi3_t1 h0) (fun M9 => ?_)
        exact mt_X3_skip_b39 h0 ih i1 i2 M9
def mf_X3_skip (R : zRR) (a0 : Nat) (i1 : Int32) (M : zMem) : Option (Unit × zMem) :=
  mf_X3_skip_l2 R a0 zF i1 (0 : Int32) M
theorem mc_X3_skip (l : Launch) {T : zTT} {R : zRR} {a0 : Nat} (h0 : zi3 T R a0) (i1 : Int32) (M : zMem) : zMS l yX3_skip mi_X3_skip zrvV (mf_X3_skip R a0 i1 M) [.ref a0, .int i1] T R M := by
  refine zMS.of (by decide +kernel) rfl ⟨rfl, rfl⟩ (Nat.le_of_ble_eq_true rfl) (fun C ad _ => ?_)
  show zX C mi_X3_skip (zFin C zrvV ad T R) 0 0 (mf_X3_skip R a0 i1 M) 0 [(0, .ref a0), (1, .int i1)] [] ad T R M
  unfold mf_X3_skip
  refine zx_iconst (v := 0) (zd me_X3_skip 0 rfl) (by decide) ?_
  refine zx_istore_n (i := 2) (ls' := [(2, .int (0 : Int32)), (0, .ref a0), (1, .int i1)]) (zd me_X3_skip 1 rfl) rfl (Nat.le_of_ble_eq_true rfl) rfl ?_
  refine zx_loc [1, 2, 0] rfl ?_
  exact mt_X3_skip_l2 h0 zF i1 (0 : Int32) M
def mf_X3_work_b25 (R : zRR) (a0 : Nat) (i1 : Int32) (i2 : Int32) (M : zMem) : Option (Unit × zMem) :=
  zald 62 ((28 : Int32) + i1) fun j6 =>
  if (M.1 (zrf R a0 1) j6) ≤ 0 then
    (zcl (mf_X7_bathAfter R (zrf R a0 0) i1 i2 M) fun r9 M8 =>
    if r9 = (-1 : Int32) then
      (zcl (mf_X3_settle R a0 i1 (2 : Int32) M8) fun _ M26 =>
      some ((), M26))
    else
      (zcl (mf_X3_isOpen R a0 r9 M8) fun r12 M11 =>
      if r12 = 0 then
        (zald 62 ((36 : Int32) + i1) fun j14 =>
        if (M11.1 (zrf R a0 1) j14) < (M11.1 (zrf R a0 0) 3) then
          (zald 62 ((36 : Int32) + i1) fun j16 =>
          zald 62 ((36 : Int32) + i1) fun j17 =>
          zlet (zwI M11 (zrf R a0 1) j17 ((M11.1 (zrf R a0 1) j16) + (1 : Int32))) fun M18 =>
          zald 62 ((44 : Int32) + i1) fun j19 =>
          zald 62 ((44 : Int32) + i1) fun j20 =>
          zlet (zwI M18 (zrf R a0 1) j20 ((M18.1 (zrf R a0 1) j19) + (1 : Int32))) fun M21 =>
          some ((), M21))
        else
          (zcl (mf_X3_settle R a0 i1 (3 : Int32) M11) fun _ M22 =>
          some ((), M22)))
      else
        (zcl (mf_X3_enter R a0 i1 r9 M11) fun _ M24 =>
        some ((), M24))))
  else
    (some ((), M))
theorem mt_X3_work_b25 {C : zCx} {ad : Nat → Nat} {T : zTT} {R : zRR} {a0 : Nat} (h0 : zi3 T R a0) (i1 : Int32) (i2 : Int32) (M : zMem) : zX C mi_X3_work (zFin C zrvV ad T R) 0 0 (mf_X3_work_b25 R a0 i1 i2 M) 25 [(0, .ref a0), (1, .int i1), (2, .int i2)] [] ad T R M := by
  unfold mf_X3_work_b25
  refine zx_aload_n (i := 0) (zd me_X3_work 17 rfl) rfl 0 rfl ?_
  refine zx_getR (zd me_X3_work 18 rfl) fl_X3_11 (zi3_c h0) rfl (zi3_r1 h0) ?_
  refine zx_bipush (v := 28) (zd me_X3_work 19 rfl) (by decide) ?_
  refine zx_iload_n (i := 1) (zd me_X3_work 20 rfl) rfl 1 rfl ?_
  refine zx_iadd (zd me_X3_work 21 rfl) ?_
  refine zx_iald (zd me_X3_work 22 rfl) (zi3_t1 h0) (fun j6 hj6 => ?_)
  refine zx_if_le (tgt := 38) (zd me_X3_work 23 rfl) (by decide) (fun c7 => ?_) (fun c7 => ?_)
  · refine zx_aload_n (i := 0) (zd me_X3_work 25 rfl) rfl 0 rfl ?_
    refine zx_getR (zd me_X3_work 26 rfl) fl_X3_15 (zi3_c h0) rfl (zi3_r0 h0) ?_
    refine zx_iload_n (i := 1) (zd me_X3_work 27 rfl) rfl 1 rfl ?_
    refine zx_iload_n (i := 2) (zd me_X3_work 28 rfl) rfl 2 rfl ?_
    refine zx_callVI2 (zd me_X3_work 29 rfl) (mc_X7_bathAfter (zl C) (zi3_t0 h0) i1 i2 M) lk_X3_95 ⟨(Nat.le_of_ble_eq_true rfl), (Nat.le_of_ble_eq_true rfl)⟩ (Nat.le_of_ble_eq_true rfl) (zi7_c (zi3_t0 h0)) rfl (fun r9 M8 => ?_)
    refine zx_istore_n (i := 3) (ls' := [(3, .int r9), (0, .ref a0), (1, .int i1), (2, .int i2)]) (zd me_X3_work 30 rfl) rfl (Nat.le_of_ble_eq_true rfl) rfl ?_
    refine zx_iload_n (i := 3) (zd me_X3_work 31 rfl) rfl 0 rfl ?_
    refine zx_iconst (v := (-1)) (zd me_X3_work 32 rfl) (by decide) ?_
    refine zx_icmp_ne (tgt := 62) (zd me_X3_work 33 rfl) (by decide) (fun c10 => ?_) (fun c10 => ?_)
    · refine zx_aload_n (i := 0) (zd me_X3_work 39 rfl) rfl 1 rfl ?_
      refine zx_iload_n (i := 3) (zd me_X3_work 40 rfl) rfl 0 rfl ?_
      refine zx_callVI1 (zd me_X3_work 41 rfl) (mc_X3_isOpen (zl C) h0 r9 M8) lk_X3_59 ⟨(Nat.le_of_ble_eq_true rfl), (Nat.le_of_ble_eq_true rfl)⟩ (Nat.le_of_ble_eq_true rfl) (zi3_c h0) rfl (fun r12 M11 => ?_)
      refine zx_if_eq (tgt := 79) (zd me_X3_work 42 rfl) (by decide) (fun c13 => ?_) (fun c13 => ?_)
      · refine zx_aload_n (i := 0) (zd me_X3_work 48 rfl) rfl 1 rfl ?_
        refine zx_getR (zd me_X3_work 49 rfl) fl_X3_11 (zi3_c h0) rfl (zi3_r1 h0) ?_
        refine zx_bipush (v := 36) (zd me_X3_work 50 rfl) (by decide) ?_
        refine zx_iload_n (i := 1) (zd me_X3_work 51 rfl) rfl 2 rfl ?_
        refine zx_iadd (zd me_X3_work 52 rfl) ?_
        refine zx_iald (zd me_X3_work 53 rfl) (zi3_t1 h0) (fun j14 hj14 => ?_)
        refine zx_aload_n (i := 0) (zd me_X3_work 54 rfl) rfl 1 rfl ?_
        refine zx_getR (zd me_X3_work 55 rfl) fl_X3_15 (zi3_c h0) rfl (zi3_r0 h0) ?_
        refine zx_getI (zd me_X3_work 56 rfl) fl_X3_118 (zi7_c (zi3_t0 h0)) rfl ?_
        refine zx_icmp_lt (tgt := 107) (zd me_X3_work 57 rfl) (by decide) (fun c15 => ?_) (fun c15 => ?_)
        · refine zx_aload_n (i := 0) (zd me_X3_work 63 rfl) rfl 1 rfl ?_
          refine zx_getR (zd me_X3_work 64 rfl) fl_X3_11 (zi3_c h0) rfl (zi3_r1 h0) ?_
          refine zx_bipush (v := 36) (zd me_X3_work 65 rfl) (by decide) ?_
          refine zx_iload_n (i := 1) (zd me_X3_work 66 rfl) rfl 2 rfl ?_
          refine zx_iadd (zd me_X3_work 67 rfl) ?_
          refine zx_dup2 (zd me_X3_work 68 rfl) rfl rfl ?_
          refine zx_iald (zd me_X3_work 69 rfl) (zi3_t1 h0) (fun j16 hj16 => ?_)
          refine zx_iconst (v := 1) (zd me_X3_work 70 rfl) (by decide) ?_
          refine zx_iadd (zd me_X3_work 71 rfl) ?_
          refine zx_iast (zd me_X3_work 72 rfl) (zi3_t1 h0) (fun M18 => ?_)
          refine zx_aload_n (i := 0) (zd me_X3_work 73 rfl) rfl 1 rfl ?_
          refine zx_getR (zd me_X3_work 74 rfl) fl_X3_11 (zi3_c h0) rfl (zi3_r1 h0) ?_
          refine zx_bipush (v := 44) (zd me_X3_work 75 rfl) (by decide) ?_
          refine zx_iload_n (i := 1) (zd me_X3_work 76 rfl) rfl 2 rfl ?_
          refine zx_iadd (zd me_X3_work 77 rfl) ?_
          refine zx_dup2 (zd me_X3_work 78 rfl) rfl rfl ?_
          refine zx_iald (zd me_X3_work 79 rfl) (zi3_t1 h0) (fun j19 hj19 => ?_)
          refine zx_iconst (v := 1) (zd me_X3_work 80 rfl) (by decide) ?_
          refine zx_iadd (zd me_X3_work 81 rfl) ?_
          refine zx_iast (zd me_X3_work 82 rfl) (zi3_t1 h0) (fun M21 => ?_)
          exact zx_vret (zd me_X3_work 83 rfl) rfl
        · refine zx_aload_n (i := 0) (zd me_X3_work 58 rfl) rfl 1 rfl ?_
          refine zx_iload_n (i := 1) (zd me_X3_work 59 rfl) rfl 2 rfl ?_
          refine zx_iconst (v := 3) (zd me_X3_work 60 rfl) (by decide) ?_
          refine zx_callVV2 (zd me_X3_work 61 rfl) (mc_X3_settle (zl C) h0 i1 (3 : Int32) M11) lk_X3_98 ⟨(Nat.le_of_ble_eq_true rfl), (Nat.le_of_ble_eq_true rfl)⟩ (Nat.le_of_ble_eq_true rfl) (zi3_c h0) rfl (fun r23 M22 => ?_)
          refine zx_goto (tgt := 133) (zd me_X3_work 62 rfl) (by decide) ?_
          exact zx_vret (zd me_X3_work 83 rfl) rfl
      · refine zx_aload_n (i := 0) (zd me_X3_work 43 rfl) rfl 1 rfl ?_
        refine zx_iload_n (i := 1) (zd me_X3_work 44 rfl) rfl 2 rfl ?_
        refine zx_iload_n (i := 3) (zd me_X3_work 45 rfl) rfl 0 rfl ?_
        refine zx_callVV2 (zd me_X3_work 46 rfl) (mc_X3_enter (zl C) h0 i1 r9 M11) lk_X3_102 ⟨(Nat.le_of_ble_eq_true rfl), (Nat.le_of_ble_eq_true rfl)⟩ (Nat.le_of_ble_eq_true rfl) (zi3_c h0) rfl (fun r25 M24 => ?_)
        refine zx_goto (tgt := 133) (zd me_X3_work 47 rfl) (by decide) ?_
        exact zx_vret (zd me_X3_work 83 rfl) rfl
    · refine zx_aload_n (i := 0) (zd me_X3_work 34 rfl) rfl 1 rfl ?_
      refine zx_iload_n (i := 1) (zd me_X3_work 35 rfl) rfl 2 rfl ?_
      refine zx_iconst (v := 2) (zd me_X3_work 36 rfl) (by decide) ?_
      refine zx_callVV2 (zd me_X3_work 37 rfl) (mc_X3_settle (zl C) h0 i1 (2 : Int32) M8) lk_X3_98 ⟨(Nat.le_of_ble_eq_true rfl), (Nat.le_of_ble_eq_true rfl)⟩ (Nat.le_of_ble_eq_true rfl) (zi3_c h0) rfl (fun r27 M26 => ?_)
      refine zx_goto (tgt := 133) (zd me_X3_work 38 rfl) (by decide) ?_
      exact zx_vret (zd me_X3_work 83 rfl) rfl
  · exact zx_vret (zd me_X3_work 24 rfl) rfl
def mf_X3_work (R : zRR) (a0 : Nat) (i1 : Int32) (i2 : Int32) (M : zMem) : Option (Unit × zMem) :=
  zald 62 ((28 : Int32) + i1) fun j1 =>
  if (M.1 (zrf R a0 1) j1) ≤ 0 then
    (mf_X3_work_b25 R a0 i1 i2 M)
  else
    (zald 62 ((28 : Int32) + i1) fun j3 =>
    zald 62 ((28 : Int32) + i1) fun j4 =>
    zlet (zwI M (zrf R a0 1) j4 ((M.1 (zrf R a0 1) j3) - (1 : Int32))) fun M5 =>
    mf_X3_work_b25 R a0 i1 i2 M5)
theorem mc_X3_work (l : Launch) {T : zTT} {R : zRR} {a0 : Nat} (h0 : zi3 T R a0) (i1 : Int32) (i2 : Int32) (M : zMem) : zMS l yX3_work mi_X3_work zrvV (mf_X3_work R a0 i1 i2 M) [.ref a0, .int i1, .int i2] T R M := by
  refine zMS.of (by decide +kernel) rfl ⟨rfl, rfl⟩ (Nat.le_of_ble_eq_true rfl) (fun C ad _ => ?_)
  show zX C mi_X3_work (zFin C zrvV ad T R) 0 0 (mf_X3_work R a0 i1 i2 M) 0 [(0, .ref a0), (1, .int i1), (2, .int i2)] [] ad T R M
  unfold mf_X3_work
  refine zx_aload_n (i := 0) (zd me_X3_work 0 rfl) rfl 0 rfl ?_
  refine zx_getR (zd me_X3_work 1 rfl) fl_X3_11 (zi3_c h0) rfl (zi3_r1 h0) ?_
  refine zx_bipush (v := 28) (zd me_X3_work 2 rfl) (by decide) ?_
  refine zx_iload_n (i := 1) (zd me_X3_work 3 rfl) rfl 1 rfl ?_
  refine zx_iadd (zd me_X3_work 4 rfl) ?_
  refine zx_iald (zd me_X3_work 5 rfl) (zi3_t1 h0) (fun j1 hj1 => ?_)
  refine zx_if_le (tgt := 25) (zd me_X3_work 6 rfl) (by decide) (fun c2 => ?_) (fun c2 => ?_)
  · exact mt_X3_work_b25 h0 i1 i2 M
  · refine zx_aload_n (i := 0) (zd me_X3_work 7 rfl) rfl 0 rfl ?_
    refine zx_getR (zd me_X3_work 8 rfl) fl_X3_11 (zi3_c h0) rfl (zi3_r1 h0) ?_
    refine zx_bipush (v := 28) (zd me_X3_work 9 rfl) (by decide) ?_
    refine zx_iload_n (i := 1) (zd me_X3_work 10 rfl) rfl 1 rfl ?_
    refine zx_iadd (zd me_X3_work 11 rfl) ?_
    refine zx_dup2 (zd me_X3_work 12 rfl) rfl rfl ?_
    refine zx_iald (zd me_X3_work 13 rfl) (zi3_t1 h0) (fun j3 hj3 => ?_)
    refine zx_iconst (v := 1) (zd me_X3_work 14 rfl) (by decide) ?_
    refine zx_isub (zd me_X3_work 15 rfl) ?_
    refine zx_iast (zd me_X3_work 16 rfl) (zi3_t1 h0) (fun M5 => ?_)
    exact mt_X3_work_b25 h0 i1 i2 M5
def mf_X3_pass_b97 (R : zRR) (a0 : Nat) (H2 : Int32 → zMem → Option (Unit × zMem)) (H39 : Int32 → Int32 → zMem → Option (Unit × zMem)) (H59 : Int32 → Int32 → Int32 → Int32 → zMem → Option (Unit × zMem)) (i2 : Int32) (i4 : Int32) (i5 : Int32) (i6 : Int32) (M : zMem) : Option (Unit × zMem) :=
  H59 i2 i4 i5 (i6 + 1) M
theorem mt_X3_pass_b97 {C : zCx} {ad : Nat → Nat} {T : zTT} {R : zRR} {a0 : Nat} (h0 : zi3 T R a0) {H2 : Int32 → zMem → Option (Unit × zMem)} {H39 : Int32 → Int32 → zMem → Option (Unit × zMem)} {H59 : Int32 → Int32 → Int32 → Int32 → zMem → Option (Unit × zMem)} (hH2 : ∀ (i2 : Int32) (M : zMem), zX C mi_X3_pass (zFin C zrvV ad T R) 0 0 (H2 i2 M) 2 [(0, .ref a0), (2, .int i2)] [] ad T R M) (hH39 : ∀ (i2 : Int32) (i4 : Int32) (M : zMem), zX C mi_X3_pass (zFin C zrvV ad T R) 0 0 (H39 i2 i4 M) 39 [(0, .ref a0), (2, .int i2), (4, .int i4)] [] ad T R M) (hH59 : ∀ (i2 : Int32) (i4 : Int32) (i5 : Int32) (i6 : Int32) (M : zMem), zX C mi_X3_pass (zFin C zrvV ad T R) 0 0 (H59 i2 i4 i5 i6 M) 59 [(0, .ref a0), (2, .int i2), (4, .int i4), (5, .int i5), (6, .int i6)] [] ad T R M) (i2 : Int32) (i4 : Int32) (i5 : Int32) (i6 : Int32) (M : zMem) : zX C mi_X3_pass (zFin C zrvV ad T R) 0 0 (mf_X3_pass_b97 R a0 H2 H39 H59 i2 i4 i5 i6 M) 97 [(0, .ref a0), (2, .int i2), (4, .int i4), (5, .int i5), (6, .int i6)] [] ad T R M := by
  unfold mf_X3_pass_b97
  refine zx_iinc (v := 1) (ls' := [(6, .int (i6 + 1)), (0, .ref a0), (2, .int i2), (4, .int i4), (5, .int i5)]) (zd me_X3_pass 54 rfl) (Nat.le_of_ble_eq_true rfl) 4 rfl (by decide) rfl ?_
  refine zx_goto (tgt := 59) (zd me_X3_pass 55 rfl) (by decide) ?_
  refine zx_loc [1, 2, 3, 4, 0] rfl ?_
  exact hH59 i2 i4 i5 (i6 + 1) M
def mf_X3_pass_b103 (R : zRR) (a0 : Nat) (H2 : Int32 → zMem → Option (Unit × zMem)) (H39 : Int32 → Int32 → zMem → Option (Unit × zMem)) (i2 : Int32) (i4 : Int32) (M : zMem) : Option (Unit × zMem) :=
  H39 i2 (i4 + (-1)) M
theorem mt_X3_pass_b103 {C : zCx} {ad : Nat → Nat} {T : zTT} {R : zRR} {a0 : Nat} (h0 : zi3 T R a0) {H2 : Int32 → zMem → Option (Unit × zMem)} {H39 : Int32 → Int32 → zMem → Option (Unit × zMem)} (hH2 : ∀ (i2 : Int32) (M : zMem), zX C mi_X3_pass (zFin C zrvV ad T R) 0 0 (H2 i2 M) 2 [(0, .ref a0), (2, .int i2)] [] ad T R M) (hH39 : ∀ (i2 : Int32) (i4 : Int32) (M : zMem), zX C mi_X3_pass (zFin C zrvV ad T R) 0 0 (H39 i2 i4 M) 39 [(0, .ref a0), (2, .int i2), (4, .int i4)] [] ad T R M) (i2 : Int32) (i4 : Int32) (M : zMem) : zX C mi_X3_pass (zFin C zrvV ad T R) 0 0 (mf_X3_pass_b103 R a0 H2 H39 i2 i4 M) 103 [(0, .ref a0), (2, .int i2), (4, .int i4)] [] ad T R M := by
  unfold mf_X3_pass_b103
  refine zx_iinc (v := (-1)) (ls' := [(4, .int (i4 + (-1))), (0, .ref a0), (2, .int i2)]) (zd me_X3_pass 56 rfl) (Nat.le_of_ble_eq_true rfl) 2 rfl (by decide) rfl ?_
  refine zx_goto (tgt := 39) (zd me_X3_pass 57 rfl) (by decide) ?_
  refine zx_loc [1, 2, 0] rfl ?_
  exact hH39 i2 (i4 + (-1)) M
def mf_X3_pass_l59 (R : zRR) (a0 : Nat) (H2 : Int32 → zMem → Option (Unit × zMem)) (H39 : Int32 → Int32 → zMem → Option (Unit × zMem)) : Nat → Int32 → Int32 → Int32 → Int32 → zMem → Option (Unit × zMem)
  | 0, _, _, _, _, _ => none
  | fuel + 1, i2, i4, i5, i6, M =>
    if (M.1 (zrf R a0 0) 2) ≤ i6 then
      (mf_X3_pass_b103 R a0 H2 H39 i2 i4 M)
    else
      (if (i5 >>> (i6 &&& 31)) = 0 then
        (mf_X3_pass_b103 R a0 H2 H39 i2 i4 M)
      else
        (if ((i5 >>> (i6 &&& 31)) &&& (1 : Int32)) = 0 then
          (mf_X3_pass_b97 R a0 H2 H39 (mf_X3_pass_l59 R a0 H2 H39 fuel) i2 i4 i5 i6 M)
        else
          (zcl (mf_X3_work R a0 i6 i4 M) fun _ M18 =>
          mf_X3_pass_b97 R a0 H2 H39 (mf_X3_pass_l59 R a0 H2 H39 fuel) i2 i4 i5 i6 M18)))
theorem mt_X3_pass_l59 {C : zCx} {ad : Nat → Nat} {T : zTT} {R : zRR} {a0 : Nat} (h0 : zi3 T R a0) {H2 : Int32 → zMem → Option (Unit × zMem)} {H39 : Int32 → Int32 → zMem → Option (Unit × zMem)} (hH2 : ∀ (i2 : Int32) (M : zMem), zX C mi_X3_pass (zFin C zrvV ad T R) 0 0 (H2 i2 M) 2 [(0, .ref a0), (2, .int i2)] [] ad T R M) (hH39 : ∀ (i2 : Int32) (i4 : Int32) (M : zMem), zX C mi_X3_pass (zFin C zrvV ad T R) 0 0 (H39 i2 i4 M) 39 [(0, .ref a0), (2, .int i2), (4, .int i4)] [] ad T R M) : ∀ (fuel : Nat) (i2 : Int32) (i4 : Int32) (i5 : Int32) (i6 : Int32) (M : zMem), zX C mi_X3_pass (zFin C zrvV ad T R) 0 0 (mf_X3_pass_l59 R a0 H2 H39 fuel i2 i4 i5 i6 M) 59 [(0, .ref a0), (2, .int i2), (4, .int i4), (5, .int i5), (6, .int i6)] [] ad T R M := by
  intro fuel
  induction fuel with
  | zero => intros; exact zx_none
  | succ fuel ih =>
    intro i2 i4 i5 i6 M
    rw [mf_X3_pass_l59]
    refine zx_iload (zd me_X3_pass 35 rfl) 4 rfl ?_
    refine zx_aload_n (i := 0) (zd me_X3_pass 36 rfl) rfl 0 rfl ?_
    refine zx_getR (zd me_X3_pass 37 rfl) fl_X3_15 (zi3_c h0) rfl (zi3_r0 h0) ?_
    refine zx_getI (zd me_X3_pass 38 rfl) fl_X3_80 (zi7_c (zi3_t0 h0)) rfl ?_
    refine zx_icmp_ge (tgt := 103) (zd me_X3_pass 39 rfl) (by decide) (fun c15 => ?_) (fun c15 => ?_)
    · refine zx_loc [0, 1, 2] rfl ?_
      exact mt_X3_pass_b103 h0 hH2 hH39 i2 i4 M
    · refine zx_iload (zd me_X3_pass 40 rfl) 3 rfl ?_
      refine zx_iload (zd me_X3_pass 41 rfl) 4 rfl ?_
      refine zx_ishr (zd me_X3_pass 42 rfl) ?_
      refine zx_if_eq (tgt := 103) (zd me_X3_pass 43 rfl) (by decide) (fun c16 => ?_) (fun c16 => ?_)
      · refine zx_loc [0, 1, 2] rfl ?_
        exact mt_X3_pass_b103 h0 hH2 hH39 i2 i4 M
      · refine zx_iload (zd me_X3_pass 44 rfl) 3 rfl ?_
        refine zx_iload (zd me_X3_pass 45 rfl) 4 rfl ?_
        refine zx_ishr (zd me_X3_pass 46 rfl) ?_
        refine zx_iconst (v := 1) (zd me_X3_pass 47 rfl) (by decide) ?_
        refine zx_iand (zd me_X3_pass 48 rfl) ?_
        refine zx_if_eq (tgt := 97) (zd me_X3_pass 49 rfl) (by decide) (fun c17 => ?_) (fun c17 => ?_)
        · exact mt_X3_pass_b97 h0 hH2 hH39 ih i2 i4 i5 i6 M
        · refine zx_aload_n (i := 0) (zd me_X3_pass 50 rfl) rfl 0 rfl ?_
          refine zx_iload (zd me_X3_pass 51 rfl) 4 rfl ?_
          refine zx_iload (zd me_X3_pass 52 rfl) 2 rfl ?_
          refine zx_callVV2 (zd me_X3_pass 53 rfl) (mc_X3_work (zl C) h0 i6 i4 M) lk_X3_112 ⟨(Nat.le_of_ble_eq_true rfl), (Nat.le_of_ble_eq_true rfl)⟩ (Nat.le_of_ble_eq_true rfl) (zi3_c h0) rfl (fun r19 M18 => ?_)
          exact mt_X3_pass_b97 h0 hH2 hH39 ih i2 i4 i5 i6 M18
def mf_X3_pass_l39 (R : zRR) (a0 : Nat) (H2 : Int32 → zMem → Option (Unit × zMem)) : Nat → Int32 → Int32 → zMem → Option (Unit × zMem)
  | 0, _, _, _ => none
  | fuel + 1, i2, i4, M =>
    if i4 < 0 then
      (zald 62 (60 : Int32) fun j10 =>
      zald 62 (60 : Int32) fun j11 =>
      zlet (zwI M (zrf R a0 1) j11 ((M.1 (zrf R a0 1) j10) + (1 : Int32))) fun M12 =>
      H2 (i2 + (-1)) M12)
    else
      (zald 62 ((6 : Int32) + i4) fun j13 =>
      zlet ((M.1 (zrf R a0 1) j13) : Int32) fun x14 =>
      mf_X3_pass_l59 R a0 H2 (mf_X3_pass_l39 R a0 H2 fuel) zF i2 i4 x14 (0 : Int32) M)
theorem mt_X3_pass_l39 {C : zCx} {ad : Nat → Nat} {T : zTT} {R : zRR} {a0 : Nat} (h0 : zi3 T R a0) {H2 : Int32 → zMem → Option (Unit × zMem)} (hH2 : ∀ (i2 : Int32) (M : zMem), zX C mi_X3_pass (zFin C zrvV ad T R) 0 0 (H2 i2 M) 2 [(0, .ref a0), (2, .int i2)] [] ad T R M) : ∀ (fuel : Nat) (i2 : Int32) (i4 : Int32) (M : zMem), zX C mi_X3_pass (zFin C zrvV ad T R) 0 0 (mf_X3_pass_l39 R a0 H2 fuel i2 i4 M) 39 [(0, .ref a0), (2, .int i2), (4, .int i4)] [] ad T R M := by
  intro fuel
  induction fuel with
  | zero => intros; exact zx_none
  | succ fuel ih =>
    intro i2 i4 M
    rw [mf_X3_pass_l39]
    refine zx_iload (zd me_X3_pass 24 rfl) 2 rfl ?_
    refine zx_if_lt (tgt := 109) (zd me_X3_pass 25 rfl) (by decide) (fun c9 => ?_) (fun c9 => ?_)
    · refine zx_aload_n (i := 0) (zd me_X3_pass 58 rfl) rfl 0 rfl ?_
      refine zx_getR (zd me_X3_pass 59 rfl) fl_X3_11 (zi3_c h0) rfl (zi3_r1 h0) ?_
      refine zx_bipush (v := 60) (zd me_X3_pass 60 rfl) (by decide) ?_
      refine zx_dup2 (zd me_X3_pass 61 rfl) rfl rfl ?_
      refine zx_iald (zd me_X3_pass 62 rfl) (zi3_t1 h0) (fun j10 hj10 => ?_)
      refine zx_iconst (v := 1) (zd me_X3_pass 63 rfl) (by decide) ?_
      refine zx_iadd (zd me_X3_pass 64 rfl) ?_
      refine zx_iast (zd me_X3_pass 65 rfl) (zi3_t1 h0) (fun M12 => ?_)
      refine zx_iinc (v := (-1)) (ls' := [(2, .int (i2 + (-1))), (0, .ref a0), (4, .int i4)]) (zd me_X3_pass 66 rfl) (Nat.le_of_ble_eq_true rfl) 1 rfl (by decide) rfl ?_
      refine zx_goto (tgt := 2) (zd me_X3_pass 67 rfl) (by decide) ?_
      refine zx_loc [1, 0] rfl ?_
      exact hH2 (i2 + (-1)) M12
    · refine zx_aload_n (i := 0) (zd me_X3_pass 26 rfl) rfl 0 rfl ?_
      refine zx_getR (zd me_X3_pass 27 rfl) fl_X3_11 (zi3_c h0) rfl (zi3_r1 h0) ?_
      refine zx_bipush (v := 6) (zd me_X3_pass 28 rfl) (by decide) ?_
      refine zx_iload (zd me_X3_pass 29 rfl) 2 rfl ?_
      refine zx_iadd (zd me_X3_pass 30 rfl) ?_
      refine zx_iald (zd me_X3_pass 31 rfl) (zi3_t1 h0) (fun j13 hj13 => ?_)
      refine zx_leti (fun x14 => ?_)
      refine zx_istore (ls' := [(5, .int x14), (0, .ref a0), (2, .int i2), (4, .int i4)]) (zd me_X3_pass 32 rfl) (Nat.le_of_ble_eq_true rfl) rfl ?_
      refine zx_iconst (v := 0) (zd me_X3_pass 33 rfl) (by decide) ?_
      refine zx_istore (ls' := [(6, .int (0 : Int32)), (5, .int x14), (0, .ref a0), (2, .int i2), (4, .int i4)]) (zd me_X3_pass 34 rfl) (Nat.le_of_ble_eq_true rfl) rfl ?_
      refine zx_loc [2, 3, 4, 1, 0] rfl ?_
      exact mt_X3_pass_l59 h0 hH2 ih zF i2 i4 x14 (0 : Int32) M
def mf_X3_pass_l2 (R : zRR) (a0 : Nat) : Nat → Int32 → zMem → Option (Unit × zMem)
  | 0, _, _ => none
  | fuel + 1, i2, M =>
    if i2 ≤ 0 then
      (some ((), M))
    else
      (zcl (mf_X3_quietMinutes R a0 i2 M) fun r3 M2 =>
      if r3 ≤ 0 then
        (zlet (((M2.1 (zrf R a0 0) 0) - (1 : Int32)) : Int32) fun x5 =>
        mf_X3_pass_l39 R a0 (mf_X3_pass_l2 R a0 fuel) zF i2 x5 M2)
      else
        (zcl (mf_X3_skip R a0 r3 M2) fun _ M6 =>
        zlet ((i2 - r3) : Int32) fun x8 =>
        mf_X3_pass_l2 R a0 fuel x8 M6))
theorem mt_X3_pass_l2 {C : zCx} {ad : Nat → Nat} {T : zTT} {R : zRR} {a0 : Nat} (h0 : zi3 T R a0) : ∀ (fuel : Nat) (i2 : Int32) (M : zMem), zX C mi_X3_pass (zFin C zrvV ad T R) 0 0 (mf_X3_pass_l2 R a0 fuel i2 M) 2 [(0, .ref a0), (2, .int i2)] [] ad T R M := by
  intro fuel
  induction fuel with
  | zero => intros; exact zx_none
  | succ fuel ih =>
    intro i2 M
    rw [mf_X3_pass_l2]
    refine zx_iload_n (i := 2) (zd me_X3_pass 2 rfl) rfl 1 rfl ?_
    refine zx_if_le (tgt := 126) (zd me_X3_pass 3 rfl) (by decide) (fun c1 => ?_) (fun c1 => ?_)
    · exact zx_vret (zd me_X3_pass 68 rfl) rfl
    · refine zx_aload_n (i := 0) (zd me_X3_pass 4 rfl) rfl 0 rfl ?_
      refine zx_iload_n (i := 2) (zd me_X3_pass 5 rfl) rfl 1 rfl ?_
      refine zx_callVI1 (zd me_X3_pass 6 rfl) (mc_X3_quietMinutes (zl C) h0 i2 M) lk_X3_105 ⟨(Nat.le_of_ble_eq_true rfl), (Nat.le_of_ble_eq_true rfl)⟩ (Nat.le_of_ble_eq_true rfl) (zi3_c h0) rfl (fun r3 M2 => ?_)
      refine zx_istore_n (i := 3) (ls' := [(3, .int r3), (0, .ref a0), (2, .int i2)]) (zd me_X3_pass 7 rfl) rfl (Nat.le_of_ble_eq_true rfl) rfl ?_
      refine zx_iload_n (i := 3) (zd me_X3_pass 8 rfl) rfl 0 rfl ?_
      refine zx_if_le (tgt := 28) (zd me_X3_pass 9 rfl) (by decide) (fun c4 => ?_) (fun c4 => ?_)
      · refine zx_aload_n (i := 0) (zd me_X3_pass 18 rfl) rfl 1 rfl ?_
        refine zx_getR (zd me_X3_pass 19 rfl) fl_X3_15 (zi3_c h0) rfl (zi3_r0 h0) ?_
        refine zx_getI (zd me_X3_pass 20 rfl) fl_X3_56 (zi7_c (zi3_t0 h0)) rfl ?_
        refine zx_iconst (v := 1) (zd me_X3_pass 21 rfl) (by decide) ?_
        refine zx_isub (zd me_X3_pass 22 rfl) ?_
        refine zx_leti (fun x5 => ?_)
        refine zx_istore (ls' := [(4, .int x5), (3, .int r3), (0, .ref a0), (2, .int i2)]) (zd me_X3_pass 23 rfl) (Nat.le_of_ble_eq_true rfl) rfl ?_
        refine zx_loc [2, 3, 0] rfl ?_
        exact mt_X3_pass_l39 h0 ih zF i2 x5 M2
      · refine zx_aload_n (i := 0) (zd me_X3_pass 10 rfl) rfl 1 rfl ?_
        refine zx_iload_n (i := 3) (zd me_X3_pass 11 rfl) rfl 0 rfl ?_
        refine zx_callVV1 (zd me_X3_pass 12 rfl) (mc_X3_skip (zl C) h0 r3 M2) lk_X3_108 ⟨(Nat.le_of_ble_eq_true rfl), (Nat.le_of_ble_eq_true rfl)⟩ (Nat.le_of_ble_eq_true rfl) (zi3_c h0) rfl (fun r7 M6 => ?_)
        refine zx_iload_n (i := 2) (zd me_X3_pass 13 rfl) rfl 2 rfl ?_
        refine zx_iload_n (i := 3) (zd me_X3_pass 14 rfl) rfl 0 rfl ?_
        refine zx_isub (zd me_X3_pass 15 rfl) ?_
        refine zx_leti (fun x8 => ?_)
        refine zx_istore_n (i := 2) (ls' := [(2, .int x8), (3, .int r3), (0, .ref a0)]) (zd me_X3_pass 16 rfl) rfl (Nat.le_of_ble_eq_true rfl) rfl ?_
        refine zx_goto (tgt := 2) (zd me_X3_pass 17 rfl) (by decide) ?_
        refine zx_loc [2, 0] rfl ?_
        exact ih x8 M6
def mf_X3_pass (R : zRR) (a0 : Nat) (i1 : Int32) (M : zMem) : Option (Unit × zMem) :=
  mf_X3_pass_l2 R a0 zF i1 M
theorem mc_X3_pass (l : Launch) {T : zTT} {R : zRR} {a0 : Nat} (h0 : zi3 T R a0) (i1 : Int32) (M : zMem) : zMS l yX3_pass mi_X3_pass zrvV (mf_X3_pass R a0 i1 M) [.ref a0, .int i1] T R M := by
  refine zMS.of (by decide +kernel) rfl ⟨rfl, rfl⟩ (Nat.le_of_ble_eq_true rfl) (fun C ad _ => ?_)
  show zX C mi_X3_pass (zFin C zrvV ad T R) 0 0 (mf_X3_pass R a0 i1 M) 0 [(0, .ref a0), (1, .int i1)] [] ad T R M
  unfold mf_X3_pass
  refine zx_iload_n (i := 1) (zd me_X3_pass 0 rfl) rfl 1 rfl ?_
  refine zx_istore_n (i := 2) (ls' := [(2, .int i1), (0, .ref a0), (1, .int i1)]) (zd me_X3_pass 1 rfl) rfl (Nat.le_of_ble_eq_true rfl) rfl ?_
  refine zx_loc [1, 0] rfl ?_
  exact mt_X3_pass_l2 h0 zF i1 M
def mf_X3_allThatAre_b34 (R : zRR) (a0 : Nat) (H4 : Int32 → Int32 → Int32 → zMem → Option (Int32 × zMem)) (i1 : Int32) (i2 : Int32) (i3 : Int32) (M : zMem) : Option (Int32 × zMem) :=
  H4 i1 i2 (i3 + 1) M
theorem mt_X3_allThatAre_b34 {C : zCx} {ad : Nat → Nat} {T : zTT} {R : zRR} {a0 : Nat} (h0 : zi3 T R a0) {H4 : Int32 → Int32 → Int32 → zMem → Option (Int32 × zMem)} (hH4 : ∀ (i1 : Int32) (i2 : Int32) (i3 : Int32) (M : zMem), zX C mi_X3_allThatAre (zFin C zrvI ad T R) 0 0 (H4 i1 i2 i3 M) 4 [(0, .ref a0), (1, .int i1), (2, .int i2), (3, .int i3)] [] ad T R M) (i1 : Int32) (i2 : Int32) (i3 : Int32) (M : zMem) : zX C mi_X3_allThatAre (zFin C zrvI ad T R) 0 0 (mf_X3_allThatAre_b34 R a0 H4 i1 i2 i3 M) 34 [(0, .ref a0), (1, .int i1), (2, .int i2), (3, .int i3)] [] ad T R M := by
  unfold mf_X3_allThatAre_b34
  refine zx_iinc (v := 1) (ls' := [(3, .int (i3 + 1)), (0, .ref a0), (1, .int i1), (2, .int i2)]) (zd me_X3_allThatAre 23 rfl) (Nat.le_of_ble_eq_true rfl) 3 rfl (by decide) rfl ?_
  refine zx_goto (tgt := 4) (zd me_X3_allThatAre 24 rfl) (by decide) ?_
  refine zx_loc [1, 2, 3, 0] rfl ?_
  exact hH4 i1 i2 (i3 + 1) M
def mf_X3_allThatAre_l4 (R : zRR) (a0 : Nat) : Nat → Int32 → Int32 → Int32 → zMem → Option (Int32 × zMem)
  | 0, _, _, _, _ => none
  | fuel + 1, i1, i2, i3, M =>
    if (M.1 (zrf R a0 0) 2) ≤ i3 then
      (some (i2, M))
    else
      (zald 62 ((12 : Int32) + i3) fun j2 =>
      if (M.1 (zrf R a0 1) j2) = i1 then
        (zlet ((i2 ||| ((1 : Int32) <<< (i3 &&& 31))) : Int32) fun x4 =>
        mf_X3_allThatAre_b34 R a0 (mf_X3_allThatAre_l4 R a0 fuel) i1 x4 i3 M)
      else
        (mf_X3_allThatAre_b34 R a0 (mf_X3_allThatAre_l4 R a0 fuel) i1 i2 i3 M))
theorem mt_X3_allThatAre_l4 {C : zCx} {ad : Nat → Nat} {T : zTT} {R : zRR} {a0 : Nat} (h0 : zi3 T R a0) : ∀ (fuel : Nat) (i1 : Int32) (i2 : Int32) (i3 : Int32) (M : zMem), zX C mi_X3_allThatAre (zFin C zrvI ad T R) 0 0 (mf_X3_allThatAre_l4 R a0 fuel i1 i2 i3 M) 4 [(0, .ref a0), (1, .int i1), (2, .int i2), (3, .int i3)] [] ad T R M := by
  intro fuel
  induction fuel with
  | zero => intros; exact zx_none
  | succ fuel ih =>
    intro i1 i2 i3 M
    rw [mf_X3_allThatAre_l4]
    refine zx_iload_n (i := 3) (zd me_X3_allThatAre 4 rfl) rfl 3 rfl ?_
    refine zx_aload_n (i := 0) (zd me_X3_allThatAre 5 rfl) rfl 0 rfl ?_
    refine zx_getR (zd me_X3_allThatAre 6 rfl) fl_X3_15 (zi3_c h0) rfl (zi3_r0 h0) ?_
    refine zx_getI (zd me_X3_allThatAre 7 rfl) fl_X3_80 (zi7_c (zi3_t0 h0)) rfl ?_
    refine zx_icmp_ge (tgt := 40) (zd me_X3_allThatAre 8 rfl) (by decide) (fun c1 => ?_) (fun c1 => ?_)
    · refine zx_iload_n (i := 2) (zd me_X3_allThatAre 25 rfl) rfl 2 rfl ?_
      exact zx_iret (zd me_X3_allThatAre 26 rfl) rfl
    · refine zx_aload_n (i := 0) (zd me_X3_allThatAre 9 rfl) rfl 0 rfl ?_
      refine zx_getR (zd me_X3_allThatAre 10 rfl) fl_X3_11 (zi3_c h0) rfl (zi3_r1 h0) ?_
      refine zx_bipush (v := 12) (zd me_X3_allThatAre 11 rfl) (by decide) ?_
      refine zx_iload_n (i := 3) (zd me_X3_allThatAre 12 rfl) rfl 3 rfl ?_
      refine zx_iadd (zd me_X3_allThatAre 13 rfl) ?_
      refine zx_iald (zd me_X3_allThatAre 14 rfl) (zi3_t1 h0) (fun j2 hj2 => ?_)
      refine zx_iload_n (i := 1) (zd me_X3_allThatAre 15 rfl) rfl 1 rfl ?_
      refine zx_icmp_ne (tgt := 34) (zd me_X3_allThatAre 16 rfl) (by decide) (fun c3 => ?_) (fun c3 => ?_)
      · exact mt_X3_allThatAre_b34 h0 ih i1 i2 i3 M
      · refine zx_iload_n (i := 2) (zd me_X3_allThatAre 17 rfl) rfl 2 rfl ?_
        refine zx_iconst (v := 1) (zd me_X3_allThatAre 18 rfl) (by decide) ?_
        refine zx_iload_n (i := 3) (zd me_X3_allThatAre 19 rfl) rfl 3 rfl ?_
        refine zx_ishl (zd me_X3_allThatAre 20 rfl) ?_
        refine zx_ior (zd me_X3_allThatAre 21 rfl) ?_
        refine zx_leti (fun x4 => ?_)
        refine zx_istore_n (i := 2) (ls' := [(2, .int x4), (0, .ref a0), (1, .int i1), (3, .int i3)]) (zd me_X3_allThatAre 22 rfl) rfl (Nat.le_of_ble_eq_true rfl) rfl ?_
        refine zx_loc [1, 2, 0, 3] rfl ?_
        exact mt_X3_allThatAre_b34 h0 ih i1 x4 i3 M
def mf_X3_allThatAre (R : zRR) (a0 : Nat) (i1 : Int32) (M : zMem) : Option (Int32 × zMem) :=
  mf_X3_allThatAre_l4 R a0 zF i1 (0 : Int32) (0 : Int32) M
theorem mc_X3_allThatAre (l : Launch) {T : zTT} {R : zRR} {a0 : Nat} (h0 : zi3 T R a0) (i1 : Int32) (M : zMem) : zMS l yX3_allThatAre mi_X3_allThatAre zrvI (mf_X3_allThatAre R a0 i1 M) [.ref a0, .int i1] T R M := by
  refine zMS.of (by decide +kernel) rfl ⟨rfl, rfl⟩ (Nat.le_of_ble_eq_true rfl) (fun C ad _ => ?_)
  show zX C mi_X3_allThatAre (zFin C zrvI ad T R) 0 0 (mf_X3_allThatAre R a0 i1 M) 0 [(0, .ref a0), (1, .int i1)] [] ad T R M
  unfold mf_X3_allThatAre
  refine zx_iconst (v := 0) (zd me_X3_allThatAre 0 rfl) (by decide) ?_
  refine zx_istore_n (i := 2) (ls' := [(2, .int (0 : Int32)), (0, .ref a0), (1, .int i1)]) (zd me_X3_allThatAre 1 rfl) rfl (Nat.le_of_ble_eq_true rfl) rfl ?_
  refine zx_iconst (v := 0) (zd me_X3_allThatAre 2 rfl) (by decide) ?_
  refine zx_istore_n (i := 3) (ls' := [(3, .int (0 : Int32)), (2, .int (0 : Int32)), (0, .ref a0), (1, .int i1)]) (zd me_X3_allThatAre 3 rfl) rfl (Nat.le_of_ble_eq_true rfl) rfl ?_
  refine zx_loc [2, 3, 1, 0] rfl ?_
  exact mt_X3_allThatAre_l4 h0 zF i1 (0 : Int32) (0 : Int32) M
def mf_X3_putInto (R : zRR) (a0 : Nat) (a1 : Nat) (M : zMem) : Option (Unit × zMem) :=
  zlet (zrowI M a1 (va_cpy (M.1 (zrf R a0 1)) (M.1 a1) (0 : Int32).toNatClampNeg (0 : Int32).toNatClampNeg (if (62 : Int32) < (62 : Int32) then (62 : Int32) else (62 : Int32)).toNatClampNeg)) fun M1 =>
  some ((), M1)
theorem mc_X3_putInto (l : Launch) {T : zTT} {R : zRR} {a0 : Nat} {a1 : Nat} (h0 : zi3 T R a0) (h1 : T[a1]? = some (1, 62)) (M : zMem) : zMS l yX3_putInto mi_X3_putInto zrvV (mf_X3_putInto R a0 a1 M) [.ref a0, .ref a1] T R M := by
  refine zMS.of (by decide +kernel) rfl ⟨rfl, rfl⟩ (Nat.le_of_ble_eq_true rfl) (fun C ad _ => ?_)
  show zX C mi_X3_putInto (zFin C zrvV ad T R) 0 0 (mf_X3_putInto R a0 a1 M) 0 [(0, .ref a0), (1, .ref a1)] [] ad T R M
  unfold mf_X3_putInto
  refine zx_aload_n (i := 0) (zd me_X3_putInto 0 rfl) rfl 0 rfl ?_
  refine zx_getR (zd me_X3_putInto 1 rfl) fl_X3_11 (zi3_c h0) rfl (zi3_r1 h0) ?_
  refine zx_iconst (v := 0) (zd me_X3_putInto 2 rfl) (by decide) ?_
  refine zx_aload_n (i := 1) (zd me_X3_putInto 3 rfl) rfl 1 rfl ?_
  refine zx_iconst (v := 0) (zd me_X3_putInto 4 rfl) (by decide) ?_
  refine zx_bipush (v := 62) (zd me_X3_putInto 5 rfl) (by decide) ?_
  refine zx_aload_n (i := 1) (zd me_X3_putInto 6 rfl) rfl 1 rfl ?_
  refine zx_alen (v := 62) (zd me_X3_putInto 7 rfl) h1 rfl ?_
  refine zx_mmin (zd me_X3_putInto 8 rfl) lk_X3_34 ⟨(Nat.le_of_ble_eq_true rfl), (Nat.le_of_ble_eq_true rfl)⟩ ?_
  refine zx_copyI (zd me_X3_putInto 9 rfl) lk_X3_28 ⟨(Nat.le_of_ble_eq_true rfl), (Nat.le_of_ble_eq_true rfl)⟩ (zi3_t1 h0) h1 ⟨by decide, by decide, by decide, by decide, by decide⟩ (fun M1 => ?_)
  exact zx_vret (zd me_X3_putInto 10 rfl) rfl
def mf_X3_takeFrom (R : zRR) (a0 : Nat) (a1 : Nat) (M : zMem) : Option (Unit × zMem) :=
  zlet (zrowI M (zrf R a0 1) (va_cpy (M.1 a1) (M.1 (zrf R a0 1)) (0 : Int32).toNatClampNeg (0 : Int32).toNatClampNeg (if (62 : Int32) < (62 : Int32) then (62 : Int32) else (62 : Int32)).toNatClampNeg)) fun M1 =>
  some ((), M1)
theorem mc_X3_takeFrom (l : Launch) {T : zTT} {R : zRR} {a0 : Nat} {a1 : Nat} (h0 : zi3 T R a0) (h1 : T[a1]? = some (1, 62)) (M : zMem) : zMS l yX3_takeFrom mi_X3_takeFrom zrvV (mf_X3_takeFrom R a0 a1 M) [.ref a0, .ref a1] T R M := by
  refine zMS.of (by decide +kernel) rfl ⟨rfl, rfl⟩ (Nat.le_of_ble_eq_true rfl) (fun C ad _ => ?_)
  show zX C mi_X3_takeFrom (zFin C zrvV ad T R) 0 0 (mf_X3_takeFrom R a0 a1 M) 0 [(0, .ref a0), (1, .ref a1)] [] ad T R M
  unfold mf_X3_takeFrom
  refine zx_aload_n (i := 1) (zd me_X3_takeFrom 0 rfl) rfl 1 rfl ?_
  refine zx_iconst (v := 0) (zd me_X3_takeFrom 1 rfl) (by decide) ?_
  refine zx_aload_n (i := 0) (zd me_X3_takeFrom 2 rfl) rfl 0 rfl ?_
  refine zx_getR (zd me_X3_takeFrom 3 rfl) fl_X3_11 (zi3_c h0) rfl (zi3_r1 h0) ?_
  refine zx_iconst (v := 0) (zd me_X3_takeFrom 4 rfl) (by decide) ?_
  refine zx_bipush (v := 62) (zd me_X3_takeFrom 5 rfl) (by decide) ?_
  refine zx_aload_n (i := 1) (zd me_X3_takeFrom 6 rfl) rfl 1 rfl ?_
  refine zx_alen (v := 62) (zd me_X3_takeFrom 7 rfl) h1 rfl ?_
  refine zx_mmin (zd me_X3_takeFrom 8 rfl) lk_X3_34 ⟨(Nat.le_of_ble_eq_true rfl), (Nat.le_of_ble_eq_true rfl)⟩ ?_
  refine zx_copyI (zd me_X3_takeFrom 9 rfl) lk_X3_28 ⟨(Nat.le_of_ble_eq_true rfl), (Nat.le_of_ble_eq_true rfl)⟩ h1 (zi3_t1 h0) ⟨by decide, by decide, by decide, by decide, by decide⟩ (fun M1 => ?_)
  exact zx_vret (zd me_X3_takeFrom 10 rfl) rfl
def mf_X3_begin_b30 (R : zRR) (a0 : Nat) (H2 : Int32 → zMem → Option (Unit × zMem)) (i1 : Int32) (s0 : Int32) (s1 : Int32) (M : zMem) : Option (Unit × zMem) :=
  zald 62 s1 fun j6 =>
  zlet (zwI M (zrf R a0 1) j6 s0) fun M7 =>
  H2 (i1 + 1) M7
theorem mt_X3_begin_b30 {C : zCx} {ad : Nat → Nat} {T : zTT} {R : zRR} {a0 : Nat} (h0 : zi3 T R a0) {H2 : Int32 → zMem → Option (Unit × zMem)} (hH2 : ∀ (i1 : Int32) (M : zMem), zX C mi_X3_begin (zFin C zrvV ad T R) 0 0 (H2 i1 M) 2 [(0, .ref a0), (1, .int i1)] [] ad T R M) (i1 : Int32) (s0 : Int32) (s1 : Int32) (M : zMem) : zX C mi_X3_begin (zFin C zrvV ad T R) 0 0 (mf_X3_begin_b30 R a0 H2 i1 s0 s1 M) 30 [(0, .ref a0), (1, .int i1)] [.int s0, .int s1, .ref (zrf R a0 1)] ad T R M := by
  unfold mf_X3_begin_b30
  refine zx_iast (zd me_X3_begin 17 rfl) (zi3_t1 h0) (fun M7 => ?_)
  refine zx_iinc (v := 1) (ls' := [(1, .int (i1 + 1)), (0, .ref a0)]) (zd me_X3_begin 18 rfl) (Nat.le_of_ble_eq_true rfl) 1 rfl (by decide) rfl ?_
  refine zx_goto (tgt := 2) (zd me_X3_begin 19 rfl) (by decide) ?_
  refine zx_loc [1, 0] rfl ?_
  exact hH2 (i1 + 1) M7
def mf_X3_begin_b29 (R : zRR) (a0 : Nat) (H2 : Int32 → zMem → Option (Unit × zMem)) (i1 : Int32) (s0 : Int32) (M : zMem) : Option (Unit × zMem) :=
  mf_X3_begin_b30 R a0 H2 i1 (0 : Int32) s0 M
theorem mt_X3_begin_b29 {C : zCx} {ad : Nat → Nat} {T : zTT} {R : zRR} {a0 : Nat} (h0 : zi3 T R a0) {H2 : Int32 → zMem → Option (Unit × zMem)} (hH2 : ∀ (i1 : Int32) (M : zMem), zX C mi_X3_begin (zFin C zrvV ad T R) 0 0 (H2 i1 M) 2 [(0, .ref a0), (1, .int i1)] [] ad T R M) (i1 : Int32) (s0 : Int32) (M : zMem) : zX C mi_X3_begin (zFin C zrvV ad T R) 0 0 (mf_X3_begin_b29 R a0 H2 i1 s0 M) 29 [(0, .ref a0), (1, .int i1)] [.int s0, .ref (zrf R a0 1)] ad T R M := by
  unfold mf_X3_begin_b29
  refine zx_iconst (v := 0) (zd me_X3_begin 16 rfl) (by decide) ?_
  exact mt_X3_begin_b30 h0 hH2 i1 (0 : Int32) s0 M
def mf_X3_begin_l2 (R : zRR) (a0 : Nat) : Nat → Int32 → zMem → Option (Unit × zMem)
  | 0, _, _ => none
  | fuel + 1, i1, M =>
    if (62 : Int32) ≤ i1 then
      (zald 62 (61 : Int32) fun j2 =>
      zlet (zwI M (zrf R a0 1) j2 (M.1 (zrf R a0 0) 5)) fun M3 =>
      some ((), M3))
    else
      (if i1 < (20 : Int32) then
        (mf_X3_begin_b29 R a0 (mf_X3_begin_l2 R a0 fuel) i1 i1 M)
      else
        (if (28 : Int32) ≤ i1 then
          (mf_X3_begin_b29 R a0 (mf_X3_begin_l2 R a0 fuel) i1 i1 M)
        else
          (mf_X3_begin_b30 R a0 (mf_X3_begin_l2 R a0 fuel) i1 (-1 : Int32) i1 M)))
theorem mt_X3_begin_l2 {C : zCx} {ad : Nat → Nat} {T : zTT} {R : zRR} {a0 : Nat} (h0 : zi3 T R a0) : ∀ (fuel : Nat) (i1 : Int32) (M : zMem), zX C mi_X3_begin (zFin C zrvV ad T R) 0 0 (mf_X3_begin_l2 R a0 fuel i1 M) 2 [(0, .ref a0), (1, .int i1)] [] ad T R M := by
  intro fuel
  induction fuel with
  | zero => intros; exact zx_none
  | succ fuel ih =>
    intro i1 M
    rw [mf_X3_begin_l2]
    refine zx_iload_n (i := 1) (zd me_X3_begin 2 rfl) rfl 1 rfl ?_
    refine zx_bipush (v := 62) (zd me_X3_begin 3 rfl) (by decide) ?_
    refine zx_icmp_ge (tgt := 37) (zd me_X3_begin 4 rfl) (by decide) (fun c1 => ?_) (fun c1 => ?_)
    · refine zx_aload_n (i := 0) (zd me_X3_begin 20 rfl) rfl 0 rfl ?_
      refine zx_getR (zd me_X3_begin 21 rfl) fl_X3_11 (zi3_c h0) rfl (zi3_r1 h0) ?_
      refine zx_bipush (v := 61) (zd me_X3_begin 22 rfl) (by decide) ?_
      refine zx_aload_n (i := 0) (zd me_X3_begin 23 rfl) rfl 0 rfl ?_
      refine zx_getR (zd me_X3_begin 24 rfl) fl_X3_15 (zi3_c h0) rfl (zi3_r0 h0) ?_
      refine zx_getI (zd me_X3_begin 25 rfl) fl_X3_22 (zi7_c (zi3_t0 h0)) rfl ?_
      refine zx_iast (zd me_X3_begin 26 rfl) (zi3_t1 h0) (fun M3 => ?_)
      exact zx_vret (zd me_X3_begin 27 rfl) rfl
    · refine zx_aload_n (i := 0) (zd me_X3_begin 5 rfl) rfl 0 rfl ?_
      refine zx_getR (zd me_X3_begin 6 rfl) fl_X3_11 (zi3_c h0) rfl (zi3_r1 h0) ?_
      refine zx_iload_n (i := 1) (zd me_X3_begin 7 rfl) rfl 1 rfl ?_
      refine zx_iload_n (i := 1) (zd me_X3_begin 8 rfl) rfl 1 rfl ?_
      refine zx_bipush (v := 20) (zd me_X3_begin 9 rfl) (by decide) ?_
      refine zx_icmp_lt (tgt := 29) (zd me_X3_begin 10 rfl) (by decide) (fun c4 => ?_) (fun c4 => ?_)
      · exact mt_X3_begin_b29 h0 ih i1 i1 M
      · refine zx_iload_n (i := 1) (zd me_X3_begin 11 rfl) rfl 1 rfl ?_
        refine zx_bipush (v := 28) (zd me_X3_begin 12 rfl) (by decide) ?_
        refine zx_icmp_ge (tgt := 29) (zd me_X3_begin 13 rfl) (by decide) (fun c5 => ?_) (fun c5 => ?_)
        · exact mt_X3_begin_b29 h0 ih i1 i1 M
        · refine zx_iconst (v := (-1)) (zd me_X3_begin 14 rfl) (by decide) ?_
          refine zx_goto (tgt := 30) (zd me_X3_begin 15 rfl) (by decide) ?_
          exact mt_X3_begin_b30 h0 ih i1 (-1 : Int32) i1 M
def mf_X3_begin (R : zRR) (a0 : Nat) (M : zMem) : Option (Unit × zMem) :=
  mf_X3_begin_l2 R a0 zF (0 : Int32) M
theorem mc_X3_begin (l : Launch) {T : zTT} {R : zRR} {a0 : Nat} (h0 : zi3 T R a0) (M : zMem) : zMS l yX3_begin mi_X3_begin zrvV (mf_X3_begin R a0 M) [.ref a0] T R M := by
  refine zMS.of (by decide +kernel) rfl ⟨rfl, rfl⟩ (Nat.le_of_ble_eq_true rfl) (fun C ad _ => ?_)
  show zX C mi_X3_begin (zFin C zrvV ad T R) 0 0 (mf_X3_begin R a0 M) 0 [(0, .ref a0)] [] ad T R M
  unfold mf_X3_begin
  refine zx_iconst (v := 0) (zd me_X3_begin 0 rfl) (by decide) ?_
  refine zx_istore_n (i := 1) (ls' := [(1, .int (0 : Int32)), (0, .ref a0)]) (zd me_X3_begin 1 rfl) rfl (Nat.le_of_ble_eq_true rfl) rfl ?_
  refine zx_loc [1, 0] rfl ?_
  exact mt_X3_begin_l2 h0 zF (0 : Int32) M
def mf_X3_copyFrom (R : zRR) (a0 : Nat) (a1 : Nat) (M : zMem) : Option (Unit × zMem) :=
  zlet (zrowI M (zrf R a0 1) (va_cpy (M.1 (zrf R a1 1)) (M.1 (zrf R a0 1)) (0 : Int32).toNatClampNeg (0 : Int32).toNatClampNeg (62 : Int32).toNatClampNeg)) fun M1 =>
  some ((), M1)
theorem mc_X3_copyFrom (l : Launch) {T : zTT} {R : zRR} {a0 : Nat} {a1 : Nat} (h0 : zi3 T R a0) (h1 : zi3 T R a1) (M : zMem) : zMS l yX3_copyFrom mi_X3_copyFrom zrvV (mf_X3_copyFrom R a0 a1 M) [.ref a0, .ref a1] T R M := by
  refine zMS.of (by decide +kernel) rfl ⟨rfl, rfl⟩ (Nat.le_of_ble_eq_true rfl) (fun C ad _ => ?_)
  show zX C mi_X3_copyFrom (zFin C zrvV ad T R) 0 0 (mf_X3_copyFrom R a0 a1 M) 0 [(0, .ref a0), (1, .ref a1)] [] ad T R M
  unfold mf_X3_copyFrom
  refine zx_aload_n (i := 1) (zd me_X3_copyFrom 0 rfl) rfl 1 rfl ?_
  refine zx_getR (zd me_X3_copyFrom 1 rfl) fl_X3_11 (zi3_c h1) rfl (zi3_r1 h1) ?_
  refine zx_iconst (v := 0) (zd me_X3_copyFrom 2 rfl) (by decide) ?_
  refine zx_aload_n (i := 0) (zd me_X3_copyFrom 3 rfl) rfl 0 rfl ?_
  refine zx_getR (zd me_X3_copyFrom 4 rfl) fl_X3_11 (zi3_c h0) rfl (zi3_r1 h0) ?_
  refine zx_iconst (v := 0) (zd me_X3_copyFrom 5 rfl) (by decide) ?_
  refine zx_bipush (v := 62) (zd me_X3_copyFrom 6 rfl) (by decide) ?_
  refine zx_copyI (zd me_X3_copyFrom 7 rfl) lk_X3_28 ⟨(Nat.le_of_ble_eq_true rfl), (Nat.le_of_ble_eq_true rfl)⟩ (zi3_t1 h1) (zi3_t1 h0) ⟨by decide, by decide, by decide, by decide, by decide⟩ (fun M1 => ?_)
  exact zx_vret (zd me_X3_copyFrom 8 rfl) rfl
def mf_X3_freshLeft (R : zRR) (a0 : Nat) (M : zMem) : Option (Int32 × zMem) :=
  zald 62 (61 : Int32) fun j1 =>
  some ((M.1 (zrf R a0 1) j1), M)
theorem mc_X3_freshLeft (l : Launch) {T : zTT} {R : zRR} {a0 : Nat} (h0 : zi3 T R a0) (M : zMem) : zMS l yX3_freshLeft mi_X3_freshLeft zrvI (mf_X3_freshLeft R a0 M) [.ref a0] T R M := by
  refine zMS.of (by decide +kernel) rfl ⟨rfl, rfl⟩ (Nat.le_of_ble_eq_true rfl) (fun C ad _ => ?_)
  show zX C mi_X3_freshLeft (zFin C zrvI ad T R) 0 0 (mf_X3_freshLeft R a0 M) 0 [(0, .ref a0)] [] ad T R M
  unfold mf_X3_freshLeft
  refine zx_aload_n (i := 0) (zd me_X3_freshLeft 0 rfl) rfl 0 rfl ?_
  refine zx_getR (zd me_X3_freshLeft 1 rfl) fl_X3_11 (zi3_c h0) rfl (zi3_r1 h0) ?_
  refine zx_bipush (v := 61) (zd me_X3_freshLeft 2 rfl) (by decide) ?_
  refine zx_iald (zd me_X3_freshLeft 3 rfl) (zi3_t1 h0) (fun j1 hj1 => ?_)
  exact zx_iret (zd me_X3_freshLeft 4 rfl) rfl
def mf_X3_hadBy (R : zRR) (a0 : Nat) (i1 : Int32) (M : zMem) : Option (Int32 × zMem) :=
  zcl (mf_X7_hasBath R (zrf R a0 0) i1 M) fun r2 M1 =>
  if r2 = 0 then
    (some ((0 : Int32), M1))
  else
    (zald 62 ((0 : Int32) + i1) fun j4 =>
    some ((M1.1 (zrf R a0 1) j4), M1))
theorem mc_X3_hadBy (l : Launch) {T : zTT} {R : zRR} {a0 : Nat} (h0 : zi3 T R a0) (i1 : Int32) (M : zMem) : zMS l yX3_hadBy mi_X3_hadBy zrvI (mf_X3_hadBy R a0 i1 M) [.ref a0, .int i1] T R M := by
  refine zMS.of (by decide +kernel) rfl ⟨rfl, rfl⟩ (Nat.le_of_ble_eq_true rfl) (fun C ad _ => ?_)
  show zX C mi_X3_hadBy (zFin C zrvI ad T R) 0 0 (mf_X3_hadBy R a0 i1 M) 0 [(0, .ref a0), (1, .int i1)] [] ad T R M
  unfold mf_X3_hadBy
  refine zx_aload_n (i := 0) (zd me_X3_hadBy 0 rfl) rfl 0 rfl ?_
  refine zx_getR (zd me_X3_hadBy 1 rfl) fl_X3_15 (zi3_c h0) rfl (zi3_r0 h0) ?_
  refine zx_iload_n (i := 1) (zd me_X3_hadBy 2 rfl) rfl 1 rfl ?_
  refine zx_callVI1 (zd me_X3_hadBy 3 rfl) (mc_X7_hasBath (zl C) (zi3_t0 h0) i1 M) lk_X3_40 ⟨(Nat.le_of_ble_eq_true rfl), (Nat.le_of_ble_eq_true rfl)⟩ (Nat.le_of_ble_eq_true rfl) (zi7_c (zi3_t0 h0)) rfl (fun r2 M1 => ?_)
  refine zx_if_eq (tgt := 22) (zd me_X3_hadBy 4 rfl) (by decide) (fun c3 => ?_) (fun c3 => ?_)
  · refine zx_iconst (v := 0) (zd me_X3_hadBy 12 rfl) (by decide) ?_
    exact zx_iret (zd me_X3_hadBy 13 rfl) rfl
  · refine zx_aload_n (i := 0) (zd me_X3_hadBy 5 rfl) rfl 0 rfl ?_
    refine zx_getR (zd me_X3_hadBy 6 rfl) fl_X3_11 (zi3_c h0) rfl (zi3_r1 h0) ?_
    refine zx_iconst (v := 0) (zd me_X3_hadBy 7 rfl) (by decide) ?_
    refine zx_iload_n (i := 1) (zd me_X3_hadBy 8 rfl) rfl 1 rfl ?_
    refine zx_iadd (zd me_X3_hadBy 9 rfl) ?_
    refine zx_iald (zd me_X3_hadBy 10 rfl) (zi3_t1 h0) (fun j4 hj4 => ?_)
    refine zx_goto (tgt := 23) (zd me_X3_hadBy 11 rfl) (by decide) ?_
    exact zx_iret (zd me_X3_hadBy 13 rfl) rfl
def mf_X3_insideOf (R : zRR) (a0 : Nat) (i1 : Int32) (M : zMem) : Option (Int32 × zMem) :=
  zcl (mf_X7_hasBath R (zrf R a0 0) i1 M) fun r2 M1 =>
  if r2 = 0 then
    (some ((0 : Int32), M1))
  else
    (zald 62 ((6 : Int32) + i1) fun j4 =>
    some ((M1.1 (zrf R a0 1) j4), M1))
theorem mc_X3_insideOf (l : Launch) {T : zTT} {R : zRR} {a0 : Nat} (h0 : zi3 T R a0) (i1 : Int32) (M : zMem) : zMS l yX3_insideOf mi_X3_insideOf zrvI (mf_X3_insideOf R a0 i1 M) [.ref a0, .int i1] T R M := by
  refine zMS.of (by decide +kernel) rfl ⟨rfl, rfl⟩ (Nat.le_of_ble_eq_true rfl) (fun C ad _ => ?_)
  show zX C mi_X3_insideOf (zFin C zrvI ad T R) 0 0 (mf_X3_insideOf R a0 i1 M) 0 [(0, .ref a0), (1, .int i1)] [] ad T R M
  unfold mf_X3_insideOf
  refine zx_aload_n (i := 0) (zd me_X3_insideOf 0 rfl) rfl 0 rfl ?_
  refine zx_getR (zd me_X3_insideOf 1 rfl) fl_X3_15 (zi3_c h0) rfl (zi3_r0 h0) ?_
  refine zx_iload_n (i := 1) (zd me_X3_insideOf 2 rfl) rfl 1 rfl ?_
  refine zx_callVI1 (zd me_X3_insideOf 3 rfl) (mc_X7_hasBath (zl C) (zi3_t0 h0) i1 M) lk_X3_40 ⟨(Nat.le_of_ble_eq_true rfl), (Nat.le_of_ble_eq_true rfl)⟩ (Nat.le_of_ble_eq_true rfl) (zi7_c (zi3_t0 h0)) rfl (fun r2 M1 => ?_)
  refine zx_if_eq (tgt := 23) (zd me_X3_insideOf 4 rfl) (by decide) (fun c3 => ?_) (fun c3 => ?_)
  · refine zx_iconst (v := 0) (zd me_X3_insideOf 12 rfl) (by decide) ?_
    exact zx_iret (zd me_X3_insideOf 13 rfl) rfl
  · refine zx_aload_n (i := 0) (zd me_X3_insideOf 5 rfl) rfl 0 rfl ?_
    refine zx_getR (zd me_X3_insideOf 6 rfl) fl_X3_11 (zi3_c h0) rfl (zi3_r1 h0) ?_
    refine zx_bipush (v := 6) (zd me_X3_insideOf 7 rfl) (by decide) ?_
    refine zx_iload_n (i := 1) (zd me_X3_insideOf 8 rfl) rfl 1 rfl ?_
    refine zx_iadd (zd me_X3_insideOf 9 rfl) ?_
    refine zx_iald (zd me_X3_insideOf 10 rfl) (zi3_t1 h0) (fun j4 hj4 => ?_)
    refine zx_goto (tgt := 24) (zd me_X3_insideOf 11 rfl) (by decide) ?_
    exact zx_iret (zd me_X3_insideOf 13 rfl) rfl
def mf_X3_openBaths_b29 (R : zRR) (a0 : Nat) (H4 : Int32 → Int32 → zMem → Option (Int32 × zMem)) (i1 : Int32) (i2 : Int32) (M : zMem) : Option (Int32 × zMem) :=
  H4 i1 (i2 + 1) M
theorem mt_X3_openBaths_b29 {C : zCx} {ad : Nat → Nat} {T : zTT} {R : zRR} {a0 : Nat} (h0 : zi3 T R a0) {H4 : Int32 → Int32 → zMem → Option (Int32 × zMem)} (hH4 : ∀ (i1 : Int32) (i2 : Int32) (M : zMem), zX C mi_X3_openBaths (zFin C zrvI ad T R) 0 0 (H4 i1 i2 M) 4 [(0, .ref a0), (1, .int i1), (2, .int i2)] [] ad T R M) (i1 : Int32) (i2 : Int32) (M : zMem) : zX C mi_X3_openBaths (zFin C zrvI ad T R) 0 0 (mf_X3_openBaths_b29 R a0 H4 i1 i2 M) 29 [(0, .ref a0), (1, .int i1), (2, .int i2)] [] ad T R M := by
  unfold mf_X3_openBaths_b29
  refine zx_iinc (v := 1) (ls' := [(2, .int (i2 + 1)), (0, .ref a0), (1, .int i1)]) (zd me_X3_openBaths 19 rfl) (Nat.le_of_ble_eq_true rfl) 2 rfl (by decide) rfl ?_
  refine zx_goto (tgt := 4) (zd me_X3_openBaths 20 rfl) (by decide) ?_
  refine zx_loc [1, 2, 0] rfl ?_
  exact hH4 i1 (i2 + 1) M
def mf_X3_openBaths_l4 (R : zRR) (a0 : Nat) : Nat → Int32 → Int32 → zMem → Option (Int32 × zMem)
  | 0, _, _, _ => none
  | fuel + 1, i1, i2, M =>
    if (M.1 (zrf R a0 0) 0) ≤ i2 then
      (some (i1, M))
    else
      (zcl (mf_X3_isOpen R a0 i2 M) fun r3 M2 =>
      if r3 = 0 then
        (mf_X3_openBaths_b29 R a0 (mf_X3_openBaths_l4 R a0 fuel) i1 i2 M2)
      else
        (zlet ((i1 ||| ((1 : Int32) <<< (i2 &&& 31))) : Int32) fun x5 =>
        mf_X3_openBaths_b29 R a0 (mf_X3_openBaths_l4 R a0 fuel) x5 i2 M2))
theorem mt_X3_openBaths_l4 {C : zCx} {ad : Nat → Nat} {T : zTT} {R : zRR} {a0 : Nat} (h0 : zi3 T R a0) : ∀ (fuel : Nat) (i1 : Int32) (i2 : Int32) (M : zMem), zX C mi_X3_openBaths (zFin C zrvI ad T R) 0 0 (mf_X3_openBaths_l4 R a0 fuel i1 i2 M) 4 [(0, .ref a0), (1, .int i1), (2, .int i2)] [] ad T R M := by
  intro fuel
  induction fuel with
  | zero => intros; exact zx_none
  | succ fuel ih =>
    intro i1 i2 M
    rw [mf_X3_openBaths_l4]
    refine zx_iload_n (i := 2) (zd me_X3_openBaths 4 rfl) rfl 2 rfl ?_
    refine zx_aload_n (i := 0) (zd me_X3_openBaths 5 rfl) rfl 0 rfl ?_
    refine zx_getR (zd me_X3_openBaths 6 rfl) fl_X3_15 (zi3_c h0) rfl (zi3_r0 h0) ?_
    refine zx_getI (zd me_X3_openBaths 7 rfl) fl_X3_56 (zi7_c (zi3_t0 h0)) rfl ?_
    refine zx_icmp_ge (tgt := 35) (zd me_X3_openBaths 8 rfl) (by decide) (fun c1 => ?_) (fun c1 => ?_)
    · refine zx_iload_n (i := 1) (zd me_X3_openBaths 21 rfl) rfl 1 rfl ?_
      exact zx_iret (zd me_X3_openBaths 22 rfl) rfl
    · refine zx_aload_n (i := 0) (zd me_X3_openBaths 9 rfl) rfl 0 rfl ?_
      refine zx_iload_n (i := 2) (zd me_X3_openBaths 10 rfl) rfl 2 rfl ?_
      refine zx_callVI1 (zd me_X3_openBaths 11 rfl) (mc_X3_isOpen (zl C) h0 i2 M) lk_X3_59 ⟨(Nat.le_of_ble_eq_true rfl), (Nat.le_of_ble_eq_true rfl)⟩ (Nat.le_of_ble_eq_true rfl) (zi3_c h0) rfl (fun r3 M2 => ?_)
      refine zx_if_eq (tgt := 29) (zd me_X3_openBaths 12 rfl) (by decide) (fun c4 => ?_) (fun c4 => ?_)
      · exact mt_X3_openBaths_b29 h0 ih i1 i2 M2
      · refine zx_iload_n (i := 1) (zd me_X3_openBaths 13 rfl) rfl 1 rfl ?_
        refine zx_iconst (v := 1) (zd me_X3_openBaths 14 rfl) (by decide) ?_
        refine zx_iload_n (i := 2) (zd me_X3_openBaths 15 rfl) rfl 2 rfl ?_
        refine zx_ishl (zd me_X3_openBaths 16 rfl) ?_
        refine zx_ior (zd me_X3_openBaths 17 rfl) ?_
        refine zx_leti (fun x5 => ?_)
        refine zx_istore_n (i := 1) (ls' := [(1, .int x5), (0, .ref a0), (2, .int i2)]) (zd me_X3_openBaths 18 rfl) rfl (Nat.le_of_ble_eq_true rfl) rfl ?_
        refine zx_loc [1, 0, 2] rfl ?_
        exact mt_X3_openBaths_b29 h0 ih x5 i2 M2
def mf_X3_openBaths (R : zRR) (a0 : Nat) (M : zMem) : Option (Int32 × zMem) :=
  mf_X3_openBaths_l4 R a0 zF (0 : Int32) (0 : Int32) M
theorem mc_X3_openBaths (l : Launch) {T : zTT} {R : zRR} {a0 : Nat} (h0 : zi3 T R a0) (M : zMem) : zMS l yX3_openBaths mi_X3_openBaths zrvI (mf_X3_openBaths R a0 M) [.ref a0] T R M := by
  refine zMS.of (by decide +kernel) rfl ⟨rfl, rfl⟩ (Nat.le_of_ble_eq_true rfl) (fun C ad _ => ?_)
  show zX C mi_X3_openBaths (zFin C zrvI ad T R) 0 0 (mf_X3_openBaths R a0 M) 0 [(0, .ref a0)] [] ad T R M
  unfold mf_X3_openBaths
  refine zx_iconst (v := 0) (zd me_X3_openBaths 0 rfl) (by decide) ?_
  refine zx_istore_n (i := 1) (ls' := [(1, .int (0 : Int32)), (0, .ref a0)]) (zd me_X3_openBaths 1 rfl) rfl (Nat.le_of_ble_eq_true rfl) rfl ?_
  refine zx_iconst (v := 0) (zd me_X3_openBaths 2 rfl) (by decide) ?_
  refine zx_istore_n (i := 2) (ls' := [(2, .int (0 : Int32)), (1, .int (0 : Int32)), (0, .ref a0)]) (zd me_X3_openBaths 3 rfl) rfl (Nat.le_of_ble_eq_true rfl) rfl ?_
  refine zx_loc [2, 1, 0] rfl ?_
  exact mt_X3_openBaths_l4 h0 zF (0 : Int32) (0 : Int32) M
def mf_X3_howIs (R : zRR) (a0 : Nat) (i1 : Int32) (M : zMem) : Option (Int32 × zMem) :=
  zcl (mf_X7_hasSheet R (zrf R a0 0) i1 M) fun r2 M1 =>
  if r2 = 0 then
    (some ((-1 : Int32), M1))
  else
    (zald 62 ((12 : Int32) + i1) fun j4 =>
    some ((M1.1 (zrf R a0 1) j4), M1))
theorem mc_X3_howIs (l : Launch) {T : zTT} {R : zRR} {a0 : Nat} (h0 : zi3 T R a0) (i1 : Int32) (M : zMem) : zMS l yX3_howIs mi_X3_howIs zrvI (mf_X3_howIs R a0 i1 M) [.ref a0, .int i1] T R M := by
  refine zMS.of (by decide +kernel) rfl ⟨rfl, rfl⟩ (Nat.le_of_ble_eq_true rfl) (fun C ad _ => ?_)
  show zX C mi_X3_howIs (zFin C zrvI ad T R) 0 0 (mf_X3_howIs R a0 i1 M) 0 [(0, .ref a0), (1, .int i1)] [] ad T R M
  unfold mf_X3_howIs
  refine zx_aload_n (i := 0) (zd me_X3_howIs 0 rfl) rfl 0 rfl ?_
  refine zx_getR (zd me_X3_howIs 1 rfl) fl_X3_15 (zi3_c h0) rfl (zi3_r0 h0) ?_
  refine zx_iload_n (i := 1) (zd me_X3_howIs 2 rfl) rfl 1 rfl ?_
  refine zx_callVI1 (zd me_X3_howIs 3 rfl) (mc_X7_hasSheet (zl C) (zi3_t0 h0) i1 M) lk_X3_62 ⟨(Nat.le_of_ble_eq_true rfl), (Nat.le_of_ble_eq_true rfl)⟩ (Nat.le_of_ble_eq_true rfl) (zi7_c (zi3_t0 h0)) rfl (fun r2 M1 => ?_)
  refine zx_if_eq (tgt := 23) (zd me_X3_howIs 4 rfl) (by decide) (fun c3 => ?_) (fun c3 => ?_)
  · refine zx_iconst (v := (-1)) (zd me_X3_howIs 12 rfl) (by decide) ?_
    exact zx_iret (zd me_X3_howIs 13 rfl) rfl
  · refine zx_aload_n (i := 0) (zd me_X3_howIs 5 rfl) rfl 0 rfl ?_
    refine zx_getR (zd me_X3_howIs 6 rfl) fl_X3_11 (zi3_c h0) rfl (zi3_r1 h0) ?_
    refine zx_bipush (v := 12) (zd me_X3_howIs 7 rfl) (by decide) ?_
    refine zx_iload_n (i := 1) (zd me_X3_howIs 8 rfl) rfl 1 rfl ?_
    refine zx_iadd (zd me_X3_howIs 9 rfl) ?_
    refine zx_iald (zd me_X3_howIs 10 rfl) (zi3_t1 h0) (fun j4 hj4 => ?_)
    refine zx_goto (tgt := 24) (zd me_X3_howIs 11 rfl) (by decide) ?_
    exact zx_iret (zd me_X3_howIs 13 rfl) rfl
def mf_X3_bathOf (R : zRR) (a0 : Nat) (i1 : Int32) (M : zMem) : Option (Int32 × zMem) :=
  zcl (mf_X7_hasSheet R (zrf R a0 0) i1 M) fun r2 M1 =>
  if r2 = 0 then
    (some ((-1 : Int32), M1))
  else
    (zald 62 ((20 : Int32) + i1) fun j4 =>
    some ((M1.1 (zrf R a0 1) j4), M1))
theorem mc_X3_bathOf (l : Launch) {T : zTT} {R : zRR} {a0 : Nat} (h0 : zi3 T R a0) (i1 : Int32) (M : zMem) : zMS l yX3_bathOf mi_X3_bathOf zrvI (mf_X3_bathOf R a0 i1 M) [.ref a0, .int i1] T R M := by
  refine zMS.of (by decide +kernel) rfl ⟨rfl, rfl⟩ (Nat.le_of_ble_eq_true rfl) (fun C ad _ => ?_)
  show zX C mi_X3_bathOf (zFin C zrvI ad T R) 0 0 (mf_X3_bathOf R a0 i1 M) 0 [(0, .ref a0), (1, .int i1)] [] ad T R M
  unfold mf_X3_bathOf
  refine zx_aload_n (i := 0) (zd me_X3_bathOf 0 rfl) rfl 0 rfl ?_
  refine zx_getR (zd me_X3_bathOf 1 rfl) fl_X3_15 (zi3_c h0) rfl (zi3_r0 h0) ?_
  refine zx_iload_n (i := 1) (zd me_X3_bathOf 2 rfl) rfl 1 rfl ?_
  refine zx_callVI1 (zd me_X3_bathOf 3 rfl) (mc_X7_hasSheet (zl C) (zi3_t0 h0) i1 M) lk_X3_62 ⟨(Nat.le_of_ble_eq_true rfl), (Nat.le_of_ble_eq_true rfl)⟩ (Nat.le_of_ble_eq_true rfl) (zi7_c (zi3_t0 h0)) rfl (fun r2 M1 => ?_)
  refine zx_if_eq (tgt := 23) (zd me_X3_bathOf 4 rfl) (by decide) (fun c3 => ?_) (fun c3 => ?_)
  · refine zx_iconst (v := (-1)) (zd me_X3_bathOf 12 rfl) (by decide) ?_
    exact zx_iret (zd me_X3_bathOf 13 rfl) rfl
  · refine zx_aload_n (i := 0) (zd me_X3_bathOf 5 rfl) rfl 0 rfl ?_
    refine zx_getR (zd me_X3_bathOf 6 rfl) fl_X3_11 (zi3_c h0) rfl (zi3_r1 h0) ?_
    refine zx_bipush (v := 20) (zd me_X3_bathOf 7 rfl) (by decide) ?_
    refine zx_iload_n (i := 1) (zd me_X3_bathOf 8 rfl) rfl 1 rfl ?_
    refine zx_iadd (zd me_X3_bathOf 9 rfl) ?_
    refine zx_iald (zd me_X3_bathOf 10 rfl) (zi3_t1 h0) (fun j4 hj4 => ?_)
    refine zx_goto (tgt := 24) (zd me_X3_bathOf 11 rfl) (by decide) ?_
    exact zx_iret (zd me_X3_bathOf 13 rfl) rfl
def mf_X3_leftOf (R : zRR) (a0 : Nat) (i1 : Int32) (M : zMem) : Option (Int32 × zMem) :=
  zcl (mf_X7_hasSheet R (zrf R a0 0) i1 M) fun r2 M1 =>
  if r2 = 0 then
    (some ((0 : Int32), M1))
  else
    (zald 62 ((28 : Int32) + i1) fun j4 =>
    some ((M1.1 (zrf R a0 1) j4), M1))
theorem mc_X3_leftOf (l : Launch) {T : zTT} {R : zRR} {a0 : Nat} (h0 : zi3 T R a0) (i1 : Int32) (M : zMem) : zMS l yX3_leftOf mi_X3_leftOf zrvI (mf_X3_leftOf R a0 i1 M) [.ref a0, .int i1] T R M := by
  refine zMS.of (by decide +kernel) rfl ⟨rfl, rfl⟩ (Nat.le_of_ble_eq_true rfl) (fun C ad _ => ?_)
  show zX C mi_X3_leftOf (zFin C zrvI ad T R) 0 0 (mf_X3_leftOf R a0 i1 M) 0 [(0, .ref a0), (1, .int i1)] [] ad T R M
  unfold mf_X3_leftOf
  refine zx_aload_n (i := 0) (zd me_X3_leftOf 0 rfl) rfl 0 rfl ?_
  refine zx_getR (zd me_X3_leftOf 1 rfl) fl_X3_15 (zi3_c h0) rfl (zi3_r0 h0) ?_
  refine zx_iload_n (i := 1) (zd me_X3_leftOf 2 rfl) rfl 1 rfl ?_
  refine zx_callVI1 (zd me_X3_leftOf 3 rfl) (mc_X7_hasSheet (zl C) (zi3_t0 h0) i1 M) lk_X3_62 ⟨(Nat.le_of_ble_eq_true rfl), (Nat.le_of_ble_eq_true rfl)⟩ (Nat.le_of_ble_eq_true rfl) (zi7_c (zi3_t0 h0)) rfl (fun r2 M1 => ?_)
  refine zx_if_eq (tgt := 23) (zd me_X3_leftOf 4 rfl) (by decide) (fun c3 => ?_) (fun c3 => ?_)
  · refine zx_iconst (v := 0) (zd me_X3_leftOf 12 rfl) (by decide) ?_
    exact zx_iret (zd me_X3_leftOf 13 rfl) rfl
  · refine zx_aload_n (i := 0) (zd me_X3_leftOf 5 rfl) rfl 0 rfl ?_
    refine zx_getR (zd me_X3_leftOf 6 rfl) fl_X3_11 (zi3_c h0) rfl (zi3_r1 h0) ?_
    refine zx_bipush (v := 28) (zd me_X3_leftOf 7 rfl) (by decide) ?_
    refine zx_iload_n (i := 1) (zd me_X3_leftOf 8 rfl) rfl 1 rfl ?_
    refine zx_iadd (zd me_X3_leftOf 9 rfl) ?_
    refine zx_iald (zd me_X3_leftOf 10 rfl) (zi3_t1 h0) (fun j4 hj4 => ?_)
    refine zx_goto (tgt := 24) (zd me_X3_leftOf 11 rfl) (by decide) ?_
    exact zx_iret (zd me_X3_leftOf 13 rfl) rfl
def mf_X3_overOf (R : zRR) (a0 : Nat) (i1 : Int32) (M : zMem) : Option (Int32 × zMem) :=
  zcl (mf_X7_hasSheet R (zrf R a0 0) i1 M) fun r2 M1 =>
  if r2 = 0 then
    (some ((0 : Int32), M1))
  else
    (zald 62 ((44 : Int32) + i1) fun j4 =>
    some ((M1.1 (zrf R a0 1) j4), M1))
theorem mc_X3_overOf (l : Launch) {T : zTT} {R : zRR} {a0 : Nat} (h0 : zi3 T R a0) (i1 : Int32) (M : zMem) : zMS l yX3_overOf mi_X3_overOf zrvI (mf_X3_overOf R a0 i1 M) [.ref a0, .int i1] T R M := by
  refine zMS.of (by decide +kernel) rfl ⟨rfl, rfl⟩ (Nat.le_of_ble_eq_true rfl) (fun C ad _ => ?_)
  show zX C mi_X3_overOf (zFin C zrvI ad T R) 0 0 (mf_X3_overOf R a0 i1 M) 0 [(0, .ref a0), (1, .int i1)] [] ad T R M
  unfold mf_X3_overOf
  refine zx_aload_n (i := 0) (zd me_X3_overOf 0 rfl) rfl 0 rfl ?_
  refine zx_getR (zd me_X3_overOf 1 rfl) fl_X3_15 (zi3_c h0) rfl (zi3_r0 h0) ?_
  refine zx_iload_n (i := 1) (zd me_X3_overOf 2 rfl) rfl 1 rfl ?_
  refine zx_callVI1 (zd me_X3_overOf 3 rfl) (mc_X7_hasSheet (zl C) (zi3_t0 h0) i1 M) lk_X3_62 ⟨(Nat.le_of_ble_eq_true rfl), (Nat.le_of_ble_eq_true rfl)⟩ (Nat.le_of_ble_eq_true rfl) (zi7_c (zi3_t0 h0)) rfl (fun r2 M1 => ?_)
  refine zx_if_eq (tgt := 23) (zd me_X3_overOf 4 rfl) (by decide) (fun c3 => ?_) (fun c3 => ?_)
  · refine zx_iconst (v := 0) (zd me_X3_overOf 12 rfl) (by decide) ?_
    exact zx_iret (zd me_X3_overOf 13 rfl) rfl
  · refine zx_aload_n (i := 0) (zd me_X3_overOf 5 rfl) rfl 0 rfl ?_
    refine zx_getR (zd me_X3_overOf 6 rfl) fl_X3_11 (zi3_c h0) rfl (zi3_r1 h0) ?_
    refine zx_bipush (v := 44) (zd me_X3_overOf 7 rfl) (by decide) ?_
    refine zx_iload_n (i := 1) (zd me_X3_overOf 8 rfl) rfl 1 rfl ?_
    refine zx_iadd (zd me_X3_overOf 9 rfl) ?_
    refine zx_iald (zd me_X3_overOf 10 rfl) (zi3_t1 h0) (fun j4 hj4 => ?_)
    refine zx_goto (tgt := 24) (zd me_X3_overOf 11 rfl) (by decide) ?_
    exact zx_iret (zd me_X3_overOf 13 rfl) rfl
def mf_X3_triesOf (R : zRR) (a0 : Nat) (i1 : Int32) (M : zMem) : Option (Int32 × zMem) :=
  zcl (mf_X7_hasSheet R (zrf R a0 0) i1 M) fun r2 M1 =>
  if r2 = 0 then
    (some ((0 : Int32), M1))
  else
    (zald 62 ((52 : Int32) + i1) fun j4 =>
    some ((M1.1 (zrf R a0 1) j4), M1))
theorem mc_X3_triesOf (l : Launch) {T : zTT} {R : zRR} {a0 : Nat} (h0 : zi3 T R a0) (i1 : Int32) (M : zMem) : zMS l yX3_triesOf mi_X3_triesOf zrvI (mf_X3_triesOf R a0 i1 M) [.ref a0, .int i1] T R M := by
  refine zMS.of (by decide +kernel) rfl ⟨rfl, rfl⟩ (Nat.le_of_ble_eq_true rfl) (fun C ad _ => ?_)
  show zX C mi_X3_triesOf (zFin C zrvI ad T R) 0 0 (mf_X3_triesOf R a0 i1 M) 0 [(0, .ref a0), (1, .int i1)] [] ad T R M
  unfold mf_X3_triesOf
  refine zx_aload_n (i := 0) (zd me_X3_triesOf 0 rfl) rfl 0 rfl ?_
  refine zx_getR (zd me_X3_triesOf 1 rfl) fl_X3_15 (zi3_c h0) rfl (zi3_r0 h0) ?_
  refine zx_iload_n (i := 1) (zd me_X3_triesOf 2 rfl) rfl 1 rfl ?_
  refine zx_callVI1 (zd me_X3_triesOf 3 rfl) (mc_X7_hasSheet (zl C) (zi3_t0 h0) i1 M) lk_X3_62 ⟨(Nat.le_of_ble_eq_true rfl), (Nat.le_of_ble_eq_true rfl)⟩ (Nat.le_of_ble_eq_true rfl) (zi7_c (zi3_t0 h0)) rfl (fun r2 M1 => ?_)
  refine zx_if_eq (tgt := 23) (zd me_X3_triesOf 4 rfl) (by decide) (fun c3 => ?_) (fun c3 => ?_)
  · refine zx_iconst (v := 0) (zd me_X3_triesOf 12 rfl) (by decide) ?_
    exact zx_iret (zd me_X3_triesOf 13 rfl) rfl
  · refine zx_aload_n (i := 0) (zd me_X3_triesOf 5 rfl) rfl 0 rfl ?_
    refine zx_getR (zd me_X3_triesOf 6 rfl) fl_X3_11 (zi3_c h0) rfl (zi3_r1 h0) ?_
    refine zx_bipush (v := 52) (zd me_X3_triesOf 7 rfl) (by decide) ?_
    refine zx_iload_n (i := 1) (zd me_X3_triesOf 8 rfl) rfl 1 rfl ?_
    refine zx_iadd (zd me_X3_triesOf 9 rfl) ?_
    refine zx_iald (zd me_X3_triesOf 10 rfl) (zi3_t1 h0) (fun j4 hj4 => ?_)
    refine zx_goto (tgt := 24) (zd me_X3_triesOf 11 rfl) (by decide) ?_
    exact zx_iret (zd me_X3_triesOf 13 rfl) rfl
def mf_X3_isHeld (R : zRR) (a0 : Nat) (i1 : Int32) (M : zMem) : Option (Int32 × zMem) :=
  zcl (mf_X3_howIs R a0 i1 M) fun r2 M1 =>
  if r2 = (1 : Int32) then
    (zald 62 ((28 : Int32) + i1) fun j4 =>
    if (M1.1 (zrf R a0 1) j4) = 0 then
      (some ((1 : Int32), M1))
    else
      (some ((0 : Int32), M1)))
  else
    (some ((0 : Int32), M1))
theorem mc_X3_isHeld (l : Launch) {T : zTT} {R : zRR} {a0 : Nat} (h0 : zi3 T R a0) (i1 : Int32) (M : zMem) : zMS l yX3_isHeld mi_X3_isHeld zrvI (mf_X3_isHeld R a0 i1 M) [.ref a0, .int i1] T R M := by
  refine zMS.of (by decide +kernel) rfl ⟨rfl, rfl⟩ (Nat.le_of_ble_eq_true rfl) (fun C ad _ => ?_)
  show zX C mi_X3_isHeld (zFin C zrvI ad T R) 0 0 (mf_X3_isHeld R a0 i1 M) 0 [(0, .ref a0), (1, .int i1)] [] ad T R M
  unfold mf_X3_isHeld
  refine zx_aload_n (i := 0) (zd me_X3_isHeld 0 rfl) rfl 0 rfl ?_
  refine zx_iload_n (i := 1) (zd me_X3_isHeld 1 rfl) rfl 1 rfl ?_
  refine zx_callVI1 (zd me_X3_isHeld 2 rfl) (mc_X3_howIs (zl C) h0 i1 M) lk_X3_65 ⟨(Nat.le_of_ble_eq_true rfl), (Nat.le_of_ble_eq_true rfl)⟩ (Nat.le_of_ble_eq_true rfl) (zi3_c h0) rfl (fun r2 M1 => ?_)
  refine zx_iconst (v := 1) (zd me_X3_isHeld 3 rfl) (by decide) ?_
  refine zx_icmp_ne (tgt := 25) (zd me_X3_isHeld 4 rfl) (by decide) (fun c3 => ?_) (fun c3 => ?_)
  · refine zx_iconst (v := 0) (zd me_X3_isHeld 14 rfl) (by decide) ?_
    exact zx_zret (zd me_X3_isHeld 15 rfl) rfl rfl
  · refine zx_aload_n (i := 0) (zd me_X3_isHeld 5 rfl) rfl 0 rfl ?_
    refine zx_getR (zd me_X3_isHeld 6 rfl) fl_X3_11 (zi3_c h0) rfl (zi3_r1 h0) ?_
    refine zx_bipush (v := 28) (zd me_X3_isHeld 7 rfl) (by decide) ?_
    refine zx_iload_n (i := 1) (zd me_X3_isHeld 8 rfl) rfl 1 rfl ?_
    refine zx_iadd (zd me_X3_isHeld 9 rfl) ?_
    refine zx_iald (zd me_X3_isHeld 10 rfl) (zi3_t1 h0) (fun j4 hj4 => ?_)
    refine zx_if_ne (tgt := 25) (zd me_X3_isHeld 11 rfl) (by decide) (fun c5 => ?_) (fun c5 => ?_)
    · refine zx_iconst (v := 0) (zd me_X3_isHeld 14 rfl) (by decide) ?_
      exact zx_zret (zd me_X3_isHeld 15 rfl) rfl rfl
    · refine zx_iconst (v := 1) (zd me_X3_isHeld 12 rfl) (by decide) ?_
      refine zx_goto (tgt := 26) (zd me_X3_isHeld 13 rfl) (by decide) ?_
      exact zx_zret (zd me_X3_isHeld 15 rfl) rfl rfl
def mf_X3_tellSheet (R : zRR) (a0 : Nat) (i1 : Int32) (i2 : Int32) (M : zMem) : Option (Int32 × zMem) :=
  if i2 = 1 then
    (zcl (mf_X3_howIs R a0 i1 M) fun r3 M2 =>
    some (r3, M2))
  else
  if i2 = 2 then
    (zcl (mf_X3_bathOf R a0 i1 M) fun r6 M5 =>
    some (r6, M5))
  else
  if i2 = 3 then
    (zcl (mf_X3_leftOf R a0 i1 M) fun r9 M8 =>
    some (r9, M8))
  else
  if i2 = 4 then
    (zcl (mf_X7_hasSheet R (zrf R a0 0) i1 M) fun r12 M11 =>
    if r12 = 0 then
      (some ((0 : Int32), M11))
    else
      (zald 62 ((36 : Int32) + i1) fun j14 =>
      some ((M11.1 (zrf R a0 1) j14), M11)))
  else
  if i2 = 5 then
    (zcl (mf_X3_overOf R a0 i1 M) fun r17 M16 =>
    some (r17, M16))
  else
    (zcl (mf_X3_triesOf R a0 i1 M) fun r19 M18 =>
    some (r19, M18))
theorem mc_X3_tellSheet (l : Launch) {T : zTT} {R : zRR} {a0 : Nat} (h0 : zi3 T R a0) (i1 : Int32) (i2 : Int32) (M : zMem) : zMS l yX3_tellSheet mi_X3_tellSheet zrvI (mf_X3_tellSheet R a0 i1 i2 M) [.ref a0, .int i1, .int i2] T R M := by
  refine zMS.of (by decide +kernel) rfl ⟨rfl, rfl⟩ (Nat.le_of_ble_eq_true rfl) (fun C ad _ => ?_)
  show zX C mi_X3_tellSheet (zFin C zrvI ad T R) 0 0 (mf_X3_tellSheet R a0 i1 i2 M) 0 [(0, .ref a0), (1, .int i1), (2, .int i2)] [] ad T R M
  unfold mf_X3_tellSheet
  refine zx_iload_n (i := 2) (zd me_X3_tellSheet 0 rfl) rfl 2 rfl ?_
  refine zx_ite (fun c1 => ?_) (fun c1 => ?_)
  · refine zx_tin (off := 35) (tgt := 36) (zd me_X3_tellSheet 1 rfl) (by rw [c1]; decide) (by rw [c1]; decide) (by rw [c1]; rfl) (by decide) ?_
    refine zx_aload_n (i := 0) (zd me_X3_tellSheet 2 rfl) rfl 0 rfl ?_
    refine zx_iload_n (i := 1) (zd me_X3_tellSheet 3 rfl) rfl 1 rfl ?_
    refine zx_callVI1 (zd me_X3_tellSheet 4 rfl) (mc_X3_howIs (zl C) h0 i1 M) lk_X3_65 ⟨(Nat.le_of_ble_eq_true rfl), (Nat.le_of_ble_eq_true rfl)⟩ (Nat.le_of_ble_eq_true rfl) (zi3_c h0) rfl (fun r3 M2 => ?_)
    exact zx_iret (zd me_X3_tellSheet 5 rfl) rfl
  · refine zx_ite (fun c4 => ?_) (fun c4 => ?_)
    · refine zx_tin (off := 41) (tgt := 42) (zd me_X3_tellSheet 1 rfl) (by rw [c4]; decide) (by rw [c4]; decide) (by rw [c4]; rfl) (by decide) ?_
      refine zx_aload_n (i := 0) (zd me_X3_tellSheet 6 rfl) rfl 0 rfl ?_
      refine zx_iload_n (i := 1) (zd me_X3_tellSheet 7 rfl) rfl 1 rfl ?_
      refine zx_callVI1 (zd me_X3_tellSheet 8 rfl) (mc_X3_bathOf (zl C) h0 i1 M) lk_X3_68 ⟨(Nat.le_of_ble_eq_true rfl), (Nat.le_of_ble_eq_true rfl)⟩ (Nat.le_of_ble_eq_true rfl) (zi3_c h0) rfl (fun r6 M5 => ?_)
      exact zx_iret (zd me_X3_tellSheet 9 rfl) rfl
    · refine zx_ite (fun c7 => ?_) (fun c7 => ?_)
      · refine zx_tin (off := 47) (tgt := 48) (zd me_X3_tellSheet 1 rfl) (by rw [c7]; decide) (by rw [c7]; decide) (by rw [c7]; rfl) (by decide) ?_
        refine zx_aload_n (i := 0) (zd me_X3_tellSheet 10 rfl) rfl 0 rfl ?_
        refine zx_iload_n (i := 1) (zd me_X3_tellSheet 11 rfl) rfl 1 rfl ?_
        refine zx_callVI1 (zd me_X3_tellSheet 12 rfl) (mc_X3_leftOf (zl C) h0 i1 M) lk_X3_71 ⟨(Nat.le_of_ble_eq_true rfl), (Nat.le_of_ble_eq_true rfl)⟩ (Nat.le_of_ble_eq_true rfl) (zi3_c h0) rfl (fun r9 M8 => ?_)
        exact zx_iret (zd me_X3_tellSheet 13 rfl) rfl
      · refine zx_ite (fun c10 => ?_) (fun c10 => ?_)
        · refine zx_tin (off := 53) (tgt := 54) (zd me_X3_tellSheet 1 rfl) (by rw [c10]; decide) (by rw [c10]; decide) (by rw [c10]; rfl) (by decide) ?_
          refine zx_aload_n (i := 0) (zd me_X3_tellSheet 14 rfl) rfl 0 rfl ?_
          refine zx_getR (zd me_X3_tellSheet 15 rfl) fl_X3_15 (zi3_c h0) rfl (zi3_r0 h0) ?_
          refine zx_iload_n (i := 1) (zd me_X3_tellSheet 16 rfl) rfl 1 rfl ?_
          refine zx_callVI1 (zd me_X3_tellSheet 17 rfl) (mc_X7_hasSheet (zl C) (zi3_t0 h0) i1 M) lk_X3_62 ⟨(Nat.le_of_ble_eq_true rfl), (Nat.le_of_ble_eq_true rfl)⟩ (Nat.le_of_ble_eq_true rfl) (zi7_c (zi3_t0 h0)) rfl (fun r12 M11 => ?_)
          refine zx_if_eq (tgt := 77) (zd me_X3_tellSheet 18 rfl) (by decide) (fun c13 => ?_) (fun c13 => ?_)
          · refine zx_iconst (v := 0) (zd me_X3_tellSheet 26 rfl) (by decide) ?_
            exact zx_iret (zd me_X3_tellSheet 27 rfl) rfl
          · refine zx_aload_n (i := 0) (zd me_X3_tellSheet 19 rfl) rfl 0 rfl ?_
            refine zx_getR (zd me_X3_tellSheet 20 rfl) fl_X3_11 (zi3_c h0) rfl (zi3_r1 h0) ?_
            refine zx_bipush (v := 36) (zd me_X3_tellSheet 21 rfl) (by decide) ?_
            refine zx_iload_n (i := 1) (zd me_X3_tellSheet 22 rfl) rfl 1 rfl ?_
            refine zx_iadd (zd me_X3_tellSheet 23 rfl) ?_
            refine zx_iald (zd me_X3_tellSheet 24 rfl) (zi3_t1 h0) (fun j14 hj14 => ?_)
            refine zx_goto (tgt := 78) (zd me_X3_tellSheet 25 rfl) (by decide) ?_
            exact zx_iret (zd me_X3_tellSheet 27 rfl) rfl
        · refine zx_ite (fun c15 => ?_) (fun c15 => ?_)
          · refine zx_tin (off := 78) (tgt := 79) (zd me_X3_tellSheet 1 rfl) (by rw [c15]; decide) (by rw [c15]; decide) (by rw [c15]; rfl) (by decide) ?_
            refine zx_aload_n (i := 0) (zd me_X3_tellSheet 28 rfl) rfl 0 rfl ?_
            refine zx_iload_n (i := 1) (zd me_X3_tellSheet 29 rfl) rfl 1 rfl ?_
            refine zx_callVI1 (zd me_X3_tellSheet 30 rfl) (mc_X3_overOf (zl C) h0 i1 M) lk_X3_74 ⟨(Nat.le_of_ble_eq_true rfl), (Nat.le_of_ble_eq_true rfl)⟩ (Nat.le_of_ble_eq_true rfl) (zi3_c h0) rfl (fun r17 M16 => ?_)
            exact zx_iret (zd me_X3_tellSheet 31 rfl) rfl
          · refine zx_tout (tgt := 85) (zd me_X3_tellSheet 1 rfl) (by have e0 := lv_neT c1 (a := 1) (by decide); have e1 := lv_neT c4 (a := 2) (by decide); have e2 := lv_neT c7 (a := 3) (by decide); have e3 := lv_neT c10 (a := 4) (by decide); have e4 := lv_neT c15 (a := 5) (by decide); omega) (by decide) ?_
            refine zx_aload_n (i := 0) (zd me_X3_tellSheet 32 rfl) rfl 0 rfl ?_
            refine zx_iload_n (i := 1) (zd me_X3_tellSheet 33 rfl) rfl 1 rfl ?_
            refine zx_callVI1 (zd me_X3_tellSheet 34 rfl) (mc_X3_triesOf (zl C) h0 i1 M) lk_X3_77 ⟨(Nat.le_of_ble_eq_true rfl), (Nat.le_of_ble_eq_true rfl)⟩ (Nat.le_of_ble_eq_true rfl) (zi3_c h0) rfl (fun r19 M18 => ?_)
            exact zx_iret (zd me_X3_tellSheet 35 rfl) rfl
def mf_X3_allHeld_b29 (R : zRR) (a0 : Nat) (H4 : Int32 → Int32 → zMem → Option (Int32 × zMem)) (i1 : Int32) (i2 : Int32) (M : zMem) : Option (Int32 × zMem) :=
  H4 i1 (i2 + 1) M
theorem mt_X3_allHeld_b29 {C : zCx} {ad : Nat → Nat} {T : zTT} {R : zRR} {a0 : Nat} (h0 : zi3 T R a0) {H4 : Int32 → Int32 → zMem → Option (Int32 × zMem)} (hH4 : ∀ (i1 : Int32) (i2 : Int32) (M : zMem), zX C mi_X3_allHeld (zFin C zrvI ad T R) 0 0 (H4 i1 i2 M) 4 [(0, .ref a0), (1, .int i1), (2, .int i2)] [] ad T R M) (i1 : Int32) (i2 : Int32) (M : zMem) : zX C mi_X3_allHeld (zFin C zrvI ad T R) 0 0 (mf_X3_allHeld_b29 R a0 H4 i1 i2 M) 29 [(0, .ref a0), (1, .int i1), (2, .int i2)] [] ad T R M := by
  unfold mf_X3_allHeld_b29
  refine zx_iinc (v := 1) (ls' := [(2, .int (i2 + 1)), (0, .ref a0), (1, .int i1)]) (zd me_X3_allHeld 19 rfl) (Nat.le_of_ble_eq_true rfl) 2 rfl (by decide) rfl ?_
  refine zx_goto (tgt := 4) (zd me_X3_allHeld 20 rfl) (by decide) ?_
  refine zx_loc [1, 2, 0] rfl ?_
  exact hH4 i1 (i2 + 1) M
def mf_X3_allHeld_l4 (R : zRR) (a0 : Nat) : Nat → Int32 → Int32 → zMem → Option (Int32 × zMem)
  | 0, _, _, _ => none
  | fuel + 1, i1, i2, M =>
    if (M.1 (zrf R a0 0) 2) ≤ i2 then
      (some (i1, M))
    else
      (zcl (mf_X3_isHeld R a0 i2 M) fun r3 M2 =>
      if r3 = 0 then
        (mf_X3_allHeld_b29 R a0 (mf_X3_allHeld_l4 R a0 fuel) i1 i2 M2)
      else
        (zlet ((i1 ||| ((1 : Int32) <<< (i2 &&& 31))) : Int32) fun x5 =>
        mf_X3_allHeld_b29 R a0 (mf_X3_allHeld_l4 R a0 fuel) x5 i2 M2))
theorem mt_X3_allHeld_l4 {C : zCx} {ad : Nat → Nat} {T : zTT} {R : zRR} {a0 : Nat} (h0 : zi3 T R a0) : ∀ (fuel : Nat) (i1 : Int32) (i2 : Int32) (M : zMem), zX C mi_X3_allHeld (zFin C zrvI ad T R) 0 0 (mf_X3_allHeld_l4 R a0 fuel i1 i2 M) 4 [(0, .ref a0), (1, .int i1), (2, .int i2)] [] ad T R M := by
  intro fuel
  induction fuel with
  | zero => intros; exact zx_none
  | succ fuel ih =>
    intro i1 i2 M
    rw [mf_X3_allHeld_l4]
    refine zx_iload_n (i := 2) (zd me_X3_allHeld 4 rfl) rfl 2 rfl ?_
    refine zx_aload_n (i := 0) (zd me_X3_allHeld 5 rfl) rfl 0 rfl ?_
    refine zx_getR (zd me_X3_allHeld 6 rfl) fl_X3_15 (zi3_c h0) rfl (zi3_r0 h0) ?_
    refine zx_getI (zd me_X3_allHeld 7 rfl) fl_X3_80 (zi7_c (zi3_t0 h0)) rfl ?_
    refine zx_icmp_ge (tgt := 35) (zd me_X3_allHeld 8 rfl) (by decide) (fun c1 => ?_) (fun c1 => ?_)
    · refine zx_iload_n (i := 1) (zd me_X3_allHeld 21 rfl) rfl 1 rfl ?_
      exact zx_iret (zd me_X3_allHeld 22 rfl) rfl
    · refine zx_aload_n (i := 0) (zd me_X3_allHeld 9 rfl) rfl 0 rfl ?_
      refine zx_iload_n (i := 2) (zd me_X3_allHeld 10 rfl) rfl 2 rfl ?_
      refine zx_callVI1 (zd me_X3_allHeld 11 rfl) (mc_X3_isHeld (zl C) h0 i2 M) lk_X3_83 ⟨(Nat.le_of_ble_eq_true rfl), (Nat.le_of_ble_eq_true rfl)⟩ (Nat.le_of_ble_eq_true rfl) (zi3_c h0) rfl (fun r3 M2 => ?_)
      refine zx_if_eq (tgt := 29) (zd me_X3_allHeld 12 rfl) (by decide) (fun c4 => ?_) (fun c4 => ?_)
      · exact mt_X3_allHeld_b29 h0 ih i1 i2 M2
      · refine zx_iload_n (i := 1) (zd me_X3_allHeld 13 rfl) rfl 1 rfl ?_
        refine zx_iconst (v := 1) (zd me_X3_allHeld 14 rfl) (by decide) ?_
        refine zx_iload_n (i := 2) (zd me_X3_allHeld 15 rfl) rfl 2 rfl ?_
        refine zx_ishl (zd me_X3_allHeld 16 rfl) ?_
        refine zx_ior (zd me_X3_allHeld 17 rfl) ?_
        refine zx_leti (fun x5 => ?_)
        refine zx_istore_n (i := 1) (ls' := [(1, .int x5), (0, .ref a0), (2, .int i2)]) (zd me_X3_allHeld 18 rfl) rfl (Nat.le_of_ble_eq_true rfl) rfl ?_
        refine zx_loc [1, 0, 2] rfl ?_
        exact mt_X3_allHeld_b29 h0 ih x5 i2 M2
def mf_X3_allHeld (R : zRR) (a0 : Nat) (M : zMem) : Option (Int32 × zMem) :=
  mf_X3_allHeld_l4 R a0 zF (0 : Int32) (0 : Int32) M
theorem mc_X3_allHeld (l : Launch) {T : zTT} {R : zRR} {a0 : Nat} (h0 : zi3 T R a0) (M : zMem) : zMS l yX3_allHeld mi_X3_allHeld zrvI (mf_X3_allHeld R a0 M) [.ref a0] T R M := by
  refine zMS.of (by decide +kernel) rfl ⟨rfl, rfl⟩ (Nat.le_of_ble_eq_true rfl) (fun C ad _ => ?_)
  show zX C mi_X3_allHeld (zFin C zrvI ad T R) 0 0 (mf_X3_allHeld R a0 M) 0 [(0, .ref a0)] [] ad T R M
  unfold mf_X3_allHeld
  refine zx_iconst (v := 0) (zd me_X3_allHeld 0 rfl) (by decide) ?_
  refine zx_istore_n (i := 1) (ls' := [(1, .int (0 : Int32)), (0, .ref a0)]) (zd me_X3_allHeld 1 rfl) rfl (Nat.le_of_ble_eq_true rfl) rfl ?_
  refine zx_iconst (v := 0) (zd me_X3_allHeld 2 rfl) (by decide) ?_
  refine zx_istore_n (i := 2) (ls' := [(2, .int (0 : Int32)), (1, .int (0 : Int32)), (0, .ref a0)]) (zd me_X3_allHeld 3 rfl) rfl (Nat.le_of_ble_eq_true rfl) rfl ?_
  refine zx_loc [2, 1, 0] rfl ?_
  exact mt_X3_allHeld_l4 h0 zF (0 : Int32) (0 : Int32) M
def mf_X3_minutesOver_l4 (R : zRR) (a0 : Nat) : Nat → Int32 → Int32 → zMem → Option (Int32 × zMem)
  | 0, _, _, _ => none
  | fuel + 1, i1, i2, M =>
    if (M.1 (zrf R a0 0) 2) ≤ i2 then
      (some (i1, M))
    else
      (zald 62 ((44 : Int32) + i2) fun j2 =>
      zlet ((i1 + (M.1 (zrf R a0 1) j2)) : Int32) fun x3 =>
      mf_X3_minutesOver_l4 R a0 fuel x3 (i2 + 1) M)
theorem mt_X3_minutesOver_l4 {C : zCx} {ad : Nat → Nat} {T : zTT} {R : zRR} {a0 : Nat} (h0 : zi3 T R a0) : ∀ (fuel : Nat) (i1 : Int32) (i2 : Int32) (M : zMem), zX C mi_X3_minutesOver (zFin C zrvI ad T R) 0 0 (mf_X3_minutesOver_l4 R a0 fuel i1 i2 M) 4 [(0, .ref a0), (1, .int i1), (2, .int i2)] [] ad T R M := by
  intro fuel
  induction fuel with
  | zero => intros; exact zx_none
  | succ fuel ih =>
    intro i1 i2 M
    rw [mf_X3_minutesOver_l4]
    refine zx_iload_n (i := 2) (zd me_X3_minutesOver 4 rfl) rfl 2 rfl ?_
    refine zx_aload_n (i := 0) (zd me_X3_minutesOver 5 rfl) rfl 0 rfl ?_
    refine zx_getR (zd me_X3_minutesOver 6 rfl) fl_X3_15 (zi3_c h0) rfl (zi3_r0 h0) ?_
    refine zx_getI (zd me_X3_minutesOver 7 rfl) fl_X3_80 (zi7_c (zi3_t0 h0)) rfl ?_
    refine zx_icmp_ge (tgt := 33) (zd me_X3_minutesOver 8 rfl) (by decide) (fun c1 => ?_) (fun c1 => ?_)
    · refine zx_iload_n (i := 1) (zd me_X3_minutesOver 20 rfl) rfl 1 rfl ?_
      exact zx_iret (zd me_X3_minutesOver 21 rfl) rfl
    · refine zx_iload_n (i := 1) (zd me_X3_minutesOver 9 rfl) rfl 1 rfl ?_
      refine zx_aload_n (i := 0) (zd me_X3_minutesOver 10 rfl) rfl 0 rfl ?_
      refine zx_getR (zd me_X3_minutesOver 11 rfl) fl_X3_11 (zi3_c h0) rfl (zi3_r1 h0) ?_
      refine zx_bipush (v := 44) (zd me_X3_minutesOver 12 rfl) (by decide) ?_
      refine zx_iload_n (i := 2) (zd me_X3_minutesOver 13 rfl) rfl 2 rfl ?_
      refine zx_iadd (zd me_X3_minutesOver 14 rfl) ?_
      refine zx_iald (zd me_X3_minutesOver 15 rfl) (zi3_t1 h0) (fun j2 hj2 => ?_)
      refine zx_iadd (zd me_X3_minutesOver 16 rfl) ?_
      refine zx_leti (fun x3 => ?_)
      refine zx_istore_n (i := 1) (ls' := [(1, .int x3), (0, .ref a0), (2, .int i2)]) (zd me_X3_minutesOver 17 rfl) rfl (Nat.le_of_ble_eq_true rfl) rfl ?_
      refine zx_iinc (v := 1) (ls' := [(2, .int (i2 + 1)), (1, .int x3), (0, .ref a0)]) (zd me_X3_minutesOver 18 rfl) (Nat.le_of_ble_eq_true rfl) 2 rfl (by decide) rfl ?_
      refine zx_goto (tgt := 4) (zd me_X3_minutesOver 19 rfl) (by decide) ?_
      refine zx_loc [2, 1, 0] rfl ?_
      exact ih x3 (i2 + 1) M
def mf_X3_minutesOver (R : zRR) (a0 : Nat) (M : zMem) : Option (Int32 × zMem) :=
  mf_X3_minutesOver_l4 R a0 zF (0 : Int32) (0 : Int32) M
theorem mc_X3_minutesOver (l : Launch) {T : zTT} {R : zRR} {a0 : Nat} (h0 : zi3 T R a0) (M : zMem) : zMS l yX3_minutesOver mi_X3_minutesOver zrvI (mf_X3_minutesOver R a0 M) [.ref a0] T R M := by
  refine zMS.of (by decide +kernel) rfl ⟨rfl, rfl⟩ (Nat.le_of_ble_eq_true rfl) (fun C ad _ => ?_)
  show zX C mi_X3_minutesOver (zFin C zrvI ad T R) 0 0 (mf_X3_minutesOver R a0 M) 0 [(0, .ref a0)] [] ad T R M
  unfold mf_X3_minutesOver
  refine zx_iconst (v := 0) (zd me_X3_minutesOver 0 rfl) (by decide) ?_
  refine zx_istore_n (i := 1) (ls' := [(1, .int (0 : Int32)), (0, .ref a0)]) (zd me_X3_minutesOver 1 rfl) rfl (Nat.le_of_ble_eq_true rfl) rfl ?_
  refine zx_iconst (v := 0) (zd me_X3_minutesOver 2 rfl) (by decide) ?_
  refine zx_istore_n (i := 2) (ls' := [(2, .int (0 : Int32)), (1, .int (0 : Int32)), (0, .ref a0)]) (zd me_X3_minutesOver 3 rfl) rfl (Nat.le_of_ble_eq_true rfl) rfl ?_
  refine zx_loc [2, 1, 0] rfl ?_
  exact mt_X3_minutesOver_l4 h0 zF (0 : Int32) (0 : Int32) M
def mf_X3_mostStarted_b42 (R : zRR) (a0 : Nat) (H6 : Int32 → Int32 → Int32 → zMem → Option (Int32 × zMem)) (i1 : Int32) (i2 : Int32) (i3 : Int32) (M : zMem) : Option (Int32 × zMem) :=
  H6 i1 i2 (i3 + 1) M
theorem mt_X3_mostStarted_b42 {C : zCx} {ad : Nat → Nat} {T : zTT} {R : zRR} {a0 : Nat} (h0 : zi3 T R a0) {H6 : Int32 → Int32 → Int32 → zMem → Option (Int32 × zMem)} (hH6 : ∀ (i1 : Int32) (i2 : Int32) (i3 : Int32) (M : zMem), zX C mi_X3_mostStarted (zFin C zrvI ad T R) 0 0 (H6 i1 i2 i3 M) 6 [(0, .ref a0), (1, .int i1), (2, .int i2), (3, .int i3)] [] ad T R M) (i1 : Int32) (i2 : Int32) (i3 : Int32) (M : zMem) : zX C mi_X3_mostStarted (zFin C zrvI ad T R) 0 0 (mf_X3_mostStarted_b42 R a0 H6 i1 i2 i3 M) 42 [(0, .ref a0), (1, .int i1), (2, .int i2), (3, .int i3)] [] ad T R M := by
  unfold mf_X3_mostStarted_b42
  refine zx_iinc (v := 1) (ls' := [(3, .int (i3 + 1)), (0, .ref a0), (1, .int i1), (2, .int i2)]) (zd me_X3_mostStarted 28 rfl) (Nat.le_of_ble_eq_true rfl) 3 rfl (by decide) rfl ?_
  refine zx_goto (tgt := 6) (zd me_X3_mostStarted 29 rfl) (by decide) ?_
  refine zx_loc [1, 2, 3, 0] rfl ?_
  exact hH6 i1 i2 (i3 + 1) M
def mf_X3_mostStarted_l6 (R : zRR) (a0 : Nat) : Nat → Int32 → Int32 → Int32 → zMem → Option (Int32 × zMem)
  | 0, _, _, _, _ => none
  | fuel + 1, i1, i2, i3, M =>
    if (M.1 (zrf R a0 0) 2) ≤ i3 then
      (some (i2, M))
    else
      (zald 62 ((52 : Int32) + i3) fun j2 =>
      if (M.1 (zrf R a0 1) j2) ≤ i1 then
        (mf_X3_mostStarted_b42 R a0 (mf_X3_mostStarted_l6 R a0 fuel) i1 i2 i3 M)
      else
        (zald 62 ((52 : Int32) + i3) fun j4 =>
        zlet ((M.1 (zrf R a0 1) j4) : Int32) fun x5 =>
        mf_X3_mostStarted_b42 R a0 (mf_X3_mostStarted_l6 R a0 fuel) x5 i3 i3 M))
theorem mt_X3_mostStarted_l6 {C : zCx} {ad : Nat → Nat} {T : zTT} {R : zRR} {a0 : Nat} (h0 : zi3 T R a0) : ∀ (fuel : Nat) (i1 : Int32) (i2 : Int32) (i3 : Int32) (M : zMem), zX C mi_X3_mostStarted (zFin C zrvI ad T R) 0 0 (mf_X3_mostStarted_l6 R a0 fuel i1 i2 i3 M) 6 [(0, .ref a0), (1, .int i1), (2, .int i2), (3, .int i3)] [] ad T R M := by
  intro fuel
  induction fuel with
  | zero => intros; exact zx_none
  | succ fuel ih =>
    intro i1 i2 i3 M
    rw [mf_X3_mostStarted_l6]
    refine zx_iload_n (i := 3) (zd me_X3_mostStarted 6 rfl) rfl 3 rfl ?_
    refine zx_aload_n (i := 0) (zd me_X3_mostStarted 7 rfl) rfl 0 rfl ?_
    refine zx_getR (zd me_X3_mostStarted 8 rfl) fl_X3_15 (zi3_c h0) rfl (zi3_r0 h0) ?_
    refine zx_getI (zd me_X3_mostStarted 9 rfl) fl_X3_80 (zi7_c (zi3_t0 h0)) rfl ?_
    refine zx_icmp_ge (tgt := 48) (zd me_X3_mostStarted 10 rfl) (by decide) (fun c1 => ?_) (fun c1 => ?_)
    · refine zx_iload_n (i := 2) (zd me_X3_mostStarted 30 rfl) rfl 2 rfl ?_
      exact zx_iret (zd me_X3_mostStarted 31 rfl) rfl
    · refine zx_aload_n (i := 0) (zd me_X3_mostStarted 11 rfl) rfl 0 rfl ?_
      refine zx_getR (zd me_X3_mostStarted 12 rfl) fl_X3_11 (zi3_c h0) rfl (zi3_r1 h0) ?_
      refine zx_bipush (v := 52) (zd me_X3_mostStarted 13 rfl) (by decide) ?_
      refine zx_iload_n (i := 3) (zd me_X3_mostStarted 14 rfl) rfl 3 rfl ?_
      refine zx_iadd (zd me_X3_mostStarted 15 rfl) ?_
      refine zx_iald (zd me_X3_mostStarted 16 rfl) (zi3_t1 h0) (fun j2 hj2 => ?_)
      refine zx_iload_n (i := 1) (zd me_X3_mostStarted 17 rfl) rfl 1 rfl ?_
      refine zx_icmp_le (tgt := 42) (zd me_X3_mostStarted 18 rfl) (by decide) (fun c3 => ?_) (fun c3 => ?_)
      · exact mt_X3_mostStarted_b42 h0 ih i1 i2 i3 M
      · refine zx_aload_n (i := 0) (zd me_X3_mostStarted 19 rfl) rfl 0 rfl ?_
        refine zx_getR (zd me_X3_mostStarted 20 rfl) fl_X3_11 (zi3_c h0) rfl (zi3_r1 h0) ?_
        refine zx_bipush (v := 52) (zd me_X3_mostStarted 21 rfl) (by decide) ?_
        refine zx_iload_n (i := 3) (zd me_X3_mostStarted 22 rfl) rfl 3 rfl ?_
        refine zx_iadd (zd me_X3_mostStarted 23 rfl) ?_
        refine zx_iald (zd me_X3_mostStarted 24 rfl) (zi3_t1 h0) (fun j4 hj4 => ?_)
        refine zx_leti (fun x5 => ?_)
        refine zx_istore_n (i := 1) (ls' := [(1, .int x5), (0, .ref a0), (2, .int i2), (3, .int i3)]) (zd me_X3_mostStarted 25 rfl) rfl (Nat.le_of_ble_eq_true rfl) rfl ?_
        refine zx_iload_n (i := 3) (zd me_X3_mostStarted 26 rfl) rfl 3 rfl ?_
        refine zx_istore_n (i := 2) (ls' := [(2, .int i3), (1, .int x5), (0, .ref a0), (3, .int i3)]) (zd me_X3_mostStarted 27 rfl) rfl (Nat.le_of_ble_eq_true rfl) rfl ?_
        refine zx_loc [2, 1, 0, 3] rfl ?_
        exact mt_X3_mostStarted_b42 h0 ih x5 i3 i3 M
def mf_X3_mostStarted (R : zRR) (a0 : Nat) (M : zMem) : Option (Int32 × zMem) :=
  mf_X3_mostStarted_l6 R a0 zF (0 : Int32) (-1 : Int32) (0 : Int32) M
theorem mc_X3_mostStarted (l : Launch) {T : zTT} {R : zRR} {a0 : Nat} (h0 : zi3 T R a0) (M : zMem) : zMS l yX3_mostStarted mi_X3_mostStarted zrvI (mf_X3_mostStarted R a0 M) [.ref a0] T R M := by
  refine zMS.of (by decide +kernel) rfl ⟨rfl, rfl⟩ (Nat.le_of_ble_eq_true rfl) (fun C ad _ => ?_)
  show zX C mi_X3_mostStarted (zFin C zrvI ad T R) 0 0 (mf_X3_mostStarted R a0 M) 0 [(0, .ref a0)] [] ad T R M
  unfold mf_X3_mostStarted
  refine zx_iconst (v := 0) (zd me_X3_mostStarted 0 rfl) (by decide) ?_
  refine zx_istore_n (i := 1) (ls' := [(1, .int (0 : Int32)), (0, .ref a0)]) (zd me_X3_mostStarted 1 rfl) rfl (Nat.le_of_ble_eq_true rfl) rfl ?_
  refine zx_iconst (v := (-1)) (zd me_X3_mostStarted 2 rfl) (by decide) ?_
  refine zx_istore_n (i := 2) (ls' := [(2, .int (-1 : Int32)), (1, .int (0 : Int32)), (0, .ref a0)]) (zd me_X3_mostStarted 3 rfl) rfl (Nat.le_of_ble_eq_true rfl) rfl ?_
  refine zx_iconst (v := 0) (zd me_X3_mostStarted 4 rfl) (by decide) ?_
  refine zx_istore_n (i := 3) (ls' := [(3, .int (0 : Int32)), (2, .int (-1 : Int32)), (1, .int (0 : Int32)), (0, .ref a0)]) (zd me_X3_mostStarted 5 rfl) rfl (Nat.le_of_ble_eq_true rfl) rfl ?_
  refine zx_loc [3, 2, 1, 0] rfl ?_
  exact mt_X3_mostStarted_l6 h0 zF (0 : Int32) (-1 : Int32) (0 : Int32) M
def mf_X3_needOf_b114 (R : zRR) (a0 : Nat) (H30 : Int32 → Int32 → Int32 → zMem → Option (Int32 × zMem)) (i1 : Int32) (i2 : Int32) (i3 : Int32) (M : zMem) : Option (Int32 × zMem) :=
  H30 i1 i2 (i3 + 1) M
theorem mt_X3_needOf_b114 {C : zCx} {ad : Nat → Nat} {T : zTT} {R : zRR} {a0 : Nat} (h0 : zi3 T R a0) {H30 : Int32 → Int32 → Int32 → zMem → Option (Int32 × zMem)} (hH30 : ∀ (i1 : Int32) (i2 : Int32) (i3 : Int32) (M : zMem), zX C mi_X3_needOf (zFin C zrvI ad T R) 0 0 (H30 i1 i2 i3 M) 30 [(0, .ref a0), (1, .int i1), (2, .int i2), (3, .int i3)] [] ad T R M) (i1 : Int32) (i2 : Int32) (i3 : Int32) (M : zMem) : zX C mi_X3_needOf (zFin C zrvI ad T R) 0 0 (mf_X3_needOf_b114 R a0 H30 i1 i2 i3 M) 114 [(0, .ref a0), (1, .int i1), (2, .int i2), (3, .int i3)] [] ad T R M := by
  unfold mf_X3_needOf_b114
  refine zx_iinc (v := 1) (ls' := [(3, .int (i3 + 1)), (0, .ref a0), (1, .int i1), (2, .int i2)]) (zd me_X3_needOf 63 rfl) (Nat.le_of_ble_eq_true rfl) 3 rfl (by decide) rfl ?_
  refine zx_goto (tgt := 30) (zd me_X3_needOf 64 rfl) (by decide) ?_
  refine zx_loc [1, 2, 3, 0] rfl ?_
  exact hH30 i1 i2 (i3 + 1) M
def mf_X3_needOf_b84 (R : zRR) (a0 : Nat) (H30 : Int32 → Int32 → Int32 → zMem → Option (Int32 × zMem)) (i1 : Int32) (i2 : Int32) (i3 : Int32) (s0 : Int32) (M : zMem) : Option (Int32 × zMem) :=
  if s0 = 0 then
    (mf_X3_needOf_b114 R a0 H30 i1 i2 i3 M)
  else
    (zald 8 i3 fun j20 =>
    zcl (mf_X7_asked R (zrf R a0 0) (M.1 (zrf R (zrf R a0 0) 8) j20) i1 M) fun r22 M21 =>
    if r22 ≤ 0 then
      (mf_X3_needOf_b114 R a0 H30 i1 i2 i3 M21)
    else
      (mf_X3_needOf_b114 R a0 H30 i1 (i2 + 1) i3 M21))
theorem mt_X3_needOf_b84 {C : zCx} {ad : Nat → Nat} {T : zTT} {R : zRR} {a0 : Nat} (h0 : zi3 T R a0) {H30 : Int32 → Int32 → Int32 → zMem → Option (Int32 × zMem)} (hH30 : ∀ (i1 : Int32) (i2 : Int32) (i3 : Int32) (M : zMem), zX C mi_X3_needOf (zFin C zrvI ad T R) 0 0 (H30 i1 i2 i3 M) 30 [(0, .ref a0), (1, .int i1), (2, .int i2), (3, .int i3)] [] ad T R M) (i1 : Int32) (i2 : Int32) (i3 : Int32) (s0 : Int32) (M : zMem) : zX C mi_X3_needOf (zFin C zrvI ad T R) 0 0 (mf_X3_needOf_b84 R a0 H30 i1 i2 i3 s0 M) 84 [(0, .ref a0), (1, .int i1), (2, .int i2), (3, .int i3)] [.int s0] ad T R M := by
  unfold mf_X3_needOf_b84
  refine zx_istore (ls' := [(4, .int s0), (0, .ref a0), (1, .int i1), (2, .int i2), (3, .int i3)]) (zd me_X3_needOf 49 rfl) (Nat.le_of_ble_eq_true rfl) rfl ?_
  refine zx_iload (zd me_X3_needOf 50 rfl) 0 rfl ?_
  refine zx_if_eq (tgt := 114) (zd me_X3_needOf 51 rfl) (by decide) (fun c19 => ?_) (fun c19 => ?_)
  · refine zx_loc [1, 2, 3, 4] rfl ?_
    exact mt_X3_needOf_b114 h0 hH30 i1 i2 i3 M
  · refine zx_aload_n (i := 0) (zd me_X3_needOf 52 rfl) rfl 1 rfl ?_
    refine zx_getR (zd me_X3_needOf 53 rfl) fl_X3_15 (zi3_c h0) rfl (zi3_r0 h0) ?_
    refine zx_aload_n (i := 0) (zd me_X3_needOf 54 rfl) rfl 1 rfl ?_
    refine zx_getR (zd me_X3_needOf 55 rfl) fl_X3_15 (zi3_c h0) rfl (zi3_r0 h0) ?_
    refine zx_getR (zd me_X3_needOf 56 rfl) fl_X3_86 (zi7_c (zi3_t0 h0)) rfl (zi7_r8 (zi3_t0 h0)) ?_
    refine zx_iload_n (i := 3) (zd me_X3_needOf 57 rfl) rfl 4 rfl ?_
    refine zx_iald (zd me_X3_needOf 58 rfl) (zi7_t8 (zi3_t0 h0)) (fun j20 hj20 => ?_)
    refine zx_iload_n (i := 1) (zd me_X3_needOf 59 rfl) rfl 2 rfl ?_
    refine zx_callVI2 (zd me_X3_needOf 60 rfl) (mc_X7_asked (zl C) (zi3_t0 h0) (M.1 (zrf R (zrf R a0 0) 8) j20) i1 M) lk_X3_89 ⟨(Nat.le_of_ble_eq_true rfl), (Nat.le_of_ble_eq_true rfl)⟩ (Nat.le_of_ble_eq_true rfl) (zi7_c (zi3_t0 h0)) rfl (fun r22 M21 => ?_)
    refine zx_if_le (tgt := 114) (zd me_X3_needOf 61 rfl) (by decide) (fun c23 => ?_) (fun c23 => ?_)
    · refine zx_loc [1, 2, 3, 4] rfl ?_
      exact mt_X3_needOf_b114 h0 hH30 i1 i2 i3 M21
    · refine zx_iinc (v := 1) (ls' := [(2, .int (i2 + 1)), (4, .int s0), (0, .ref a0), (1, .int i1), (3, .int i3)]) (zd me_X3_needOf 62 rfl) (Nat.le_of_ble_eq_true rfl) 3 rfl (by decide) rfl ?_
      refine zx_loc [2, 3, 0, 4] rfl ?_
      exact mt_X3_needOf_b114 h0 hH30 i1 (i2 + 1) i3 M21
def mf_X3_needOf_b79 (R : zRR) (a0 : Nat) (H30 : Int32 → Int32 → Int32 → zMem → Option (Int32 × zMem)) (i1 : Int32) (i2 : Int32) (i3 : Int32) (M : zMem) : Option (Int32 × zMem) :=
  mf_X3_needOf_b84 R a0 H30 i1 i2 i3 (1 : Int32) M
theorem mt_X3_needOf_b79 {C : zCx} {ad : Nat → Nat} {T : zTT} {R : zRR} {a0 : Nat} (h0 : zi3 T R a0) {H30 : Int32 → Int32 → Int32 → zMem → Option (Int32 × zMem)} (hH30 : ∀ (i1 : Int32) (i2 : Int32) (i3 : Int32) (M : zMem), zX C mi_X3_needOf (zFin C zrvI ad T R) 0 0 (H30 i1 i2 i3 M) 30 [(0, .ref a0), (1, .int i1), (2, .int i2), (3, .int i3)] [] ad T R M) (i1 : Int32) (i2 : Int32) (i3 : Int32) (M : zMem) : zX C mi_X3_needOf (zFin C zrvI ad T R) 0 0 (mf_X3_needOf_b79 R a0 H30 i1 i2 i3 M) 79 [(0, .ref a0), (1, .int i1), (2, .int i2), (3, .int i3)] [] ad T R M := by
  unfold mf_X3_needOf_b79
  refine zx_iconst (v := 1) (zd me_X3_needOf 46 rfl) (by decide) ?_
  refine zx_goto (tgt := 84) (zd me_X3_needOf 47 rfl) (by decide) ?_
  exact mt_X3_needOf_b84 h0 hH30 i1 i2 i3 (1 : Int32) M
def mf_X3_needOf_b83 (R : zRR) (a0 : Nat) (H30 : Int32 → Int32 → Int32 → zMem → Option (Int32 × zMem)) (i1 : Int32) (i2 : Int32) (i3 : Int32) (M : zMem) : Option (Int32 × zMem) :=
  mf_X3_needOf_b84 R a0 H30 i1 i2 i3 (0 : Int32) M
theorem mt_X3_needOf_b83 {C : zCx} {ad : Nat → Nat} {T : zTT} {R : zRR} {a0 : Nat} (h0 : zi3 T R a0) {H30 : Int32 → Int32 → Int32 → zMem → Option (Int32 × zMem)} (hH30 : ∀ (i1 : Int32) (i2 : Int32) (i3 : Int32) (M : zMem), zX C mi_X3_needOf (zFin C zrvI ad T R) 0 0 (H30 i1 i2 i3 M) 30 [(0, .ref a0), (1, .int i1), (2, .int i2), (3, .int i3)] [] ad T R M) (i1 : Int32) (i2 : Int32) (i3 : Int32) (M : zMem) : zX C mi_X3_needOf (zFin C zrvI ad T R) 0 0 (mf_X3_needOf_b83 R a0 H30 i1 i2 i3 M) 83 [(0, .ref a0), (1, .int i1), (2, .int i2), (3, .int i3)] [] ad T R M := by
  unfold mf_X3_needOf_b83
  refine zx_iconst (v := 0) (zd me_X3_needOf 48 rfl) (by decide) ?_
  exact mt_X3_needOf_b84 h0 hH30 i1 i2 i3 (0 : Int32) M
def mf_X3_needOf_l30 (R : zRR) (a0 : Nat) : Nat → Int32 → Int32 → Int32 → zMem → Option (Int32 × zMem)
  | 0, _, _, _, _ => none
  | fuel + 1, i1, i2, i3, M =>
    if (M.1 (zrf R a0 0) 2) ≤ i3 then
      (zald 62 ((0 : Int32) + i1) fun j7 =>
      zald 6 i1 fun j8 =>
      zlet ((((M.1 (zrf R a0 1) j7) + i2) - (M.1 (zrf R (zrf R a0 0) 7) j8)) : Int32) fun x9 =>
      if 0 < x9 then
        (zald 6 i1 fun j11 =>
        zald 6 i1 fun j12 =>
        zchk (¬ (M.1 (zrf R (zrf R a0 0) 7) j12) = 0) <|
        some ((((x9 + (M.1 (zrf R (zrf R a0 0) 7) j11)) - (1 : Int32)) / (M.1 (zrf R (zrf R a0 0) 7) j12)), M))
      else
        (some ((0 : Int32), M)))
    else
      (zald 62 ((12 : Int32) + i3) fun j13 =>
      if (M.1 (zrf R a0 1) j13) = 0 then
        (mf_X3_needOf_b79 R a0 (mf_X3_needOf_l30 R a0 fuel) i1 i2 i3 M)
      else
        (zald 62 ((12 : Int32) + i3) fun j15 =>
        if (M.1 (zrf R a0 1) j15) = (1 : Int32) then
          (zald 62 ((20 : Int32) + i3) fun j17 =>
          if i1 ≤ (M.1 (zrf R a0 1) j17) then
            (mf_X3_needOf_b83 R a0 (mf_X3_needOf_l30 R a0 fuel) i1 i2 i3 M)
          else
            (mf_X3_needOf_b79 R a0 (mf_X3_needOf_l30 R a0 fuel) i1 i2 i3 M))
        else
          (mf_X3_needOf_b83 R a0 (mf_X3_needOf_l30 R a0 fuel) i1 i2 i3 M)))
theorem mt_X3_needOf_l30 {C : zCx} {ad : Nat → Nat} {T : zTT} {R : zRR} {a0 : Nat} (h0 : zi3 T R a0) : ∀ (fuel : Nat) (i1 : Int32) (i2 : Int32) (i3 : Int32) (M : zMem), zX C mi_X3_needOf (zFin C zrvI ad T R) 0 0 (mf_X3_needOf_l30 R a0 fuel i1 i2 i3 M) 30 [(0, .ref a0), (1, .int i1), (2, .int i2), (3, .int i3)] [] ad T R M := by
  intro fuel
  induction fuel with
  | zero => intros; exact zx_none
  | succ fuel ih =>
    intro i1 i2 i3 M
    rw [mf_X3_needOf_l30]
    refine zx_iload_n (i := 3) (zd me_X3_needOf 18 rfl) rfl 3 rfl ?_
    refine zx_aload_n (i := 0) (zd me_X3_needOf 19 rfl) rfl 0 rfl ?_
    refine zx_getR (zd me_X3_needOf 20 rfl) fl_X3_15 (zi3_c h0) rfl (zi3_r0 h0) ?_
    refine zx_getI (zd me_X3_needOf 21 rfl) fl_X3_80 (zi7_c (zi3_t0 h0)) rfl ?_
    refine zx_icmp_ge (tgt := 120) (zd me_X3_needOf 22 rfl) (by decide) (fun c6 => ?_) (fun c6 => ?_)
    · refine zx_aload_n (i := 0) (zd me_X3_needOf 65 rfl) rfl 0 rfl ?_
      refine zx_getR (zd me_X3_needOf 66 rfl) fl_X3_11 (zi3_c h0) rfl (zi3_r1 h0) ?_
      refine zx_iconst (v := 0) (zd me_X3_needOf 67 rfl) (by decide) ?_
      refine zx_iload_n (i := 1) (zd me_X3_needOf 68 rfl) rfl 1 rfl ?_
      refine zx_iadd (zd me_X3_needOf 69 rfl) ?_
      refine zx_iald (zd me_X3_needOf 70 rfl) (zi3_t1 h0) (fun j7 hj7 => ?_)
      refine zx_iload_n (i := 2) (zd me_X3_needOf 71 rfl) rfl 2 rfl ?_
      refine zx_iadd (zd me_X3_needOf 72 rfl) ?_
      refine zx_aload_n (i := 0) (zd me_X3_needOf 73 rfl) rfl 0 rfl ?_
      refine zx_getR (zd me_X3_needOf 74 rfl) fl_X3_15 (zi3_c h0) rfl (zi3_r0 h0) ?_
      refine zx_getR (zd me_X3_needOf 75 rfl) fl_X3_53 (zi7_c (zi3_t0 h0)) rfl (zi7_r7 (zi3_t0 h0)) ?_
      refine zx_iload_n (i := 1) (zd me_X3_needOf 76 rfl) rfl 1 rfl ?_
      refine zx_iald (zd me_X3_needOf 77 rfl) (zi7_t7 (zi3_t0 h0)) (fun j8 hj8 => ?_)
      refine zx_isub (zd me_X3_needOf 78 rfl) ?_
      refine zx_leti (fun x9 => ?_)
      refine zx_istore_n (i := 3) (ls' := [(3, .int x9), (0, .ref a0), (1, .int i1), (2, .int i2)]) (zd me_X3_needOf 79 rfl) rfl (Nat.le_of_ble_eq_true rfl) rfl ?_
      refine zx_iload_n (i := 3) (zd me_X3_needOf 80 rfl) rfl 0 rfl ?_
      refine zx_if_gt (tgt := 149) (zd me_X3_needOf 81 rfl) (by decide) (fun c10 => ?_) (fun c10 => ?_)
      · refine zx_iload_n (i := 3) (zd me_X3_needOf 84 rfl) rfl 0 rfl ?_
        refine zx_aload_n (i := 0) (zd me_X3_needOf 85 rfl) rfl 1 rfl ?_
        refine zx_getR (zd me_X3_needOf 86 rfl) fl_X3_15 (zi3_c h0) rfl (zi3_r0 h0) ?_
        refine zx_getR (zd me_X3_needOf 87 rfl) fl_X3_53 (zi7_c (zi3_t0 h0)) rfl (zi7_r7 (zi3_t0 h0)) ?_
        refine zx_iload_n (i := 1) (zd me_X3_needOf 88 rfl) rfl 2 rfl ?_
        refine zx_iald (zd me_X3_needOf 89 rfl) (zi7_t7 (zi3_t0 h0)) (fun j11 hj11 => ?_)
        refine zx_iadd (zd me_X3_needOf 90 rfl) ?_
        refine zx_iconst (v := 1) (zd me_X3_needOf 91 rfl) (by decide) ?_
        refine zx_isub (zd me_X3_needOf 92 rfl) ?_
        refine zx_aload_n (i := 0) (zd me_X3_needOf 93 rfl) rfl 1 rfl ?_
        refine zx_getR (zd me_X3_needOf 94 rfl) fl_X3_15 (zi3_c h0) rfl (zi3_r0 h0) ?_
        refine zx_getR (zd me_X3_needOf 95 rfl) fl_X3_53 (zi7_c (zi3_t0 h0)) rfl (zi7_r7 (zi3_t0 h0)) ?_
        refine zx_iload_n (i := 1) (zd me_X3_needOf 96 rfl) rfl 2 rfl ?_
        refine zx_iald (zd me_X3_needOf 97 rfl) (zi7_t7 (zi3_t0 h0)) (fun j12 hj12 => ?_)
        refine zx_idiv (zd me_X3_needOf 98 rfl) ?_
        exact zx_iret (zd me_X3_needOf 99 rfl) rfl
      · refine zx_iconst (v := 0) (zd me_X3_needOf 82 rfl) (by decide) ?_
        refine zx_goto (tgt := 172) (zd me_X3_needOf 83 rfl) (by decide) ?_
        exact zx_iret (zd me_X3_needOf 99 rfl) rfl
    · refine zx_aload_n (i := 0) (zd me_X3_needOf 23 rfl) rfl 0 rfl ?_
      refine zx_getR (zd me_X3_needOf 24 rfl) fl_X3_11 (zi3_c h0) rfl (zi3_r1 h0) ?_
      refine zx_bipush (v := 12) (zd me_X3_needOf 25 rfl) (by decide) ?_
      refine zx_iload_n (i := 3) (zd me_X3_needOf 26 rfl) rfl 3 rfl ?_
      refine zx_iadd (zd me_X3_needOf 27 rfl) ?_
      refine zx_iald (zd me_X3_needOf 28 rfl) (zi3_t1 h0) (fun j13 hj13 => ?_)
      refine zx_if_eq (tgt := 79) (zd me_X3_needOf 29 rfl) (by decide) (fun c14 => ?_) (fun c14 => ?_)
      · exact mt_X3_needOf_b79 h0 ih i1 i2 i3 M
      · refine zx_aload_n (i := 0) (zd me_X3_needOf 30 rfl) rfl 0 rfl ?_
        refine zx_getR (zd me_X3_needOf 31 rfl) fl_X3_11 (zi3_c h0) rfl (zi3_r1 h0) ?_
        refine zx_bipush (v := 12) (zd me_X3_needOf 32 rfl) (by decide) ?_
        refine zx_iload_n (i := 3) (zd me_X3_needOf 33 rfl) rfl 3 rfl ?_
        refine zx_iadd (zd me_X3_needOf 34 rfl) ?_
        refine zx_iald (zd me_X3_needOf 35 rfl) (zi3_t1 h0) (fun j15 hj15 => ?_)
        refine zx_iconst (v := 1) (zd me_X3_needOf 36 rfl) (by decide) ?_
        refine zx_icmp_ne (tgt := 83) (zd me_X3_needOf 37 rfl) (by decide) (fun c16 => ?_) (fun c16 => ?_)
        · exact mt_X3_needOf_b83 h0 ih i1 i2 i3 M
        · refine zx_aload_n (i := 0) (zd me_X3_needOf 38 rfl) rfl 0 rfl ?_
          refine zx_getR (zd me_X3_needOf 39 rfl) fl_X3_11 (zi3_c h0) rfl (zi3_r1 h0) ?_
          refine zx_bipush (v := 20) (zd me_X3_needOf 40 rfl) (by decide) ?_
          refine zx_iload_n (i := 3) (zd me_X3_needOf 41 rfl) rfl 3 rfl ?_
          refine zx_iadd (zd me_X3_needOf 42 rfl) ?_
          refine zx_iald (zd me_X3_needOf 43 rfl) (zi3_t1 h0) (fun j17 hj17 => ?_)
          refine zx_iload_n (i := 1) (zd me_X3_needOf 44 rfl) rfl 1 rfl ?_
          refine zx_icmp_ge (tgt := 83) (zd me_X3_needOf 45 rfl) (by decide) (fun c18 => ?_) (fun c18 => ?_)
          · exact mt_X3_needOf_b83 h0 ih i1 i2 i3 M
          · exact mt_X3_needOf_b79 h0 ih i1 i2 i3 M
def mf_X3_needOf (R : zRR) (a0 : Nat) (i1 : Int32) (M : zMem) : Option (Int32 × zMem) :=
  zcl (mf_X7_hasBath R (zrf R a0 0) i1 M) fun r2 M1 =>
  if r2 = 0 then
    (some ((-1 : Int32), M1))
  else
    (zald 6 i1 fun j4 =>
    if (1 : Int32) ≤ (M1.1 (zrf R (zrf R a0 0) 7) j4) then
      (mf_X3_needOf_l30 R a0 zF i1 (0 : Int32) (0 : Int32) M1)
    else
      (some ((-1 : Int32), M1)))
theorem mc_X3_needOf (l : Launch) {T : zTT} {R : zRR} {a0 : Nat} (h0 : zi3 T R a0) (i1 : Int32) (M : zMem) : zMS l yX3_needOf mi_X3_needOf zrvI (mf_X3_needOf R a0 i1 M) [.ref a0, .int i1] T R M := by
  refine zMS.of (by decide +kernel) rfl ⟨rfl, rfl⟩ (Nat.le_of_ble_eq_true rfl) (fun C ad _ => ?_)
  show zX C mi_X3_needOf (zFin C zrvI ad T R) 0 0 (mf_X3_needOf R a0 i1 M) 0 [(0, .ref a0), (1, .int i1)] [] ad T R M
  unfold mf_X3_needOf
  refine zx_aload_n (i := 0) (zd me_X3_needOf 0 rfl) rfl 0 rfl ?_
  refine zx_getR (zd me_X3_needOf 1 rfl) fl_X3_15 (zi3_c h0) rfl (zi3_r0 h0) ?_
  refine zx_iload_n (i := 1) (zd me_X3_needOf 2 rfl) rfl 1 rfl ?_
  refine zx_callVI1 (zd me_X3_needOf 3 rfl) (mc_X7_hasBath (zl C) (zi3_t0 h0) i1 M) lk_X3_40 ⟨(Nat.le_of_ble_eq_true rfl), (Nat.le_of_ble_eq_true rfl)⟩ (Nat.le_of_ble_eq_true rfl) (zi7_c (zi3_t0 h0)) rfl (fun r2 M1 => ?_)
  refine zx_if_eq (tgt := 24) (zd me_X3_needOf 4 rfl) (by decide) (fun c3 => ?_) (fun c3 => ?_)
  · refine zx_iconst (v := (-1)) (zd me_X3_needOf 12 rfl) (by decide) ?_
    exact zx_iret (zd me_X3_needOf 13 rfl) rfl
  · refine zx_aload_n (i := 0) (zd me_X3_needOf 5 rfl) rfl 0 rfl ?_
    refine zx_getR (zd me_X3_needOf 6 rfl) fl_X3_15 (zi3_c h0) rfl (zi3_r0 h0) ?_
    refine zx_getR (zd me_X3_needOf 7 rfl) fl_X3_53 (zi7_c (zi3_t0 h0)) rfl (zi7_r7 (zi3_t0 h0)) ?_
    refine zx_iload_n (i := 1) (zd me_X3_needOf 8 rfl) rfl 1 rfl ?_
    refine zx_iald (zd me_X3_needOf 9 rfl) (zi7_t7 (zi3_t0 h0)) (fun j4 hj4 => ?_)
    refine zx_iconst (v := 1) (zd me_X3_needOf 10 rfl) (by decide) ?_
    refine zx_icmp_ge (tgt := 26) (zd me_X3_needOf 11 rfl) (by decide) (fun c5 => ?_) (fun c5 => ?_)
    · refine zx_iconst (v := 0) (zd me_X3_needOf 14 rfl) (by decide) ?_
      refine zx_istore_n (i := 2) (ls' := [(2, .int (0 : Int32)), (0, .ref a0), (1, .int i1)]) (zd me_X3_needOf 15 rfl) rfl (Nat.le_of_ble_eq_true rfl) rfl ?_
      refine zx_iconst (v := 0) (zd me_X3_needOf 16 rfl) (by decide) ?_
      refine zx_istore_n (i := 3) (ls' := [(3, .int (0 : Int32)), (2, .int (0 : Int32)), (0, .ref a0), (1, .int i1)]) (zd me_X3_needOf 17 rfl) rfl (Nat.le_of_ble_eq_true rfl) rfl ?_
      refine zx_loc [2, 3, 1, 0] rfl ?_
      exact mt_X3_needOf_l30 h0 zF i1 (0 : Int32) (0 : Int32) M1
    · refine zx_iconst (v := (-1)) (zd me_X3_needOf 12 rfl) (by decide) ?_
      exact zx_iret (zd me_X3_needOf 13 rfl) rfl
def mf_X3_askedByWaiting_b47 (R : zRR) (a0 : Nat) (H4 : Int32 → Int32 → Int32 → zMem → Option (Int32 × zMem)) (i1 : Int32) (i2 : Int32) (i3 : Int32) (M : zMem) : Option (Int32 × zMem) :=
  H4 i1 i2 (i3 + 1) M
theorem mt_X3_askedByWaiting_b47 {C : zCx} {ad : Nat → Nat} {T : zTT} {R : zRR} {a0 : Nat} (h0 : zi3 T R a0) {H4 : Int32 → Int32 → Int32 → zMem → Option (Int32 × zMem)} (hH4 : ∀ (i1 : Int32) (i2 : Int32) (i3 : Int32) (M : zMem), zX C mi_X3_askedByWaiting (zFin C zrvI ad T R) 0 0 (H4 i1 i2 i3 M) 4 [(0, .ref a0), (1, .int i1), (2, .int i2), (3, .int i3)] [] ad T R M) (i1 : Int32) (i2 : Int32) (i3 : Int32) (M : zMem) : zX C mi_X3_askedByWaiting (zFin C zrvI ad T R) 0 0 (mf_X3_askedByWaiting_b47 R a0 H4 i1 i2 i3 M) 47 [(0, .ref a0), (1, .int i1), (2, .int i2), (3, .int i3)] [] ad T R M := by
  unfold mf_X3_askedByWaiting_b47
  refine zx_iinc (v := 1) (ls' := [(3, .int (i3 + 1)), (0, .ref a0), (1, .int i1), (2, .int i2)]) (zd me_X3_askedByWaiting 28 rfl) (Nat.le_of_ble_eq_true rfl) 3 rfl (by decide) rfl ?_
  refine zx_goto (tgt := 4) (zd me_X3_askedByWaiting 29 rfl) (by decide) ?_
  refine zx_loc [1, 2, 3, 0] rfl ?_
  exact hH4 i1 i2 (i3 + 1) M
def mf_X3_askedByWaiting_l4 (R : zRR) (a0 : Nat) : Nat → Int32 → Int32 → Int32 → zMem → Option (Int32 × zMem)
  | 0, _, _, _, _ => none
  | fuel + 1, i1, i2, i3, M =>
    if (M.1 (zrf R a0 0) 2) ≤ i3 then
      (some (i2, M))
    else
      (zald 62 ((12 : Int32) + i3) fun j2 =>
      if (M.1 (zrf R a0 1) j2) = 0 then
        (zald 8 i3 fun j4 =>
        zcl (mf_X7_asked R (zrf R a0 0) (M.1 (zrf R (zrf R a0 0) 8) j4) i1 M) fun r6 M5 =>
        zlet ((i2 + r6) : Int32) fun x7 =>
        mf_X3_askedByWaiting_b47 R a0 (mf_X3_askedByWaiting_l4 R a0 fuel) i1 x7 i3 M5)
      else
        (mf_X3_askedByWaiting_b47 R a0 (mf_X3_askedByWaiting_l4 R a0 fuel) i1 i2 i3 M))
theorem mt_X3_askedByWaiting_l4 {C : zCx} {ad : Nat → Nat} {T : zTT} {R : zRR} {a0 : Nat} (h0 : zi3 T R a0) : ∀ (fuel : Nat) (i1 : Int32) (i2 : Int32) (i3 : Int32) (M : zMem), zX C mi_X3_askedByWaiting (zFin C zrvI ad T R) 0 0 (mf_X3_askedByWaiting_l4 R a0 fuel i1 i2 i3 M) 4 [(0, .ref a0), (1, .int i1), (2, .int i2), (3, .int i3)] [] ad T R M := by
  intro fuel
  induction fuel with
  | zero => intros; exact zx_none
  | succ fuel ih =>
    intro i1 i2 i3 M
    rw [mf_X3_askedByWaiting_l4]
    refine zx_iload_n (i := 3) (zd me_X3_askedByWaiting 4 rfl) rfl 3 rfl ?_
    refine zx_aload_n (i := 0) (zd me_X3_askedByWaiting 5 rfl) rfl 0 rfl ?_
    refine zx_getR (zd me_X3_askedByWaiting 6 rfl) fl_X3_15 (zi3_c h0) rfl (zi3_r0 h0) ?_
    refine zx_getI (zd me_X3_askedByWaiting 7 rfl) fl_X3_80 (zi7_c (zi3_t0 h0)) rfl ?_
    refine zx_icmp_ge (tgt := 53) (zd me_X3_askedByWaiting 8 rfl) (by decide) (fun c1 => ?_) (fun c1 => ?_)
    · refine zx_iload_n (i := 2) (zd me_X3_askedByWaiting 30 rfl) rfl 2 rfl ?_
      exact zx_iret (zd me_X3_askedByWaiting 31 rfl) rfl
    · refine zx_aload_n (i := 0) (zd me_X3_askedByWaiting 9 rfl) rfl 0 rfl ?_
      refine zx_getR (zd me_X3_askedByWaiting 10 rfl) fl_X3_11 (zi3_c h0) rfl (zi3_r1 h0) ?_
      refine zx_bipush (v := 12) (zd me_X3_askedByWaiting 11 rfl) (by decide) ?_
      refine zx_iload_n (i := 3) (zd me_X3_askedByWaiting 12 rfl) rfl 3 rfl ?_
      refine zx_iadd (zd me_X3_askedByWaiting 13 rfl) ?_
      refine zx_iald (zd me_X3_askedByWaiting 14 rfl) (zi3_t1 h0) (fun j2 hj2 => ?_)
      refine zx_if_ne (tgt := 47) (zd me_X3_askedByWaiting 15 rfl) (by decide) (fun c3 => ?_) (fun c3 => ?_)
      · exact mt_X3_askedByWaiting_b47 h0 ih i1 i2 i3 M
      · refine zx_iload_n (i := 2) (zd me_X3_askedByWaiting 16 rfl) rfl 2 rfl ?_
        refine zx_aload_n (i := 0) (zd me_X3_askedByWaiting 17 rfl) rfl 0 rfl ?_
        refine zx_getR (zd me_X3_askedByWaiting 18 rfl) fl_X3_15 (zi3_c h0) rfl (zi3_r0 h0) ?_
        refine zx_aload_n (i := 0) (zd me_X3_askedByWaiting 19 rfl) rfl 0 rfl ?_
        refine zx_getR (zd me_X3_askedByWaiting 20 rfl) fl_X3_15 (zi3_c h0) rfl (zi3_r0 h0) ?_
        refine zx_getR (zd me_X3_askedByWaiting 21 rfl) fl_X3_86 (zi7_c (zi3_t0 h0)) rfl (zi7_r8 (zi3_t0 h0)) ?_
        refine zx_iload_n (i := 3) (zd me_X3_askedByWaiting 22 rfl) rfl 3 rfl ?_
        refine zx_iald (zd me_X3_askedByWaiting 23 rfl) (zi7_t8 (zi3_t0 h0)) (fun j4 hj4 => ?_)
        refine zx_iload_n (i := 1) (zd me_X3_askedByWaiting 24 rfl) rfl 1 rfl ?_
        refine zx_callVI2 (zd me_X3_askedByWaiting 25 rfl) (mc_X7_asked (zl C) (zi3_t0 h0) (M.1 (zrf R (zrf R a0 0) 8) j4) i1 M) lk_X3_89 ⟨(Nat.le_of_ble_eq_true rfl), (Nat.le_of_ble_eq_true rfl)⟩ (Nat.le_of_ble_eq_true rfl) (zi7_c (zi3_t0 h0)) rfl (fun r6 M5 => ?_)
        refine zx_iadd (zd me_X3_askedByWaiting 26 rfl) ?_
        refine zx_leti (fun x7 => ?_)
        refine zx_istore_n (i := 2) (ls' := [(2, .int x7), (0, .ref a0), (1, .int i1), (3, .int i3)]) (zd me_X3_askedByWaiting 27 rfl) rfl (Nat.le_of_ble_eq_true rfl) rfl ?_
        refine zx_loc [1, 2, 0, 3] rfl ?_
        exact mt_X3_askedByWaiting_b47 h0 ih i1 x7 i3 M5
def mf_X3_askedByWaiting (R : zRR) (a0 : Nat) (i1 : Int32) (M : zMem) : Option (Int32 × zMem) :=
  mf_X3_askedByWaiting_l4 R a0 zF i1 (0 : Int32) (0 : Int32) M
theorem mc_X3_askedByWaiting (l : Launch) {T : zTT} {R : zRR} {a0 : Nat} (h0 : zi3 T R a0) (i1 : Int32) (M : zMem) : zMS l yX3_askedByWaiting mi_X3_askedByWaiting zrvI (mf_X3_askedByWaiting R a0 i1 M) [.ref a0, .int i1] T R M := by
  refine zMS.of (by decide +kernel) rfl ⟨rfl, rfl⟩ (Nat.le_of_ble_eq_true rfl) (fun C ad _ => ?_)
  show zX C mi_X3_askedByWaiting (zFin C zrvI ad T R) 0 0 (mf_X3_askedByWaiting R a0 i1 M) 0 [(0, .ref a0), (1, .int i1)] [] ad T R M
  unfold mf_X3_askedByWaiting
  refine zx_iconst (v := 0) (zd me_X3_askedByWaiting 0 rfl) (by decide) ?_
  refine zx_istore_n (i := 2) (ls' := [(2, .int (0 : Int32)), (0, .ref a0), (1, .int i1)]) (zd me_X3_askedByWaiting 1 rfl) rfl (Nat.le_of_ble_eq_true rfl) rfl ?_
  refine zx_iconst (v := 0) (zd me_X3_askedByWaiting 2 rfl) (by decide) ?_
  refine zx_istore_n (i := 3) (ls' := [(3, .int (0 : Int32)), (2, .int (0 : Int32)), (0, .ref a0), (1, .int i1)]) (zd me_X3_askedByWaiting 3 rfl) rfl (Nat.le_of_ble_eq_true rfl) rfl ?_
  refine zx_loc [2, 3, 1, 0] rfl ?_
  exact mt_X3_askedByWaiting_l4 h0 zF i1 (0 : Int32) (0 : Int32) M
