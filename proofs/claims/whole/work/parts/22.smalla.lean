def mf_X0_readLine_b17 (R : zRR) (a0 : Nat) (a1 : Nat) (a2 : Nat) (M : zMem) : Option (Int32 × zMem) :=
  zcl (mf_X10_fail R a1 (1 : Int32) M) fun r18 M17 =>
  zchk (r18 = 0 ∨ r18 = 1) (some (r18, M17))
theorem mt_X0_readLine_b17 {C : zCx} {ad : Nat → Nat} {T : zTT} {R : zRR} {a0 : Nat} {a1 : Nat} {a2 : Nat} (h0 : zi0 T R a0) (h1 : zi10 T R a1) (h2 : zi7 T R a2) (M : zMem) : zX C mi_X0_readLine (zFin C zrvI ad T R) 0 0 (mf_X0_readLine_b17 R a0 a1 a2 M) 17 [(1, .ref a1)] [] ad T R M := by
  unfold mf_X0_readLine_b17
  refine zx_aload_n (i := 1) (zd me_X0_readLine 9 rfl) rfl 0 rfl ?_
  refine zx_iconst (v := 1) (zd me_X0_readLine 10 rfl) (by decide) ?_
  refine zx_callVI1 (zd me_X0_readLine 11 rfl) (mc_X10_fail (zl C) h1 (1 : Int32) M) lk_X0_43 ⟨(Nat.le_of_ble_eq_true rfl), (Nat.le_of_ble_eq_true rfl)⟩ (Nat.le_of_ble_eq_true rfl) (zi10_c h1) rfl (fun r18 M17 => ?_)
  exact zx_zretC (zd me_X0_readLine 12 rfl) rfl
def mf_X0_readLine_b94 (R : zRR) (a0 : Nat) (a1 : Nat) (a2 : Nat) (i3 : Int32) (i4 : Int32) (M : zMem) : Option (Int32 × zMem) :=
  if i4 = (-1 : Int32) then
    (some ((0 : Int32), M))
  else
    (zald 40 (M.1 a0 2) fun j20 =>
    zlet (zwI M (zrf R a0 0) j20 i3) fun M21 =>
    zald 40 (M21.1 a0 2) fun j22 =>
    zlet (zwI M21 (zrf R a0 1) j22 i4) fun M23 =>
    zlet (zwI M23 a0 2 ((M23.1 a0 2) + (1 : Int32))) fun M24 =>
    some ((1 : Int32), M24))
theorem mt_X0_readLine_b94 {C : zCx} {ad : Nat → Nat} {T : zTT} {R : zRR} {a0 : Nat} {a1 : Nat} {a2 : Nat} (h0 : zi0 T R a0) (h1 : zi10 T R a1) (h2 : zi7 T R a2) (i3 : Int32) (i4 : Int32) (M : zMem) : zX C mi_X0_readLine (zFin C zrvI ad T R) 0 0 (mf_X0_readLine_b94 R a0 a1 a2 i3 i4 M) 94 [(0, .ref a0), (3, .int i3), (4, .int i4)] [] ad T R M := by
  unfold mf_X0_readLine_b94
  refine zx_iload (zd me_X0_readLine 50 rfl) 2 rfl ?_
  refine zx_iconst (v := (-1)) (zd me_X0_readLine 51 rfl) (by decide) ?_
  refine zx_icmp_ne (tgt := 102) (zd me_X0_readLine 52 rfl) (by decide) (fun c19 => ?_) (fun c19 => ?_)
  · refine zx_aload_n (i := 0) (zd me_X0_readLine 55 rfl) rfl 0 rfl ?_
    refine zx_getR (zd me_X0_readLine 56 rfl) fl_X0_11 (zi0_c h0) rfl (zi0_r0 h0) ?_
    refine zx_aload_n (i := 0) (zd me_X0_readLine 57 rfl) rfl 0 rfl ?_
    refine zx_getI (zd me_X0_readLine 58 rfl) fl_X0_18 (zi0_c h0) rfl ?_
    refine zx_iload_n (i := 3) (zd me_X0_readLine 59 rfl) rfl 1 rfl ?_
    refine zx_iast (zd me_X0_readLine 60 rfl) (zi0_t0 h0) (fun M21 => ?_)
    refine zx_aload_n (i := 0) (zd me_X0_readLine 61 rfl) rfl 0 rfl ?_
    refine zx_getR (zd me_X0_readLine 62 rfl) fl_X0_15 (zi0_c h0) rfl (zi0_r1 h0) ?_
    refine zx_aload_n (i := 0) (zd me_X0_readLine 63 rfl) rfl 0 rfl ?_
    refine zx_getI (zd me_X0_readLine 64 rfl) fl_X0_18 (zi0_c h0) rfl ?_
    refine zx_iload (zd me_X0_readLine 65 rfl) 2 rfl ?_
    refine zx_iast (zd me_X0_readLine 66 rfl) (zi0_t1 h0) (fun M23 => ?_)
    refine zx_aload_n (i := 0) (zd me_X0_readLine 67 rfl) rfl 0 rfl ?_
    refine zx_dup (zd me_X0_readLine 68 rfl) rfl ?_
    refine zx_getI (zd me_X0_readLine 69 rfl) fl_X0_18 (zi0_c h0) rfl ?_
    refine zx_iconst (v := 1) (zd me_X0_readLine 70 rfl) (by decide) ?_
    refine zx_iadd (zd me_X0_readLine 71 rfl) ?_
    refine zx_putI (zd me_X0_readLine 72 rfl) fp_X0_18 (zi0_c h0) rfl (fun M24 _ => ?_)
    refine zx_iconst (v := 1) (zd me_X0_readLine 73 rfl) (by decide) ?_
    exact zx_zret (zd me_X0_readLine 74 rfl) rfl rfl
  · refine zx_iconst (v := 0) (zd me_X0_readLine 53 rfl) (by decide) ?_
    exact zx_zret (zd me_X0_readLine 54 rfl) rfl rfl
def mf_X0_readLine (R : zRR) (a0 : Nat) (a1 : Nat) (a2 : Nat) (M : zMem) : Option (Int32 × zMem) :=
  zlet ((M.1 a1 5) : Int32) fun x1 =>
  if x1 < (6 : Int32) then
    (mf_X0_readLine_b17 R a0 a1 a2 M)
  else
    (if x1 ≤ (10 : Int32) then
      (if (M.1 a0 2) < (40 : Int32) then
        (zcl (mf_X10_next R a1 M) fun _ M5 =>
        if x1 = (10 : Int32) then
          (zcl (mf_X10_passNumber R a1 (1 : Int32) (60 : Int32) M5) fun r14 M13 =>
          mf_X0_readLine_b94 R a0 a1 a2 x1 r14 M13)
        else
          (if x1 = (9 : Int32) then
            (zcl (mf_X7_passKnown R a2 a1 (0 : Int32) (M5.1 a2 0) M5) fun r12 M11 =>
            mf_X0_readLine_b94 R a0 a1 a2 x1 r12 M11)
          else
            (zcl (mf_X7_passKnown R a2 a1 (11 : Int32) (M5.1 a2 2) M5) fun r10 M9 =>
            mf_X0_readLine_b94 R a0 a1 a2 x1 r10 M9)))
      else
        (zcl (mf_X10_fail R a1 (4 : Int32) M) fun r16 M15 =>
        zchk (r16 = 0 ∨ r16 = 1) (some (r16, M15))))
    else
      (mf_X0_readLine_b17 R a0 a1 a2 M))
theorem mc_X0_readLine (l : Launch) {T : zTT} {R : zRR} {a0 : Nat} {a1 : Nat} {a2 : Nat} (h0 : zi0 T R a0) (h1 : zi10 T R a1) (h2 : zi7 T R a2) (M : zMem) : zMS l yX0_readLine mi_X0_readLine zrvI (mf_X0_readLine R a0 a1 a2 M) [.ref a0, .ref a1, .ref a2] T R M := by
  refine zMS.of (by decide +kernel) rfl ⟨rfl, rfl⟩ (Nat.le_of_ble_eq_true rfl) (fun C ad _ => ?_)
  show zX C mi_X0_readLine (zFin C zrvI ad T R) 0 0 (mf_X0_readLine R a0 a1 a2 M) 0 [(0, .ref a0), (1, .ref a1), (2, .ref a2)] [] ad T R M
  unfold mf_X0_readLine
  refine zx_aload_n (i := 1) (zd me_X0_readLine 0 rfl) rfl 1 rfl ?_
  refine zx_getI (zd me_X0_readLine 1 rfl) fl_X0_40 (zi10_c h1) rfl ?_
  refine zx_leti (fun x1 => ?_)
  refine zx_istore_n (i := 3) (ls' := [(3, .int x1), (0, .ref a0), (1, .ref a1), (2, .ref a2)]) (zd me_X0_readLine 2 rfl) rfl (Nat.le_of_ble_eq_true rfl) rfl ?_
  refine zx_iload_n (i := 3) (zd me_X0_readLine 3 rfl) rfl 0 rfl ?_
  refine zx_bipush (v := 6) (zd me_X0_readLine 4 rfl) (by decide) ?_
  refine zx_icmp_lt (tgt := 17) (zd me_X0_readLine 5 rfl) (by decide) (fun c2 => ?_) (fun c2 => ?_)
  · refine zx_loc [2] rfl ?_
    exact mt_X0_readLine_b17 h0 h1 h2 M
  · refine zx_iload_n (i := 3) (zd me_X0_readLine 6 rfl) rfl 0 rfl ?_
    refine zx_bipush (v := 10) (zd me_X0_readLine 7 rfl) (by decide) ?_
    refine zx_icmp_le (tgt := 23) (zd me_X0_readLine 8 rfl) (by decide) (fun c3 => ?_) (fun c3 => ?_)
    · refine zx_aload_n (i := 0) (zd me_X0_readLine 13 rfl) rfl 1 rfl ?_
      refine zx_getI (zd me_X0_readLine 14 rfl) fl_X0_18 (zi0_c h0) rfl ?_
      refine zx_bipush (v := 40) (zd me_X0_readLine 15 rfl) (by decide) ?_
      refine zx_icmp_lt (tgt := 38) (zd me_X0_readLine 16 rfl) (by decide) (fun c4 => ?_) (fun c4 => ?_)
      · refine zx_aload_n (i := 1) (zd me_X0_readLine 21 rfl) rfl 2 rfl ?_
        refine zx_callVV0 (zd me_X0_readLine 22 rfl) (mc_X10_next (zl C) h1 M) lk_X0_46 ⟨(Nat.le_of_ble_eq_true rfl), (Nat.le_of_ble_eq_true rfl)⟩ (Nat.le_of_ble_eq_true rfl) (zi10_c h1) rfl (fun r6 M5 => ?_)
        refine zx_iload_n (i := 3) (zd me_X0_readLine 23 rfl) rfl 0 rfl ?_
        refine zx_bipush (v := 10) (zd me_X0_readLine 24 rfl) (by decide) ?_
        refine zx_icmp_ne (tgt := 60) (zd me_X0_readLine 25 rfl) (by decide) (fun c7 => ?_) (fun c7 => ?_)
        · refine zx_iload_n (i := 3) (zd me_X0_readLine 32 rfl) rfl 0 rfl ?_
          refine zx_bipush (v := 9) (zd me_X0_readLine 33 rfl) (by decide) ?_
          refine zx_icmp_ne (tgt := 81) (zd me_X0_readLine 34 rfl) (by decide) (fun c8 => ?_) (fun c8 => ?_)
          · refine zx_aload_n (i := 2) (zd me_X0_readLine 43 rfl) rfl 3 rfl ?_
            refine zx_aload_n (i := 1) (zd me_X0_readLine 44 rfl) rfl 2 rfl ?_
            refine zx_bipush (v := 11) (zd me_X0_readLine 45 rfl) (by decide) ?_
            refine zx_aload_n (i := 2) (zd me_X0_readLine 46 rfl) rfl 3 rfl ?_
            refine zx_getI (zd me_X0_readLine 47 rfl) fl_X0_62 (zi7_c h2) rfl ?_
            refine zx_callVI3 (zd me_X0_readLine 48 rfl) (mc_X7_passKnown (zl C) h2 h1 (11 : Int32) (M5.1 a2 2) M5) lk_X0_58 ⟨(Nat.le_of_ble_eq_true rfl), (Nat.le_of_ble_eq_true rfl)⟩ (Nat.le_of_ble_eq_true rfl) (zi7_c h2) rfl (fun r10 M9 => ?_)
            refine zx_istore (ls' := [(4, .int r10), (3, .int x1), (0, .ref a0), (1, .ref a1), (2, .ref a2)]) (zd me_X0_readLine 49 rfl) (Nat.le_of_ble_eq_true rfl) rfl ?_
            refine zx_loc [2, 1, 0] rfl ?_
            exact mt_X0_readLine_b94 h0 h1 h2 x1 r10 M9
          · refine zx_aload_n (i := 2) (zd me_X0_readLine 35 rfl) rfl 3 rfl ?_
            refine zx_aload_n (i := 1) (zd me_X0_readLine 36 rfl) rfl 2 rfl ?_
            refine zx_iconst (v := 0) (zd me_X0_readLine 37 rfl) (by decide) ?_
            refine zx_aload_n (i := 2) (zd me_X0_readLine 38 rfl) rfl 3 rfl ?_
            refine zx_getI (zd me_X0_readLine 39 rfl) fl_X0_55 (zi7_c h2) rfl ?_
            refine zx_callVI3 (zd me_X0_readLine 40 rfl) (mc_X7_passKnown (zl C) h2 h1 (0 : Int32) (M5.1 a2 0) M5) lk_X0_58 ⟨(Nat.le_of_ble_eq_true rfl), (Nat.le_of_ble_eq_true rfl)⟩ (Nat.le_of_ble_eq_true rfl) (zi7_c h2) rfl (fun r12 M11 => ?_)
            refine zx_istore (ls' := [(4, .int r12), (3, .int x1), (0, .ref a0), (1, .ref a1), (2, .ref a2)]) (zd me_X0_readLine 41 rfl) (Nat.le_of_ble_eq_true rfl) rfl ?_
            refine zx_goto (tgt := 94) (zd me_X0_readLine 42 rfl) (by decide) ?_
            refine zx_loc [2, 1, 0] rfl ?_
            exact mt_X0_readLine_b94 h0 h1 h2 x1 r12 M11
        · refine zx_aload_n (i := 1) (zd me_X0_readLine 26 rfl) rfl 2 rfl ?_
          refine zx_iconst (v := 1) (zd me_X0_readLine 27 rfl) (by decide) ?_
          refine zx_bipush (v := 60) (zd me_X0_readLine 28 rfl) (by decide) ?_
          refine zx_callVI2 (zd me_X0_readLine 29 rfl) (mc_X10_passNumber (zl C) h1 (1 : Int32) (60 : Int32) M5) lk_X0_49 ⟨(Nat.le_of_ble_eq_true rfl), (Nat.le_of_ble_eq_true rfl)⟩ (Nat.le_of_ble_eq_true rfl) (zi10_c h1) rfl (fun r14 M13 => ?_)
          refine zx_istore (ls' := [(4, .int r14), (3, .int x1), (0, .ref a0), (1, .ref a1), (2, .ref a2)]) (zd me_X0_readLine 30 rfl) (Nat.le_of_ble_eq_true rfl) rfl ?_
          refine zx_goto (tgt := 94) (zd me_X0_readLine 31 rfl) (by decide) ?_
          refine zx_loc [2, 1, 0] rfl ?_
          exact mt_X0_readLine_b94 h0 h1 h2 x1 r14 M13
      · refine zx_aload_n (i := 1) (zd me_X0_readLine 17 rfl) rfl 2 rfl ?_
        refine zx_iconst (v := 4) (zd me_X0_readLine 18 rfl) (by decide) ?_
        refine zx_callVI1 (zd me_X0_readLine 19 rfl) (mc_X10_fail (zl C) h1 (4 : Int32) M) lk_X0_43 ⟨(Nat.le_of_ble_eq_true rfl), (Nat.le_of_ble_eq_true rfl)⟩ (Nat.le_of_ble_eq_true rfl) (zi10_c h1) rfl (fun r16 M15 => ?_)
        exact zx_zretC (zd me_X0_readLine 20 rfl) rfl
    · refine zx_loc [2] rfl ?_
      exact mt_X0_readLine_b17 h0 h1 h2 M
def mf_X0_readLines_l14 (R : zRR) (a0 : Nat) (a1 : Nat) (a2 : Nat) : Nat → Int32 → zMem → Option (Int32 × zMem)
  | 0, _, _ => none
  | fuel + 1, i3, M =>
    if (400 : Int32) < i3 then
      (some ((0 : Int32), M))
    else
      (zcl (mf_X10_isEnd R a1 M) fun r6 M5 =>
      if r6 = 0 then
        (zcl (mf_X0_readLine R a0 a1 a2 M5) fun r9 M8 =>
        if r9 = 0 then
          (some ((0 : Int32), M8))
        else
          (zcl (mf_X10_passSign R a1 (59 : Int32) M8) fun r12 M11 =>
          if r12 = 0 then
            (some ((0 : Int32), M11))
          else
            (mf_X0_readLines_l14 R a0 a1 a2 fuel (i3 + 1) M11)))
      else
        (some ((1 : Int32), M5)))
theorem mt_X0_readLines_l14 {C : zCx} {ad : Nat → Nat} {T : zTT} {R : zRR} {a0 : Nat} {a1 : Nat} {a2 : Nat} (h0 : zi0 T R a0) (h1 : zi10 T R a1) (h2 : zi7 T R a2) : ∀ (fuel : Nat) (i3 : Int32) (M : zMem), zX C mi_X0_readLines (zFin C zrvI ad T R) 0 0 (mf_X0_readLines_l14 R a0 a1 a2 fuel i3 M) 14 [(0, .ref a0), (1, .ref a1), (2, .ref a2), (3, .int i3)] [] ad T R M := by
  intro fuel
  induction fuel with
  | zero => intros; exact zx_none
  | succ fuel ih =>
    intro i3 M
    rw [mf_X0_readLines_l14]
    refine zx_iload_n (i := 3) (zd me_X0_readLines 8 rfl) rfl 3 rfl ?_
    refine zx_sipush (v := 400) (zd me_X0_readLines 9 rfl) (by decide) ?_
    refine zx_icmp_gt (tgt := 56) (zd me_X0_readLines 10 rfl) (by decide) (fun c4 => ?_) (fun c4 => ?_)
    · refine zx_iconst (v := 0) (zd me_X0_readLines 29 rfl) (by decide) ?_
      exact zx_zret (zd me_X0_readLines 30 rfl) rfl rfl
    · refine zx_aload_n (i := 1) (zd me_X0_readLines 11 rfl) rfl 1 rfl ?_
      refine zx_callVI0 (zd me_X0_readLines 12 rfl) (mc_X10_isEnd (zl C) h1 M) lk_X0_28 ⟨(Nat.le_of_ble_eq_true rfl), (Nat.le_of_ble_eq_true rfl)⟩ (Nat.le_of_ble_eq_true rfl) (zi10_c h1) rfl (fun r6 M5 => ?_)
      refine zx_if_eq (tgt := 30) (zd me_X0_readLines 13 rfl) (by decide) (fun c7 => ?_) (fun c7 => ?_)
      · refine zx_aload_n (i := 0) (zd me_X0_readLines 16 rfl) rfl 0 rfl ?_
        refine zx_aload_n (i := 1) (zd me_X0_readLines 17 rfl) rfl 1 rfl ?_
        refine zx_aload_n (i := 2) (zd me_X0_readLines 18 rfl) rfl 2 rfl ?_
        refine zx_callVI2 (zd me_X0_readLines 19 rfl) (mc_X0_readLine (zl C) h0 h1 h2 M5) lk_X0_32 ⟨(Nat.le_of_ble_eq_true rfl), (Nat.le_of_ble_eq_true rfl)⟩ (Nat.le_of_ble_eq_true rfl) (zi0_c h0) rfl (fun r9 M8 => ?_)
        refine zx_if_eq (tgt := 48) (zd me_X0_readLines 20 rfl) (by decide) (fun c10 => ?_) (fun c10 => ?_)
        · refine zx_iconst (v := 0) (zd me_X0_readLines 25 rfl) (by decide) ?_
          exact zx_zret (zd me_X0_readLines 26 rfl) rfl rfl
        · refine zx_aload_n (i := 1) (zd me_X0_readLines 21 rfl) rfl 1 rfl ?_
          refine zx_bipush (v := 59) (zd me_X0_readLines 22 rfl) (by decide) ?_
          refine zx_callVI1 (zd me_X0_readLines 23 rfl) (mc_X10_passSign (zl C) h1 (59 : Int32) M8) lk_X0_36 ⟨(Nat.le_of_ble_eq_true rfl), (Nat.le_of_ble_eq_true rfl)⟩ (Nat.le_of_ble_eq_true rfl) (zi10_c h1) rfl (fun r12 M11 => ?_)
          refine zx_if_ne (tgt := 50) (zd me_X0_readLines 24 rfl) (by decide) (fun c13 => ?_) (fun c13 => ?_)
          · refine zx_iinc (v := 1) (ls' := [(3, .int (i3 + 1)), (0, .ref a0), (1, .ref a1), (2, .ref a2)]) (zd me_X0_readLines 27 rfl) (Nat.le_of_ble_eq_true rfl) 3 rfl (by decide) rfl ?_
            refine zx_goto (tgt := 14) (zd me_X0_readLines 28 rfl) (by decide) ?_
            refine zx_loc [1, 2, 3, 0] rfl ?_
            exact ih (i3 + 1) M11
          · refine zx_iconst (v := 0) (zd me_X0_readLines 25 rfl) (by decide) ?_
            exact zx_zret (zd me_X0_readLines 26 rfl) rfl rfl
      · refine zx_iconst (v := 1) (zd me_X0_readLines 14 rfl) (by decide) ?_
        exact zx_zret (zd me_X0_readLines 15 rfl) rfl rfl
def mf_X0_readLines (R : zRR) (a0 : Nat) (a1 : Nat) (a2 : Nat) (M : zMem) : Option (Int32 × zMem) :=
  zlet (zwI M a0 2 (0 : Int32)) fun M1 =>
  zcl (mf_X10_begin R a1 (400 : Int32) M1) fun _ M2 =>
  mf_X0_readLines_l14 R a0 a1 a2 zF (0 : Int32) M2
theorem mc_X0_readLines (l : Launch) {T : zTT} {R : zRR} {a0 : Nat} {a1 : Nat} {a2 : Nat} (h0 : zi0 T R a0) (h1 : zi10 T R a1) (h2 : zi7 T R a2) (M : zMem) : zMS l yX0_readLines mi_X0_readLines zrvI (mf_X0_readLines R a0 a1 a2 M) [.ref a0, .ref a1, .ref a2] T R M := by
  refine zMS.of (by decide +kernel) rfl ⟨rfl, rfl⟩ (Nat.le_of_ble_eq_true rfl) (fun C ad _ => ?_)
  show zX C mi_X0_readLines (zFin C zrvI ad T R) 0 0 (mf_X0_readLines R a0 a1 a2 M) 0 [(0, .ref a0), (1, .ref a1), (2, .ref a2)] [] ad T R M
  unfold mf_X0_readLines
  refine zx_aload_n (i := 0) (zd me_X0_readLines 0 rfl) rfl 0 rfl ?_
  refine zx_iconst (v := 0) (zd me_X0_readLines 1 rfl) (by decide) ?_
  refine zx_putI (zd me_X0_readLines 2 rfl) fp_X0_18 (zi0_c h0) rfl (fun M1 _ => ?_)
  refine zx_aload_n (i := 1) (zd me_X0_readLines 3 rfl) rfl 1 rfl ?_
  refine zx_sipush (v := 400) (zd me_X0_readLines 4 rfl) (by decide) ?_
  refine zx_callVV1 (zd me_X0_readLines 5 rfl) (mc_X10_begin (zl C) h1 (400 : Int32) M1) lk_X0_22 ⟨(Nat.le_of_ble_eq_true rfl), (Nat.le_of_ble_eq_true rfl)⟩ (Nat.le_of_ble_eq_true rfl) (zi10_c h1) rfl (fun r3 M2 => ?_)
  refine zx_iconst (v := 0) (zd me_X0_readLines 6 rfl) (by decide) ?_
  refine zx_istore_n (i := 3) (ls' := [(3, .int (0 : Int32)), (0, .ref a0), (1, .ref a1), (2, .ref a2)]) (zd me_X0_readLines 7 rfl) rfl (Nat.le_of_ble_eq_true rfl) rfl ?_
  refine zx_loc [1, 2, 3, 0] rfl ?_
  exact mt_X0_readLines_l14 h0 h1 h2 zF (0 : Int32) M2
def mf_X0_moreThan (R : zRR) (i0 : Int32) (i1 : Int32) (M : zMem) : Option (Int32 × zMem) :=
  if i1 = 0 then
    (some ((0 : Int32), M))
  else
    (some ((i0 + i1), M))
theorem mc_X0_moreThan (l : Launch) {T : zTT} {R : zRR}  (i0 : Int32) (i1 : Int32) (M : zMem) : zMS l yX0_moreThan mi_X0_moreThan zrvI (mf_X0_moreThan R i0 i1 M) [.int i0, .int i1] T R M := by
  refine zMS.of (by decide +kernel) rfl ⟨rfl, rfl⟩ (Nat.le_of_ble_eq_true rfl) (fun C ad _ => ?_)
  show zX C mi_X0_moreThan (zFin C zrvI ad T R) 0 0 (mf_X0_moreThan R i0 i1 M) 0 [(0, .int i0), (1, .int i1)] [] ad T R M
  unfold mf_X0_moreThan
  refine zx_iload_n (i := 1) (zd me_X0_moreThan 0 rfl) rfl 1 rfl ?_
  refine zx_if_ne (tgt := 8) (zd me_X0_moreThan 1 rfl) (by decide) (fun c1 => ?_) (fun c1 => ?_)
  · refine zx_iload_n (i := 0) (zd me_X0_moreThan 4 rfl) rfl 0 rfl ?_
    refine zx_iload_n (i := 1) (zd me_X0_moreThan 5 rfl) rfl 1 rfl ?_
    refine zx_iadd (zd me_X0_moreThan 6 rfl) ?_
    exact zx_iret (zd me_X0_moreThan 7 rfl) rfl
  · refine zx_iconst (v := 0) (zd me_X0_moreThan 2 rfl) (by decide) ?_
    refine zx_goto (tgt := 11) (zd me_X0_moreThan 3 rfl) (by decide) ?_
    exact zx_iret (zd me_X0_moreThan 7 rfl) rfl
def mf_X0_liveLine (R : zRR) (a0 : Nat) (i1 : Int32) (i2 : Int32) (M : zMem) : Option (Int32 × zMem) :=
  if i1 = 6 then
    (zcl (mf_X3_startSheet R a0 i2 M) fun r3 M2 =>
    some (r3, M2))
  else
  if i1 = 7 then
    (zcl (mf_X3_takeSheet R a0 i2 M) fun r6 M5 =>
    zcl (mf_X0_moreThan R (10 : Int32) r6 M5) fun r8 M7 =>
    some (r8, M7))
  else
  if i1 = 8 then
    (zcl (mf_X3_againSheet R a0 i2 M) fun r11 M10 =>
    zcl (mf_X0_moreThan R (20 : Int32) r11 M10) fun r13 M12 =>
    some (r13, M12))
  else
  if i1 = 9 then
    (zcl (mf_X3_renewBath R a0 i2 M) fun r16 M15 =>
    zcl (mf_X0_moreThan R (30 : Int32) r16 M15) fun r18 M17 =>
    some (r18, M17))
  else
    (zcl (mf_X3_minute R a0 M) fun r20 M19 =>
    if (r20 + i2) ≤ (1000 : Int32) then
      (zcl (mf_X3_pass R a0 i2 M19) fun _ M22 =>
      some ((0 : Int32), M22))
    else
      (some ((41 : Int32), M19)))
theorem mc_X0_liveLine (l : Launch) {T : zTT} {R : zRR} {a0 : Nat} (h0 : zi3 T R a0) (i1 : Int32) (i2 : Int32) (M : zMem) : zMS l yX0_liveLine mi_X0_liveLine zrvI (mf_X0_liveLine R a0 i1 i2 M) [.ref a0, .int i1, .int i2] T R M := by
  refine zMS.of (by decide +kernel) rfl ⟨rfl, rfl⟩ (Nat.le_of_ble_eq_true rfl) (fun C ad _ => ?_)
  show zX C mi_X0_liveLine (zFin C zrvI ad T R) 0 0 (mf_X0_liveLine R a0 i1 i2 M) 0 [(0, .ref a0), (1, .int i1), (2, .int i2)] [] ad T R M
  unfold mf_X0_liveLine
  refine zx_iload_n (i := 1) (zd me_X0_liveLine 0 rfl) rfl 1 rfl ?_
  refine zx_ite (fun c1 => ?_) (fun c1 => ?_)
  · refine zx_tin (off := 31) (tgt := 32) (zd me_X0_liveLine 1 rfl) (by rw [c1]; decide) (by rw [c1]; decide) (by rw [c1]; rfl) (by decide) ?_
    refine zx_aload_n (i := 0) (zd me_X0_liveLine 2 rfl) rfl 0 rfl ?_
    refine zx_iload_n (i := 2) (zd me_X0_liveLine 3 rfl) rfl 2 rfl ?_
    refine zx_callVI1 (zd me_X0_liveLine 4 rfl) (mc_X3_startSheet (zl C) h0 i2 M) lk_X0_95 ⟨(Nat.le_of_ble_eq_true rfl), (Nat.le_of_ble_eq_true rfl)⟩ (Nat.le_of_ble_eq_true rfl) (zi3_c h0) rfl (fun r3 M2 => ?_)
    exact zx_iret (zd me_X0_liveLine 5 rfl) rfl
  · refine zx_ite (fun c4 => ?_) (fun c4 => ?_)
    · refine zx_tin (off := 37) (tgt := 38) (zd me_X0_liveLine 1 rfl) (by rw [c4]; decide) (by rw [c4]; decide) (by rw [c4]; rfl) (by decide) ?_
      refine zx_bipush (v := 10) (zd me_X0_liveLine 6 rfl) (by decide) ?_
      refine zx_aload_n (i := 0) (zd me_X0_liveLine 7 rfl) rfl 0 rfl ?_
      refine zx_iload_n (i := 2) (zd me_X0_liveLine 8 rfl) rfl 2 rfl ?_
      refine zx_callVI1 (zd me_X0_liveLine 9 rfl) (mc_X3_takeSheet (zl C) h0 i2 M) lk_X0_98 ⟨(Nat.le_of_ble_eq_true rfl), (Nat.le_of_ble_eq_true rfl)⟩ (Nat.le_of_ble_eq_true rfl) (zi3_c h0) rfl (fun r6 M5 => ?_)
      refine zx_callSI2 (zd me_X0_liveLine 10 rfl) (mc_X0_moreThan (zl C) (10 : Int32) r6 M5) lk_X0_101 ⟨(Nat.le_of_ble_eq_true rfl), (Nat.le_of_ble_eq_true rfl)⟩ (Nat.le_of_ble_eq_true rfl) (fun r8 M7 => ?_)
      exact zx_iret (zd me_X0_liveLine 11 rfl) rfl
    · refine zx_ite (fun c9 => ?_) (fun c9 => ?_)
      · refine zx_tin (off := 48) (tgt := 49) (zd me_X0_liveLine 1 rfl) (by rw [c9]; decide) (by rw [c9]; decide) (by rw [c9]; rfl) (by decide) ?_
        refine zx_bipush (v := 20) (zd me_X0_liveLine 12 rfl) (by decide) ?_
        refine zx_aload_n (i := 0) (zd me_X0_liveLine 13 rfl) rfl 0 rfl ?_
        refine zx_iload_n (i := 2) (zd me_X0_liveLine 14 rfl) rfl 2 rfl ?_
        refine zx_callVI1 (zd me_X0_liveLine 15 rfl) (mc_X3_againSheet (zl C) h0 i2 M) lk_X0_104 ⟨(Nat.le_of_ble_eq_true rfl), (Nat.le_of_ble_eq_true rfl)⟩ (Nat.le_of_ble_eq_true rfl) (zi3_c h0) rfl (fun r11 M10 => ?_)
        refine zx_callSI2 (zd me_X0_liveLine 16 rfl) (mc_X0_moreThan (zl C) (20 : Int32) r11 M10) lk_X0_101 ⟨(Nat.le_of_ble_eq_true rfl), (Nat.le_of_ble_eq_true rfl)⟩ (Nat.le_of_ble_eq_true rfl) (fun r13 M12 => ?_)
        exact zx_iret (zd me_X0_liveLine 17 rfl) rfl
      · refine zx_ite (fun c14 => ?_) (fun c14 => ?_)
        · refine zx_tin (off := 59) (tgt := 60) (zd me_X0_liveLine 1 rfl) (by rw [c14]; decide) (by rw [c14]; decide) (by rw [c14]; rfl) (by decide) ?_
          refine zx_bipush (v := 30) (zd me_X0_liveLine 18 rfl) (by decide) ?_
          refine zx_aload_n (i := 0) (zd me_X0_liveLine 19 rfl) rfl 0 rfl ?_
          refine zx_iload_n (i := 2) (zd me_X0_liveLine 20 rfl) rfl 2 rfl ?_
          refine zx_callVI1 (zd me_X0_liveLine 21 rfl) (mc_X3_renewBath (zl C) h0 i2 M) lk_X0_107 ⟨(Nat.le_of_ble_eq_true rfl), (Nat.le_of_ble_eq_true rfl)⟩ (Nat.le_of_ble_eq_true rfl) (zi3_c h0) rfl (fun r16 M15 => ?_)
          refine zx_callSI2 (zd me_X0_liveLine 22 rfl) (mc_X0_moreThan (zl C) (30 : Int32) r16 M15) lk_X0_101 ⟨(Nat.le_of_ble_eq_true rfl), (Nat.le_of_ble_eq_true rfl)⟩ (Nat.le_of_ble_eq_true rfl) (fun r18 M17 => ?_)
          exact zx_iret (zd me_X0_liveLine 23 rfl) rfl
        · refine zx_tout (tgt := 71) (zd me_X0_liveLine 1 rfl) (by have e0 := lv_neT c1 (a := 6) (by decide); have e1 := lv_neT c4 (a := 7) (by decide); have e2 := lv_neT c9 (a := 8) (by decide); have e3 := lv_neT c14 (a := 9) (by decide); omega) (by decide) ?_
          refine zx_aload_n (i := 0) (zd me_X0_liveLine 24 rfl) rfl 0 rfl ?_
          refine zx_callVI0 (zd me_X0_liveLine 25 rfl) (mc_X3_minute (zl C) h0 M) lk_X0_79 ⟨(Nat.le_of_ble_eq_true rfl), (Nat.le_of_ble_eq_true rfl)⟩ (Nat.le_of_ble_eq_true rfl) (zi3_c h0) rfl (fun r20 M19 => ?_)
          refine zx_iload_n (i := 2) (zd me_X0_liveLine 26 rfl) rfl 2 rfl ?_
          refine zx_iadd (zd me_X0_liveLine 27 rfl) ?_
          refine zx_sipush (v := 1000) (zd me_X0_liveLine 28 rfl) (by decide) ?_
          refine zx_icmp_le (tgt := 86) (zd me_X0_liveLine 29 rfl) (by decide) (fun c21 => ?_) (fun c21 => ?_)
          · refine zx_aload_n (i := 0) (zd me_X0_liveLine 32 rfl) rfl 0 rfl ?_
            refine zx_iload_n (i := 2) (zd me_X0_liveLine 33 rfl) rfl 2 rfl ?_
            refine zx_callVV1 (zd me_X0_liveLine 34 rfl) (mc_X3_pass (zl C) h0 i2 M19) lk_X0_110 ⟨(Nat.le_of_ble_eq_true rfl), (Nat.le_of_ble_eq_true rfl)⟩ (Nat.le_of_ble_eq_true rfl) (zi3_c h0) rfl (fun r23 M22 => ?_)
            refine zx_iconst (v := 0) (zd me_X0_liveLine 35 rfl) (by decide) ?_
            exact zx_iret (zd me_X0_liveLine 36 rfl) rfl
          · refine zx_bipush (v := 41) (zd me_X0_liveLine 30 rfl) (by decide) ?_
            exact zx_iret (zd me_X0_liveLine 31 rfl) rfl
def mf_X0_live_b79 (R : zRR) (a0 : Nat) (a1 : Nat) (M : zMem) : Option (Unit × zMem) :=
  zlet (zwI M a0 3 (1 : Int32)) fun M12 =>
  zcl (mf_X3_minute R a1 M12) fun r14 M13 =>
  zlet (zwI M13 a0 6 r14) fun M15 =>
  zcl (mf_X3_allThatAre R a1 (2 : Int32) M15) fun r17 M16 =>
  zlet (zwI M16 a0 7 r17) fun M18 =>
  some ((), M18)
theorem mt_X0_live_b79 {C : zCx} {ad : Nat → Nat} {T : zTT} {R : zRR} {a0 : Nat} {a1 : Nat} (h0 : zi0 T R a0) (h1 : zi3 T R a1) (M : zMem) : zX C mi_X0_live (zFin C zrvV ad T R) 0 0 (mf_X0_live_b79 R a0 a1 M) 79 [(0, .ref a0), (1, .ref a1)] [] ad T R M := by
  unfold mf_X0_live_b79
  refine zx_aload_n (i := 0) (zd me_X0_live 40 rfl) rfl 0 rfl ?_
  refine zx_iconst (v := 1) (zd me_X0_live 41 rfl) (by decide) ?_
  refine zx_putZ (zd me_X0_live 42 rfl) fp_X0_75 (zi0_c h0) rfl (Or.inr rfl) (fun M12 _ => ?_)
  refine zx_aload_n (i := 0) (zd me_X0_live 43 rfl) rfl 0 rfl ?_
  refine zx_aload_n (i := 1) (zd me_X0_live 44 rfl) rfl 1 rfl ?_
  refine zx_callVI0 (zd me_X0_live 45 rfl) (mc_X3_minute (zl C) h1 M12) lk_X0_79 ⟨(Nat.le_of_ble_eq_true rfl), (Nat.le_of_ble_eq_true rfl)⟩ (Nat.le_of_ble_eq_true rfl) (zi3_c h1) rfl (fun r14 M13 => ?_)
  refine zx_putI (zd me_X0_live 46 rfl) fp_X0_85 (zi0_c h0) rfl (fun M15 _ => ?_)
  refine zx_aload_n (i := 0) (zd me_X0_live 47 rfl) rfl 0 rfl ?_
  refine zx_aload_n (i := 1) (zd me_X0_live 48 rfl) rfl 1 rfl ?_
  refine zx_iconst (v := 2) (zd me_X0_live 49 rfl) (by decide) ?_
  refine zx_callVI1 (zd me_X0_live 50 rfl) (mc_X3_allThatAre (zl C) h1 (2 : Int32) M15) lk_X0_88 ⟨(Nat.le_of_ble_eq_true rfl), (Nat.le_of_ble_eq_true rfl)⟩ (Nat.le_of_ble_eq_true rfl) (zi3_c h1) rfl (fun r17 M16 => ?_)
  refine zx_putI (zd me_X0_live 51 rfl) fp_X0_92 (zi0_c h0) rfl (fun M18 _ => ?_)
  exact zx_vret (zd me_X0_live 52 rfl) rfl
def mf_X0_live_l10 (R : zRR) (a0 : Nat) (a1 : Nat) : Nat → zMem → Option (Unit × zMem)
  | 0, _ => none
  | fuel + 1, M =>
    if (M.1 a0 2) ≤ (M.1 a0 5) then
      (mf_X0_live_b79 R a0 a1 M)
    else
      (if (40 : Int32) ≤ (M.1 a0 5) then
        (mf_X0_live_b79 R a0 a1 M)
      else
        (zald 40 (M.1 a0 5) fun j5 =>
        zald 40 (M.1 a0 5) fun j6 =>
        zcl (mf_X0_liveLine R a1 (M.1 (zrf R a0 0) j5) (M.1 (zrf R a0 1) j6) M) fun r8 M7 =>
        zlet (zwI M7 a0 4 r8) fun M9 =>
        if (M9.1 a0 4) = 0 then
          (zlet (zwI M9 a0 5 ((M9.1 a0 5) + (1 : Int32))) fun M11 =>
          mf_X0_live_l10 R a0 a1 fuel M11)
        else
          (mf_X0_live_b79 R a0 a1 M9)))
theorem mt_X0_live_l10 {C : zCx} {ad : Nat → Nat} {T : zTT} {R : zRR} {a0 : Nat} {a1 : Nat} (h0 : zi0 T R a0) (h1 : zi3 T R a1) : ∀ (fuel : Nat)  (M : zMem), zX C mi_X0_live (zFin C zrvV ad T R) 0 0 (mf_X0_live_l10 R a0 a1 fuel  M) 10 [(0, .ref a0), (1, .ref a1)] [] ad T R M := by
  intro fuel
  induction fuel with
  | zero => intros; exact zx_none
  | succ fuel ih =>
    intro M
    rw [mf_X0_live_l10]
    refine zx_aload_n (i := 0) (zd me_X0_live 6 rfl) rfl 0 rfl ?_
    refine zx_getI (zd me_X0_live 7 rfl) fl_X0_68 (zi0_c h0) rfl ?_
    refine zx_aload_n (i := 0) (zd me_X0_live 8 rfl) rfl 0 rfl ?_
    refine zx_getI (zd me_X0_live 9 rfl) fl_X0_18 (zi0_c h0) rfl ?_
    refine zx_icmp_ge (tgt := 79) (zd me_X0_live 10 rfl) (by decide) (fun c3 => ?_) (fun c3 => ?_)
    · exact mt_X0_live_b79 h0 h1 M
    · refine zx_aload_n (i := 0) (zd me_X0_live 11 rfl) rfl 0 rfl ?_
      refine zx_getI (zd me_X0_live 12 rfl) fl_X0_68 (zi0_c h0) rfl ?_
      refine zx_bipush (v := 40) (zd me_X0_live 13 rfl) (by decide) ?_
      refine zx_icmp_ge (tgt := 79) (zd me_X0_live 14 rfl) (by decide) (fun c4 => ?_) (fun c4 => ?_)
      · exact mt_X0_live_b79 h0 h1 M
      · refine zx_aload_n (i := 0) (zd me_X0_live 15 rfl) rfl 0 rfl ?_
        refine zx_aload_n (i := 1) (zd me_X0_live 16 rfl) rfl 1 rfl ?_
        refine zx_aload_n (i := 0) (zd me_X0_live 17 rfl) rfl 0 rfl ?_
        refine zx_getR (zd me_X0_live 18 rfl) fl_X0_11 (zi0_c h0) rfl (zi0_r0 h0) ?_
        refine zx_aload_n (i := 0) (zd me_X0_live 19 rfl) rfl 0 rfl ?_
        refine zx_getI (zd me_X0_live 20 rfl) fl_X0_68 (zi0_c h0) rfl ?_
        refine zx_iald (zd me_X0_live 21 rfl) (zi0_t0 h0) (fun j5 hj5 => ?_)
        refine zx_aload_n (i := 0) (zd me_X0_live 22 rfl) rfl 0 rfl ?_
        refine zx_getR (zd me_X0_live 23 rfl) fl_X0_15 (zi0_c h0) rfl (zi0_r1 h0) ?_
        refine zx_aload_n (i := 0) (zd me_X0_live 24 rfl) rfl 0 rfl ?_
        refine zx_getI (zd me_X0_live 25 rfl) fl_X0_68 (zi0_c h0) rfl ?_
        refine zx_iald (zd me_X0_live 26 rfl) (zi0_t1 h0) (fun j6 hj6 => ?_)
        refine zx_callSI3 (zd me_X0_live 27 rfl) (mc_X0_liveLine (zl C) h1 (M.1 (zrf R a0 0) j5) (M.1 (zrf R a0 1) j6) M) lk_X0_71 ⟨(Nat.le_of_ble_eq_true rfl), (Nat.le_of_ble_eq_true rfl)⟩ (Nat.le_of_ble_eq_true rfl) (fun r8 M7 => ?_)
        refine zx_putI (zd me_X0_live 28 rfl) fp_X0_65 (zi0_c h0) rfl (fun M9 _ => ?_)
        refine zx_aload_n (i := 0) (zd me_X0_live 29 rfl) rfl 0 rfl ?_
        refine zx_getI (zd me_X0_live 30 rfl) fl_X0_65 (zi0_c h0) rfl ?_
        refine zx_if_eq (tgt := 66) (zd me_X0_live 31 rfl) (by decide) (fun c10 => ?_) (fun c10 => ?_)
        · refine zx_aload_n (i := 0) (zd me_X0_live 33 rfl) rfl 0 rfl ?_
          refine zx_dup (zd me_X0_live 34 rfl) rfl ?_
          refine zx_getI (zd me_X0_live 35 rfl) fl_X0_68 (zi0_c h0) rfl ?_
          refine zx_iconst (v := 1) (zd me_X0_live 36 rfl) (by decide) ?_
          refine zx_iadd (zd me_X0_live 37 rfl) ?_
          refine zx_putI (zd me_X0_live 38 rfl) fp_X0_68 (zi0_c h0) rfl (fun M11 _ => ?_)
          refine zx_goto (tgt := 10) (zd me_X0_live 39 rfl) (by decide) ?_
          exact ih M11
        · refine zx_goto (tgt := 79) (zd me_X0_live 32 rfl) (by decide) ?_
          exact mt_X0_live_b79 h0 h1 M9
def mf_X0_live (R : zRR) (a0 : Nat) (a1 : Nat) (M : zMem) : Option (Unit × zMem) :=
  zlet (zwI M a0 4 (0 : Int32)) fun M1 =>
  zlet (zwI M1 a0 5 (0 : Int32)) fun M2 =>
  mf_X0_live_l10 R a0 a1 zF M2
theorem mc_X0_live (l : Launch) {T : zTT} {R : zRR} {a0 : Nat} {a1 : Nat} (h0 : zi0 T R a0) (h1 : zi3 T R a1) (M : zMem) : zMS l yX0_live mi_X0_live zrvV (mf_X0_live R a0 a1 M) [.ref a0, .ref a1] T R M := by
  refine zMS.of (by decide +kernel) rfl ⟨rfl, rfl⟩ (Nat.le_of_ble_eq_true rfl) (fun C ad _ => ?_)
  show zX C mi_X0_live (zFin C zrvV ad T R) 0 0 (mf_X0_live R a0 a1 M) 0 [(0, .ref a0), (1, .ref a1)] [] ad T R M
  unfold mf_X0_live
  refine zx_aload_n (i := 0) (zd me_X0_live 0 rfl) rfl 0 rfl ?_
  refine zx_iconst (v := 0) (zd me_X0_live 1 rfl) (by decide) ?_
  refine zx_putI (zd me_X0_live 2 rfl) fp_X0_65 (zi0_c h0) rfl (fun M1 _ => ?_)
  refine zx_aload_n (i := 0) (zd me_X0_live 3 rfl) rfl 0 rfl ?_
  refine zx_iconst (v := 0) (zd me_X0_live 4 rfl) (by decide) ?_
  refine zx_putI (zd me_X0_live 5 rfl) fp_X0_68 (zi0_c h0) rfl (fun M2 _ => ?_)
  exact mt_X0_live_l10 h0 h1 zF M2
def mf_X0_tell (R : zRR) (a0 : Nat) (i1 : Int32) (M : zMem) : Option (Int32 × zMem) :=
  if (M.1 a0 3) = 0 then
    (some ((-1 : Int32), M))
  else
    (if i1 = 0 then
      (some ((M.1 a0 4), M))
    else
    if i1 = 1 then
      (some ((M.1 a0 5), M))
    else
    if i1 = 2 then
      (some ((M.1 a0 6), M))
    else
    if i1 = 3 then
      (some ((M.1 a0 7), M))
    else
      (some ((-1 : Int32), M)))
theorem mc_X0_tell (l : Launch) {T : zTT} {R : zRR} {a0 : Nat} (h0 : zi0 T R a0) (i1 : Int32) (M : zMem) : zMS l yX0_tell mi_X0_tell zrvI (mf_X0_tell R a0 i1 M) [.ref a0, .int i1] T R M := by
  refine zMS.of (by decide +kernel) rfl ⟨rfl, rfl⟩ (Nat.le_of_ble_eq_true rfl) (fun C ad _ => ?_)
  show zX C mi_X0_tell (zFin C zrvI ad T R) 0 0 (mf_X0_tell R a0 i1 M) 0 [(0, .ref a0), (1, .int i1)] [] ad T R M
  unfold mf_X0_tell
  refine zx_aload_n (i := 0) (zd me_X0_tell 0 rfl) rfl 0 rfl ?_
  refine zx_getI (zd me_X0_tell 1 rfl) fl_X0_75 (zi0_c h0) rfl ?_
  refine zx_if_ne (tgt := 9) (zd me_X0_tell 2 rfl) (by decide) (fun c1 => ?_) (fun c1 => ?_)
  · refine zx_iload_n (i := 1) (zd me_X0_tell 5 rfl) rfl 1 rfl ?_
    refine zx_ite (fun c2 => ?_) (fun c2 => ?_)
    · refine zx_tin (off := 30) (tgt := 40) (zd me_X0_tell 6 rfl) (by rw [c2]; decide) (by rw [c2]; decide) (by rw [c2]; rfl) (by decide) ?_
      refine zx_aload_n (i := 0) (zd me_X0_tell 7 rfl) rfl 0 rfl ?_
      refine zx_getI (zd me_X0_tell 8 rfl) fl_X0_65 (zi0_c h0) rfl ?_
      exact zx_iret (zd me_X0_tell 9 rfl) rfl
    · refine zx_ite (fun c3 => ?_) (fun c3 => ?_)
      · refine zx_tin (off := 35) (tgt := 45) (zd me_X0_tell 6 rfl) (by rw [c3]; decide) (by rw [c3]; decide) (by rw [c3]; rfl) (by decide) ?_
        refine zx_aload_n (i := 0) (zd me_X0_tell 10 rfl) rfl 0 rfl ?_
        refine zx_getI (zd me_X0_tell 11 rfl) fl_X0_68 (zi0_c h0) rfl ?_
        exact zx_iret (zd me_X0_tell 12 rfl) rfl
      · refine zx_ite (fun c4 => ?_) (fun c4 => ?_)
        · refine zx_tin (off := 40) (tgt := 50) (zd me_X0_tell 6 rfl) (by rw [c4]; decide) (by rw [c4]; decide) (by rw [c4]; rfl) (by decide) ?_
          refine zx_aload_n (i := 0) (zd me_X0_tell 13 rfl) rfl 0 rfl ?_
          refine zx_getI (zd me_X0_tell 14 rfl) fl_X0_85 (zi0_c h0) rfl ?_
          exact zx_iret (zd me_X0_tell 15 rfl) rfl
        · refine zx_ite (fun c5 => ?_) (fun c5 => ?_)
          · refine zx_tin (off := 45) (tgt := 55) (zd me_X0_tell 6 rfl) (by rw [c5]; decide) (by rw [c5]; decide) (by rw [c5]; rfl) (by decide) ?_
            refine zx_aload_n (i := 0) (zd me_X0_tell 16 rfl) rfl 0 rfl ?_
            refine zx_getI (zd me_X0_tell 17 rfl) fl_X0_92 (zi0_c h0) rfl ?_
            exact zx_iret (zd me_X0_tell 18 rfl) rfl
          · refine zx_tout (tgt := 60) (zd me_X0_tell 6 rfl) (by have e0 := lv_neT c2 (a := 0) (by decide); have e1 := lv_neT c3 (a := 1) (by decide); have e2 := lv_neT c4 (a := 2) (by decide); have e3 := lv_neT c5 (a := 3) (by decide); omega) (by decide) ?_
            refine zx_iconst (v := (-1)) (zd me_X0_tell 19 rfl) (by decide) ?_
            exact zx_iret (zd me_X0_tell 20 rfl) rfl
  · refine zx_iconst (v := (-1)) (zd me_X0_tell 3 rfl) (by decide) ?_
    exact zx_iret (zd me_X0_tell 4 rfl) rfl
def mf_X1_draw (R : zRR) (a0 : Nat) (i1 : Int32) (M : zMem) : Option (Int32 × zMem) :=
  zlet (zwI M a0 0 (((M.1 a0 0) * (1103515245 : Int32)) + (12345 : Int32))) fun M1 =>
  if (1 : Int32) ≤ i1 then
    (zchk (¬ i1 = 0) <|
    some ((((M1.1 a0 0).toUInt32 >>> ((8 : Int32).toUInt32 &&& Int32.toUInt32 31)).toInt32 - ((M1.1 a0 0).toUInt32 >>> ((8 : Int32).toUInt32 &&& Int32.toUInt32 31)).toInt32 / i1 * i1), M1))
  else
    (some ((0 : Int32), M1))
theorem mc_X1_draw (l : Launch) {T : zTT} {R : zRR} {a0 : Nat} (h0 : zi1 T R a0) (i1 : Int32) (M : zMem) : zMS l yX1_draw mi_X1_draw zrvI (mf_X1_draw R a0 i1 M) [.ref a0, .int i1] T R M := by
  refine zMS.of (by decide +kernel) rfl ⟨rfl, rfl⟩ (Nat.le_of_ble_eq_true rfl) (fun C ad _ => ?_)
  show zX C mi_X1_draw (zFin C zrvI ad T R) 0 0 (mf_X1_draw R a0 i1 M) 0 [(0, .ref a0), (1, .int i1)] [] ad T R M
  unfold mf_X1_draw
  refine zx_aload_n (i := 0) (zd me_X1_draw 0 rfl) rfl 0 rfl ?_
  refine zx_aload_n (i := 0) (zd me_X1_draw 1 rfl) rfl 0 rfl ?_
  refine zx_getI (zd me_X1_draw 2 rfl) fl_X1_9 (zi1_c h0) rfl ?_
  refine zx_ldc (v := 1103515245) (zd me_X1_draw 3 rfl) (zt5 47 rfl rfl) ?_
  refine zx_imul (zd me_X1_draw 4 rfl) ?_
  refine zx_sipush (v := 12345) (zd me_X1_draw 5 rfl) (by decide) ?_
  refine zx_iadd (zd me_X1_draw 6 rfl) ?_
  refine zx_putI (zd me_X1_draw 7 rfl) fp_X1_9 (zi1_c h0) rfl (fun M1 _ => ?_)
  refine zx_iload_n (i := 1) (zd me_X1_draw 8 rfl) rfl 1 rfl ?_
  refine zx_iconst (v := 1) (zd me_X1_draw 9 rfl) (by decide) ?_
  refine zx_icmp_ge (tgt := 24) (zd me_X1_draw 10 rfl) (by decide) (fun c2 => ?_) (fun c2 => ?_)
  · refine zx_aload_n (i := 0) (zd me_X1_draw 13 rfl) rfl 0 rfl ?_
    refine zx_getI (zd me_X1_draw 14 rfl) fl_X1_9 (zi1_c h0) rfl ?_
    refine zx_bipush (v := 8) (zd me_X1_draw 15 rfl) (by decide) ?_
    refine zx_iushr (zd me_X1_draw 16 rfl) ?_
    refine zx_iload_n (i := 1) (zd me_X1_draw 17 rfl) rfl 1 rfl ?_
    refine zx_irem (zd me_X1_draw 18 rfl) ?_
    exact zx_iret (zd me_X1_draw 19 rfl) rfl
  · refine zx_iconst (v := 0) (zd me_X1_draw 11 rfl) (by decide) ?_
    refine zx_goto (tgt := 33) (zd me_X1_draw 12 rfl) (by decide) ?_
    exact zx_iret (zd me_X1_draw 19 rfl) rfl
def mf_X1_actByDraw_b93 (R : zRR) (a0 : Nat) (a1 : Nat) (i2 : Int32) (i4 : Int32) (M : zMem) : Option (Unit × zMem) :=
  if i4 = (5 : Int32) then
    (zcl (mf_X1_draw R a0 (4 : Int32) M) fun r25 M24 =>
    if r25 = 0 then
      (if i2 ≤ 0 then
        (some ((), M24))
      else
        (zcl (mf_X1_draw R a0 i2 M24) fun r29 M28 =>
        zcl (mf_X3_takeSheet R a1 r29 M28) fun r31 M30 =>
        some ((), M30)))
    else
      (some ((), M24)))
  else
    (some ((), M))
theorem mt_X1_actByDraw_b93 {C : zCx} {ad : Nat → Nat} {T : zTT} {R : zRR} {a0 : Nat} {a1 : Nat} (h0 : zi1 T R a0) (h1 : zi3 T R a1) (i2 : Int32) (i4 : Int32) (M : zMem) : zX C mi_X1_actByDraw (zFin C zrvV ad T R) 0 0 (mf_X1_actByDraw_b93 R a0 a1 i2 i4 M) 93 [(0, .ref a0), (1, .ref a1), (2, .int i2), (4, .int i4)] [] ad T R M := by
  unfold mf_X1_actByDraw_b93
  refine zx_iload (zd me_X1_actByDraw 48 rfl) 3 rfl ?_
  refine zx_iconst (v := 5) (zd me_X1_actByDraw 49 rfl) (by decide) ?_
  refine zx_icmp_ne (tgt := 121) (zd me_X1_actByDraw 50 rfl) (by decide) (fun c23 => ?_) (fun c23 => ?_)
  · exact zx_vret (zd me_X1_actByDraw 63 rfl) rfl
  · refine zx_aload_n (i := 0) (zd me_X1_actByDraw 51 rfl) rfl 0 rfl ?_
    refine zx_iconst (v := 4) (zd me_X1_actByDraw 52 rfl) (by decide) ?_
    refine zx_callVI1 (zd me_X1_actByDraw 53 rfl) (mc_X1_draw (zl C) h0 (4 : Int32) M) lk_X1_41 ⟨(Nat.le_of_ble_eq_true rfl), (Nat.le_of_ble_eq_true rfl)⟩ (Nat.le_of_ble_eq_true rfl) (zi1_c h0) rfl (fun r25 M24 => ?_)
    refine zx_if_ne (tgt := 121) (zd me_X1_actByDraw 54 rfl) (by decide) (fun c26 => ?_) (fun c26 => ?_)
    · exact zx_vret (zd me_X1_actByDraw 63 rfl) rfl
    · refine zx_iload_n (i := 2) (zd me_X1_actByDraw 55 rfl) rfl 2 rfl ?_
      refine zx_if_le (tgt := 121) (zd me_X1_actByDraw 56 rfl) (by decide) (fun c27 => ?_) (fun c27 => ?_)
      · exact zx_vret (zd me_X1_actByDraw 63 rfl) rfl
      · refine zx_aload_n (i := 1) (zd me_X1_actByDraw 57 rfl) rfl 1 rfl ?_
        refine zx_aload_n (i := 0) (zd me_X1_actByDraw 58 rfl) rfl 0 rfl ?_
        refine zx_iload_n (i := 2) (zd me_X1_actByDraw 59 rfl) rfl 2 rfl ?_
        refine zx_callVI1 (zd me_X1_actByDraw 60 rfl) (mc_X1_draw (zl C) h0 i2 M24) lk_X1_41 ⟨(Nat.le_of_ble_eq_true rfl), (Nat.le_of_ble_eq_true rfl)⟩ (Nat.le_of_ble_eq_true rfl) (zi1_c h0) rfl (fun r29 M28 => ?_)
        refine zx_callVI1 (zd me_X1_actByDraw 61 rfl) (mc_X3_takeSheet (zl C) h1 r29 M28) lk_X1_54 ⟨(Nat.le_of_ble_eq_true rfl), (Nat.le_of_ble_eq_true rfl)⟩ (Nat.le_of_ble_eq_true rfl) (zi3_c h1) rfl (fun r31 M30 => ?_)
        refine zx_pop (zd me_X1_actByDraw 62 rfl) rfl ?_
        exact zx_vret (zd me_X1_actByDraw 63 rfl) rfl
def mf_X1_actByDraw_b70 (R : zRR) (a0 : Nat) (a1 : Nat) (i2 : Int32) (i3 : Int32) (i4 : Int32) (M : zMem) : Option (Unit × zMem) :=
  if i4 = (4 : Int32) then
    (if i3 ≤ 0 then
      (mf_X1_actByDraw_b93 R a0 a1 i2 i4 M)
    else
      (zcl (mf_X1_draw R a0 i3 M) fun r20 M19 =>
      zcl (mf_X3_renewBath R a1 r20 M19) fun r22 M21 =>
      some ((), M21)))
  else
    (mf_X1_actByDraw_b93 R a0 a1 i2 i4 M)
theorem mt_X1_actByDraw_b70 {C : zCx} {ad : Nat → Nat} {T : zTT} {R : zRR} {a0 : Nat} {a1 : Nat} (h0 : zi1 T R a0) (h1 : zi3 T R a1) (i2 : Int32) (i3 : Int32) (i4 : Int32) (M : zMem) : zX C mi_X1_actByDraw (zFin C zrvV ad T R) 0 0 (mf_X1_actByDraw_b70 R a0 a1 i2 i3 i4 M) 70 [(0, .ref a0), (1, .ref a1), (2, .int i2), (3, .int i3), (4, .int i4)] [] ad T R M := by
  unfold mf_X1_actByDraw_b70
  refine zx_iload (zd me_X1_actByDraw 36 rfl) 4 rfl ?_
  refine zx_iconst (v := 4) (zd me_X1_actByDraw 37 rfl) (by decide) ?_
  refine zx_icmp_ne (tgt := 93) (zd me_X1_actByDraw 38 rfl) (by decide) (fun c17 => ?_) (fun c17 => ?_)
  · refine zx_loc [0, 1, 2, 4] rfl ?_
    exact mt_X1_actByDraw_b93 h0 h1 i2 i4 M
  · refine zx_iload_n (i := 3) (zd me_X1_actByDraw 39 rfl) rfl 3 rfl ?_
    refine zx_if_le (tgt := 93) (zd me_X1_actByDraw 40 rfl) (by decide) (fun c18 => ?_) (fun c18 => ?_)
    · refine zx_loc [0, 1, 2, 4] rfl ?_
      exact mt_X1_actByDraw_b93 h0 h1 i2 i4 M
    · refine zx_aload_n (i := 1) (zd me_X1_actByDraw 41 rfl) rfl 1 rfl ?_
      refine zx_aload_n (i := 0) (zd me_X1_actByDraw 42 rfl) rfl 0 rfl ?_
      refine zx_iload_n (i := 3) (zd me_X1_actByDraw 43 rfl) rfl 3 rfl ?_
      refine zx_callVI1 (zd me_X1_actByDraw 44 rfl) (mc_X1_draw (zl C) h0 i3 M) lk_X1_41 ⟨(Nat.le_of_ble_eq_true rfl), (Nat.le_of_ble_eq_true rfl)⟩ (Nat.le_of_ble_eq_true rfl) (zi1_c h0) rfl (fun r20 M19 => ?_)
      refine zx_callVI1 (zd me_X1_actByDraw 45 rfl) (mc_X3_renewBath (zl C) h1 r20 M19) lk_X1_51 ⟨(Nat.le_of_ble_eq_true rfl), (Nat.le_of_ble_eq_true rfl)⟩ (Nat.le_of_ble_eq_true rfl) (zi3_c h1) rfl (fun r22 M21 => ?_)
      refine zx_pop (zd me_X1_actByDraw 46 rfl) rfl ?_
      refine zx_goto (tgt := 121) (zd me_X1_actByDraw 47 rfl) (by decide) ?_
      exact zx_vret (zd me_X1_actByDraw 63 rfl) rfl
def mf_X1_actByDraw_b47 (R : zRR) (a0 : Nat) (a1 : Nat) (i2 : Int32) (i3 : Int32) (i4 : Int32) (M : zMem) : Option (Unit × zMem) :=
  if i4 = (3 : Int32) then
    (if i2 ≤ 0 then
      (mf_X1_actByDraw_b70 R a0 a1 i2 i3 i4 M)
    else
      (zcl (mf_X1_draw R a0 i2 M) fun r14 M13 =>
      zcl (mf_X3_againSheet R a1 r14 M13) fun r16 M15 =>
      some ((), M15)))
  else
    (mf_X1_actByDraw_b70 R a0 a1 i2 i3 i4 M)
theorem mt_X1_actByDraw_b47 {C : zCx} {ad : Nat → Nat} {T : zTT} {R : zRR} {a0 : Nat} {a1 : Nat} (h0 : zi1 T R a0) (h1 : zi3 T R a1) (i2 : Int32) (i3 : Int32) (i4 : Int32) (M : zMem) : zX C mi_X1_actByDraw (zFin C zrvV ad T R) 0 0 (mf_X1_actByDraw_b47 R a0 a1 i2 i3 i4 M) 47 [(0, .ref a0), (1, .ref a1), (2, .int i2), (3, .int i3), (4, .int i4)] [] ad T R M := by
  unfold mf_X1_actByDraw_b47
  refine zx_iload (zd me_X1_actByDraw 24 rfl) 4 rfl ?_
  refine zx_iconst (v := 3) (zd me_X1_actByDraw 25 rfl) (by decide) ?_
  refine zx_icmp_ne (tgt := 70) (zd me_X1_actByDraw 26 rfl) (by decide) (fun c11 => ?_) (fun c11 => ?_)
  · exact mt_X1_actByDraw_b70 h0 h1 i2 i3 i4 M
  · refine zx_iload_n (i := 2) (zd me_X1_actByDraw 27 rfl) rfl 2 rfl ?_
    refine zx_if_le (tgt := 70) (zd me_X1_actByDraw 28 rfl) (by decide) (fun c12 => ?_) (fun c12 => ?_)
    · exact mt_X1_actByDraw_b70 h0 h1 i2 i3 i4 M
    · refine zx_aload_n (i := 1) (zd me_X1_actByDraw 29 rfl) rfl 1 rfl ?_
      refine zx_aload_n (i := 0) (zd me_X1_actByDraw 30 rfl) rfl 0 rfl ?_
      refine zx_iload_n (i := 2) (zd me_X1_actByDraw 31 rfl) rfl 2 rfl ?_
      refine zx_callVI1 (zd me_X1_actByDraw 32 rfl) (mc_X1_draw (zl C) h0 i2 M) lk_X1_41 ⟨(Nat.le_of_ble_eq_true rfl), (Nat.le_of_ble_eq_true rfl)⟩ (Nat.le_of_ble_eq_true rfl) (zi1_c h0) rfl (fun r14 M13 => ?_)
      refine zx_callVI1 (zd me_X1_actByDraw 33 rfl) (mc_X3_againSheet (zl C) h1 r14 M13) lk_X1_48 ⟨(Nat.le_of_ble_eq_true rfl), (Nat.le_of_ble_eq_true rfl)⟩ (Nat.le_of_ble_eq_true rfl) (zi3_c h1) rfl (fun r16 M15 => ?_)
      refine zx_pop (zd me_X1_actByDraw 34 rfl) rfl ?_
      refine zx_goto (tgt := 121) (zd me_X1_actByDraw 35 rfl) (by decide) ?_
      exact zx_vret (zd me_X1_actByDraw 63 rfl) rfl
def mf_X1_actByDraw (R : zRR) (a0 : Nat) (a1 : Nat) (M : zMem) : Option (Unit × zMem) :=
  zlet ((M.1 (zrf R a1 0) 2) : Int32) fun x1 =>
  zlet ((M.1 (zrf R a1 0) 0) : Int32) fun x2 =>
  zcl (mf_X1_draw R a0 (8 : Int32) M) fun r4 M3 =>
  if (2 : Int32) < r4 then
    (mf_X1_actByDraw_b47 R a0 a1 x1 x2 r4 M3)
  else
    (if x1 ≤ 0 then
      (mf_X1_actByDraw_b47 R a0 a1 x1 x2 r4 M3)
    else
      (zcl (mf_X1_draw R a0 x1 M3) fun r8 M7 =>
      zcl (mf_X3_startSheet R a1 r8 M7) fun r10 M9 =>
      some ((), M9)))
theorem mc_X1_actByDraw (l : Launch) {T : zTT} {R : zRR} {a0 : Nat} {a1 : Nat} (h0 : zi1 T R a0) (h1 : zi3 T R a1) (M : zMem) : zMS l yX1_actByDraw mi_X1_actByDraw zrvV (mf_X1_actByDraw R a0 a1 M) [.ref a0, .ref a1] T R M := by
  refine zMS.of (by decide +kernel) rfl ⟨rfl, rfl⟩ (Nat.le_of_ble_eq_true rfl) (fun C ad _ => ?_)
  show zX C mi_X1_actByDraw (zFin C zrvV ad T R) 0 0 (mf_X1_actByDraw R a0 a1 M) 0 [(0, .ref a0), (1, .ref a1)] [] ad T R M
  unfold mf_X1_actByDraw
  refine zx_aload_n (i := 1) (zd me_X1_actByDraw 0 rfl) rfl 1 rfl ?_
  refine zx_getR (zd me_X1_actByDraw 1 rfl) fl_X1_29 (zi3_c h1) rfl (zi3_r0 h1) ?_
  refine zx_getI (zd me_X1_actByDraw 2 rfl) fl_X1_33 (zi7_c (zi3_t0 h1)) rfl ?_
  refine zx_leti (fun x1 => ?_)
  refine zx_istore_n (i := 2) (ls' := [(2, .int x1), (0, .ref a0), (1, .ref a1)]) (zd me_X1_actByDraw 3 rfl) rfl (Nat.le_of_ble_eq_true rfl) rfl ?_
  refine zx_aload_n (i := 1) (zd me_X1_actByDraw 4 rfl) rfl 2 rfl ?_
  refine zx_getR (zd me_X1_actByDraw 5 rfl) fl_X1_29 (zi3_c h1) rfl (zi3_r0 h1) ?_
  refine zx_getI (zd me_X1_actByDraw 6 rfl) fl_X1_38 (zi7_c (zi3_t0 h1)) rfl ?_
  refine zx_leti (fun x2 => ?_)
  refine zx_istore_n (i := 3) (ls' := [(3, .int x2), (2, .int x1), (0, .ref a0), (1, .ref a1)]) (zd me_X1_actByDraw 7 rfl) rfl (Nat.le_of_ble_eq_true rfl) rfl ?_
  refine zx_aload_n (i := 0) (zd me_X1_actByDraw 8 rfl) rfl 2 rfl ?_
  refine zx_bipush (v := 8) (zd me_X1_actByDraw 9 rfl) (by decide) ?_
  refine zx_callVI1 (zd me_X1_actByDraw 10 rfl) (mc_X1_draw (zl C) h0 (8 : Int32) M) lk_X1_41 ⟨(Nat.le_of_ble_eq_true rfl), (Nat.le_of_ble_eq_true rfl)⟩ (Nat.le_of_ble_eq_true rfl) (zi1_c h0) rfl (fun r4 M3 => ?_)
  refine zx_istore (ls' := [(4, .int r4), (3, .int x2), (2, .int x1), (0, .ref a0), (1, .ref a1)]) (zd me_X1_actByDraw 11 rfl) (Nat.le_of_ble_eq_true rfl) rfl ?_
  refine zx_iload (zd me_X1_actByDraw 12 rfl) 0 rfl ?_
  refine zx_iconst (v := 2) (zd me_X1_actByDraw 13 rfl) (by decide) ?_
  refine zx_icmp_gt (tgt := 47) (zd me_X1_actByDraw 14 rfl) (by decide) (fun c5 => ?_) (fun c5 => ?_)
  · refine zx_loc [3, 4, 2, 1, 0] rfl ?_
    exact mt_X1_actByDraw_b47 h0 h1 x1 x2 r4 M3
  · refine zx_iload_n (i := 2) (zd me_X1_actByDraw 15 rfl) rfl 2 rfl ?_
    refine zx_if_le (tgt := 47) (zd me_X1_actByDraw 16 rfl) (by decide) (fun c6 => ?_) (fun c6 => ?_)
    · refine zx_loc [3, 4, 2, 1, 0] rfl ?_
      exact mt_X1_actByDraw_b47 h0 h1 x1 x2 r4 M3
    · refine zx_aload_n (i := 1) (zd me_X1_actByDraw 17 rfl) rfl 4 rfl ?_
      refine zx_aload_n (i := 0) (zd me_X1_actByDraw 18 rfl) rfl 3 rfl ?_
      refine zx_iload_n (i := 2) (zd me_X1_actByDraw 19 rfl) rfl 2 rfl ?_
      refine zx_callVI1 (zd me_X1_actByDraw 20 rfl) (mc_X1_draw (zl C) h0 x1 M3) lk_X1_41 ⟨(Nat.le_of_ble_eq_true rfl), (Nat.le_of_ble_eq_true rfl)⟩ (Nat.le_of_ble_eq_true rfl) (zi1_c h0) rfl (fun r8 M7 => ?_)
      refine zx_callVI1 (zd me_X1_actByDraw 21 rfl) (mc_X3_startSheet (zl C) h1 r8 M7) lk_X1_45 ⟨(Nat.le_of_ble_eq_true rfl), (Nat.le_of_ble_eq_true rfl)⟩ (Nat.le_of_ble_eq_true rfl) (zi3_c h1) rfl (fun r10 M9 => ?_)
      refine zx_pop (zd me_X1_actByDraw 22 rfl) rfl ?_
      refine zx_goto (tgt := 121) (zd me_X1_actByDraw 23 rfl) (by decide) ?_
      exact zx_vret (zd me_X1_actByDraw 63 rfl) rfl
def mf_X1_liveMinutes_l8 (R : zRR) (a0 : Nat) (a1 : Nat) : Nat → Int32 → Int32 → zMem → Option (Int32 × zMem)
  | 0, _, _, _ => none
  | fuel + 1, i2, i4, M =>
    if i2 ≤ i4 then
      (some (i4, M))
    else
      (zcl (mf_X3_minute R a1 M) fun r4 M3 =>
      if (1000 : Int32) ≤ r4 then
        (some (i4, M3))
      else
        (zcl (mf_X1_actByDraw R a0 a1 M3) fun _ M6 =>
        zcl (mf_X3_pass R a1 (1 : Int32) M6) fun _ M8 =>
        mf_X1_liveMinutes_l8 R a0 a1 fuel i2 (i4 + 1) M8))
theorem mt_X1_liveMinutes_l8 {C : zCx} {ad : Nat → Nat} {T : zTT} {R : zRR} {a0 : Nat} {a1 : Nat} (h0 : zi1 T R a0) (h1 : zi3 T R a1) : ∀ (fuel : Nat) (i2 : Int32) (i4 : Int32) (M : zMem), zX C mi_X1_liveMinutes (zFin C zrvI ad T R) 0 0 (mf_X1_liveMinutes_l8 R a0 a1 fuel i2 i4 M) 8 [(0, .ref a0), (1, .ref a1), (2, .int i2), (4, .int i4)] [] ad T R M := by
  intro fuel
  induction fuel with
  | zero => intros; exact zx_none
  | succ fuel ih =>
    intro i2 i4 M
    rw [mf_X1_liveMinutes_l8]
    refine zx_iload (zd me_X1_liveMinutes 5 rfl) 3 rfl ?_
    refine zx_iload_n (i := 2) (zd me_X1_liveMinutes 6 rfl) rfl 2 rfl ?_
    refine zx_icmp_ge (tgt := 40) (zd me_X1_liveMinutes 7 rfl) (by decide) (fun c2 => ?_) (fun c2 => ?_)
    · refine zx_iload (zd me_X1_liveMinutes 20 rfl) 3 rfl ?_
      exact zx_iret (zd me_X1_liveMinutes 21 rfl) rfl
    · refine zx_aload_n (i := 1) (zd me_X1_liveMinutes 8 rfl) rfl 1 rfl ?_
      refine zx_callVI0 (zd me_X1_liveMinutes 9 rfl) (mc_X3_minute (zl C) h1 M) lk_X1_15 ⟨(Nat.le_of_ble_eq_true rfl), (Nat.le_of_ble_eq_true rfl)⟩ (Nat.le_of_ble_eq_true rfl) (zi3_c h1) rfl (fun r4 M3 => ?_)
      refine zx_sipush (v := 1000) (zd me_X1_liveMinutes 10 rfl) (by decide) ?_
      refine zx_icmp_ge (tgt := 40) (zd me_X1_liveMinutes 11 rfl) (by decide) (fun c5 => ?_) (fun c5 => ?_)
      · refine zx_iload (zd me_X1_liveMinutes 20 rfl) 3 rfl ?_
        exact zx_iret (zd me_X1_liveMinutes 21 rfl) rfl
      · refine zx_aload_n (i := 0) (zd me_X1_liveMinutes 12 rfl) rfl 0 rfl ?_
        refine zx_aload_n (i := 1) (zd me_X1_liveMinutes 13 rfl) rfl 1 rfl ?_
        refine zx_callVV1 (zd me_X1_liveMinutes 14 rfl) (mc_X1_actByDraw (zl C) h0 h1 M3) lk_X1_21 ⟨(Nat.le_of_ble_eq_true rfl), (Nat.le_of_ble_eq_true rfl)⟩ (Nat.le_of_ble_eq_true rfl) (zi1_c h0) rfl (fun r7 M6 => ?_)
        refine zx_aload_n (i := 1) (zd me_X1_liveMinutes 15 rfl) rfl 1 rfl ?_
        refine zx_iconst (v := 1) (zd me_X1_liveMinutes 16 rfl) (by decide) ?_
        refine zx_callVV1 (zd me_X1_liveMinutes 17 rfl) (mc_X3_pass (zl C) h1 (1 : Int32) M6) lk_X1_25 ⟨(Nat.le_of_ble_eq_true rfl), (Nat.le_of_ble_eq_true rfl)⟩ (Nat.le_of_ble_eq_true rfl) (zi3_c h1) rfl (fun r9 M8 => ?_)
        refine zx_iinc (v := 1) (ls' := [(4, .int (i4 + 1)), (0, .ref a0), (1, .ref a1), (2, .int i2)]) (zd me_X1_liveMinutes 18 rfl) (Nat.le_of_ble_eq_true rfl) 3 rfl (by decide) rfl ?_
        refine zx_goto (tgt := 8) (zd me_X1_liveMinutes 19 rfl) (by decide) ?_
        refine zx_loc [1, 2, 3, 0] rfl ?_
        exact ih i2 (i4 + 1) M8
def mf_X1_liveMinutes (R : zRR) (a0 : Nat) (a1 : Nat) (i2 : Int32) (i3 : Int32) (M : zMem) : Option (Int32 × zMem) :=
  zlet (zwI M a0 0 i3) fun M1 =>
  mf_X1_liveMinutes_l8 R a0 a1 zF i2 (0 : Int32) M1
theorem mc_X1_liveMinutes (l : Launch) {T : zTT} {R : zRR} {a0 : Nat} {a1 : Nat} (h0 : zi1 T R a0) (h1 : zi3 T R a1) (i2 : Int32) (i3 : Int32) (M : zMem) : zMS l yX1_liveMinutes mi_X1_liveMinutes zrvI (mf_X1_liveMinutes R a0 a1 i2 i3 M) [.ref a0, .ref a1, .int i2, .int i3] T R M := by
  refine zMS.of (by decide +kernel) rfl ⟨rfl, rfl⟩ (Nat.le_of_ble_eq_true rfl) (fun C ad _ => ?_)
  show zX C mi_X1_liveMinutes (zFin C zrvI ad T R) 0 0 (mf_X1_liveMinutes R a0 a1 i2 i3 M) 0 [(0, .ref a0), (1, .ref a1), (2, .int i2), (3, .int i3)] [] ad T R M
  unfold mf_X1_liveMinutes
  refine zx_aload_n (i := 0) (zd me_X1_liveMinutes 0 rfl) rfl 0 rfl ?_
  refine zx_iload_n (i := 3) (zd me_X1_liveMinutes 1 rfl) rfl 3 rfl ?_
  refine zx_putI (zd me_X1_liveMinutes 2 rfl) fp_X1_9 (zi1_c h0) rfl (fun M1 _ => ?_)
  refine zx_iconst (v := 0) (zd me_X1_liveMinutes 3 rfl) (by decide) ?_
  refine zx_istore (ls' := [(4, .int (0 : Int32)), (0, .ref a0), (1, .ref a1), (2, .int i2), (3, .int i3)]) (zd me_X1_liveMinutes 4 rfl) (Nat.le_of_ble_eq_true rfl) rfl ?_
  refine zx_loc [1, 2, 3, 0] rfl ?_
  exact mt_X1_liveMinutes_l8 h0 h1 zF i2 (0 : Int32) M1
def mf_X8_copyFrom (R : zRR) (a0 : Nat) (a1 : Nat) (M : zMem) : Option (Unit × zMem) :=
  zlet (zwI M a0 0 (M.1 a1 0)) fun M1 =>
  zlet (zwI M1 a0 1 (M1.1 a1 1)) fun M2 =>
  zlet (zrowI M2 (zrf R a0 2) (va_cpy (M2.1 (zrf R a1 2)) (M2.1 (zrf R a0 2)) (0 : Int32).toNatClampNeg (0 : Int32).toNatClampNeg (40 : Int32).toNatClampNeg)) fun M3 =>
  zlet (zrowI M3 (zrf R a0 3) (va_cpy (M3.1 (zrf R a1 3)) (M3.1 (zrf R a0 3)) (0 : Int32).toNatClampNeg (0 : Int32).toNatClampNeg (40 : Int32).toNatClampNeg)) fun M4 =>
  zlet (zrowI M4 (zrf R a0 4) (va_cpy (M4.1 (zrf R a1 4)) (M4.1 (zrf R a0 4)) (0 : Int32).toNatClampNeg (0 : Int32).toNatClampNeg (40 : Int32).toNatClampNeg)) fun M5 =>
  some ((), M5)
theorem mc_X8_copyFrom (l : Launch) {T : zTT} {R : zRR} {a0 : Nat} {a1 : Nat} (h0 : zi8 T R a0) (h1 : zi8 T R a1) (M : zMem) : zMS l yX8_copyFrom mi_X8_copyFrom zrvV (mf_X8_copyFrom R a0 a1 M) [.ref a0, .ref a1] T R M := by
  refine zMS.of (by decide +kernel) rfl ⟨rfl, rfl⟩ (Nat.le_of_ble_eq_true rfl) (fun C ad _ => ?_)
  show zX C mi_X8_copyFrom (zFin C zrvV ad T R) 0 0 (mf_X8_copyFrom R a0 a1 M) 0 [(0, .ref a0), (1, .ref a1)] [] ad T R M
  unfold mf_X8_copyFrom
  refine zx_aload_n (i := 0) (zd me_X8_copyFrom 0 rfl) rfl 0 rfl ?_
  refine zx_aload_n (i := 1) (zd me_X8_copyFrom 1 rfl) rfl 1 rfl ?_
  refine zx_getI (zd me_X8_copyFrom 2 rfl) fl_X8_24 (zi8_c h1) rfl ?_
  refine zx_putI (zd me_X8_copyFrom 3 rfl) fp_X8_24 (zi8_c h0) rfl (fun M1 _ => ?_)
  refine zx_aload_n (i := 0) (zd me_X8_copyFrom 4 rfl) rfl 0 rfl ?_
  refine zx_aload_n (i := 1) (zd me_X8_copyFrom 5 rfl) rfl 1 rfl ?_
  refine zx_getI (zd me_X8_copyFrom 6 rfl) fl_X8_28 (zi8_c h1) rfl ?_
  refine zx_putI (zd me_X8_copyFrom 7 rfl) fp_X8_28 (zi8_c h0) rfl (fun M2 _ => ?_)
  refine zx_aload_n (i := 1) (zd me_X8_copyFrom 8 rfl) rfl 1 rfl ?_
  refine zx_getR (zd me_X8_copyFrom 9 rfl) fl_X8_11 (zi8_c h1) rfl (zi8_r2 h1) ?_
  refine zx_iconst (v := 0) (zd me_X8_copyFrom 10 rfl) (by decide) ?_
  refine zx_aload_n (i := 0) (zd me_X8_copyFrom 11 rfl) rfl 0 rfl ?_
  refine zx_getR (zd me_X8_copyFrom 12 rfl) fl_X8_11 (zi8_c h0) rfl (zi8_r2 h0) ?_
  refine zx_iconst (v := 0) (zd me_X8_copyFrom 13 rfl) (by decide) ?_
  refine zx_bipush (v := 40) (zd me_X8_copyFrom 14 rfl) (by decide) ?_
  refine zx_copyI (zd me_X8_copyFrom 15 rfl) lk_X8_31 ⟨(Nat.le_of_ble_eq_true rfl), (Nat.le_of_ble_eq_true rfl)⟩ (zi8_t2 h1) (zi8_t2 h0) ⟨by decide, by decide, by decide, by decide, by decide⟩ (fun M3 => ?_)
  refine zx_aload_n (i := 1) (zd me_X8_copyFrom 16 rfl) rfl 1 rfl ?_
  refine zx_getR (zd me_X8_copyFrom 17 rfl) fl_X8_15 (zi8_c h1) rfl (zi8_r3 h1) ?_
  refine zx_iconst (v := 0) (zd me_X8_copyFrom 18 rfl) (by decide) ?_
  refine zx_aload_n (i := 0) (zd me_X8_copyFrom 19 rfl) rfl 0 rfl ?_
  refine zx_getR (zd me_X8_copyFrom 20 rfl) fl_X8_15 (zi8_c h0) rfl (zi8_r3 h0) ?_
  refine zx_iconst (v := 0) (zd me_X8_copyFrom 21 rfl) (by decide) ?_
  refine zx_bipush (v := 40) (zd me_X8_copyFrom 22 rfl) (by decide) ?_
  refine zx_copyI (zd me_X8_copyFrom 23 rfl) lk_X8_31 ⟨(Nat.le_of_ble_eq_true rfl), (Nat.le_of_ble_eq_true rfl)⟩ (zi8_t3 h1) (zi8_t3 h0) ⟨by decide, by decide, by decide, by decide, by decide⟩ (fun M4 => ?_)
  refine zx_aload_n (i := 1) (zd me_X8_copyFrom 24 rfl) rfl 1 rfl ?_
  refine zx_getR (zd me_X8_copyFrom 25 rfl) fl_X8_18 (zi8_c h1) rfl (zi8_r4 h1) ?_
  refine zx_iconst (v := 0) (zd me_X8_copyFrom 26 rfl) (by decide) ?_
  refine zx_aload_n (i := 0) (zd me_X8_copyFrom 27 rfl) rfl 0 rfl ?_
  refine zx_getR (zd me_X8_copyFrom 28 rfl) fl_X8_18 (zi8_c h0) rfl (zi8_r4 h0) ?_
  refine zx_iconst (v := 0) (zd me_X8_copyFrom 29 rfl) (by decide) ?_
  refine zx_bipush (v := 40) (zd me_X8_copyFrom 30 rfl) (by decide) ?_
  refine zx_copyI (zd me_X8_copyFrom 31 rfl) lk_X8_31 ⟨(Nat.le_of_ble_eq_true rfl), (Nat.le_of_ble_eq_true rfl)⟩ (zi8_t4 h1) (zi8_t4 h0) ⟨by decide, by decide, by decide, by decide, by decide⟩ (fun M5 => ?_)
  exact zx_vret (zd me_X8_copyFrom 32 rfl) rfl
def mf_X2_keep (R : zRR) (a0 : Nat) (a1 : Nat) (a2 : Nat) (a3 : Nat) (M : zMem) : Option (Unit × zMem) :=
  zcl (mf_X7_copyFrom R (zrf R a0 0) a1 M) fun _ M1 =>
  zcl (mf_X8_copyFrom R (zrf R a0 1) a3 M1) fun _ M3 =>
  zcl (mf_X3_putInto R a2 (zrf R a0 2) M3) fun _ M5 =>
  zlet (zwI M5 a0 3 (1 : Int32)) fun M7 =>
  some ((), M7)
theorem mc_X2_keep (l : Launch) {T : zTT} {R : zRR} {a0 : Nat} {a1 : Nat} {a2 : Nat} {a3 : Nat} (h0 : zi2 T R a0) (h1 : zi7 T R a1) (h2 : zi3 T R a2) (h3 : zi8 T R a3) (M : zMem) : zMS l yX2_keep mi_X2_keep zrvV (mf_X2_keep R a0 a1 a2 a3 M) [.ref a0, .ref a1, .ref a2, .ref a3] T R M := by
  refine zMS.of (by decide +kernel) rfl ⟨rfl, rfl⟩ (Nat.le_of_ble_eq_true rfl) (fun C ad _ => ?_)
  show zX C mi_X2_keep (zFin C zrvV ad T R) 0 0 (mf_X2_keep R a0 a1 a2 a3 M) 0 [(0, .ref a0), (1, .ref a1), (2, .ref a2), (3, .ref a3)] [] ad T R M
  unfold mf_X2_keep
  refine zx_aload_n (i := 0) (zd me_X2_keep 0 rfl) rfl 0 rfl ?_
  refine zx_getR (zd me_X2_keep 1 rfl) fl_X2_10 (zi2_c h0) rfl (zi2_r0 h0) ?_
  refine zx_aload_n (i := 1) (zd me_X2_keep 2 rfl) rfl 1 rfl ?_
  refine zx_callVV1 (zd me_X2_keep 3 rfl) (mc_X7_copyFrom (zl C) (zi2_t0 h0) h1 M) lk_X2_29 ⟨(Nat.le_of_ble_eq_true rfl), (Nat.le_of_ble_eq_true rfl)⟩ (Nat.le_of_ble_eq_true rfl) (zi7_c (zi2_t0 h0)) rfl (fun r2 M1 => ?_)
  refine zx_aload_n (i := 0) (zd me_X2_keep 4 rfl) rfl 0 rfl ?_
  refine zx_getR (zd me_X2_keep 5 rfl) fl_X2_19 (zi2_c h0) rfl (zi2_r1 h0) ?_
  refine zx_aload_n (i := 3) (zd me_X2_keep 6 rfl) rfl 3 rfl ?_
  refine zx_callVV1 (zd me_X2_keep 7 rfl) (mc_X8_copyFrom (zl C) (zi2_t1 h0) h3 M1) lk_X2_33 ⟨(Nat.le_of_ble_eq_true rfl), (Nat.le_of_ble_eq_true rfl)⟩ (Nat.le_of_ble_eq_true rfl) (zi8_c (zi2_t1 h0)) rfl (fun r4 M3 => ?_)
  refine zx_aload_n (i := 2) (zd me_X2_keep 8 rfl) rfl 2 rfl ?_
  refine zx_aload_n (i := 0) (zd me_X2_keep 9 rfl) rfl 0 rfl ?_
  refine zx_getR (zd me_X2_keep 10 rfl) fl_X2_25 (zi2_c h0) rfl (zi2_r2 h0) ?_
  refine zx_callVV1 (zd me_X2_keep 11 rfl) (mc_X3_putInto (zl C) h2 (zi2_t2 h0) M3) lk_X2_36 ⟨(Nat.le_of_ble_eq_true rfl), (Nat.le_of_ble_eq_true rfl)⟩ (Nat.le_of_ble_eq_true rfl) (zi3_c h2) rfl (fun r6 M5 => ?_)
  refine zx_aload_n (i := 0) (zd me_X2_keep 12 rfl) rfl 0 rfl ?_
  refine zx_iconst (v := 1) (zd me_X2_keep 13 rfl) (by decide) ?_
  refine zx_putZ (zd me_X2_keep 14 rfl) fp_X2_40 (zi2_c h0) rfl (Or.inr rfl) (fun M7 _ => ?_)
  exact zx_vret (zd me_X2_keep 15 rfl) rfl
def mf_X2_giveBack (R : zRR) (a0 : Nat) (a1 : Nat) (a2 : Nat) (a3 : Nat) (M : zMem) : Option (Unit × zMem) :=
  zcl (mf_X7_copyFrom R a1 (zrf R a0 0) M) fun _ M1 =>
  zcl (mf_X8_copyFrom R a3 (zrf R a0 1) M1) fun _ M3 =>
  zcl (mf_X3_takeFrom R a2 (zrf R a0 2) M3) fun _ M5 =>
  some ((), M5)
theorem mc_X2_giveBack (l : Launch) {T : zTT} {R : zRR} {a0 : Nat} {a1 : Nat} {a2 : Nat} {a3 : Nat} (h0 : zi2 T R a0) (h1 : zi7 T R a1) (h2 : zi3 T R a2) (h3 : zi8 T R a3) (M : zMem) : zMS l yX2_giveBack mi_X2_giveBack zrvV (mf_X2_giveBack R a0 a1 a2 a3 M) [.ref a0, .ref a1, .ref a2, .ref a3] T R M := by
  refine zMS.of (by decide +kernel) rfl ⟨rfl, rfl⟩ (Nat.le_of_ble_eq_true rfl) (fun C ad _ => ?_)
  show zX C mi_X2_giveBack (zFin C zrvV ad T R) 0 0 (mf_X2_giveBack R a0 a1 a2 a3 M) 0 [(0, .ref a0), (1, .ref a1), (2, .ref a2), (3, .ref a3)] [] ad T R M
  unfold mf_X2_giveBack
  refine zx_aload_n (i := 1) (zd me_X2_giveBack 0 rfl) rfl 1 rfl ?_
  refine zx_aload_n (i := 0) (zd me_X2_giveBack 1 rfl) rfl 0 rfl ?_
  refine zx_getR (zd me_X2_giveBack 2 rfl) fl_X2_10 (zi2_c h0) rfl (zi2_r0 h0) ?_
  refine zx_callVV1 (zd me_X2_giveBack 3 rfl) (mc_X7_copyFrom (zl C) h1 (zi2_t0 h0) M) lk_X2_29 ⟨(Nat.le_of_ble_eq_true rfl), (Nat.le_of_ble_eq_true rfl)⟩ (Nat.le_of_ble_eq_true rfl) (zi7_c h1) rfl (fun r2 M1 => ?_)
  refine zx_aload_n (i := 3) (zd me_X2_giveBack 4 rfl) rfl 3 rfl ?_
  refine zx_aload_n (i := 0) (zd me_X2_giveBack 5 rfl) rfl 0 rfl ?_
  refine zx_getR (zd me_X2_giveBack 6 rfl) fl_X2_19 (zi2_c h0) rfl (zi2_r1 h0) ?_
  refine zx_callVV1 (zd me_X2_giveBack 7 rfl) (mc_X8_copyFrom (zl C) h3 (zi2_t1 h0) M1) lk_X2_33 ⟨(Nat.le_of_ble_eq_true rfl), (Nat.le_of_ble_eq_true rfl)⟩ (Nat.le_of_ble_eq_true rfl) (zi8_c h3) rfl (fun r4 M3 => ?_)
  refine zx_aload_n (i := 2) (zd me_X2_giveBack 8 rfl) rfl 2 rfl ?_
  refine zx_aload_n (i := 0) (zd me_X2_giveBack 9 rfl) rfl 0 rfl ?_
  refine zx_getR (zd me_X2_giveBack 10 rfl) fl_X2_25 (zi2_c h0) rfl (zi2_r2 h0) ?_
  refine zx_callVV1 (zd me_X2_giveBack 11 rfl) (mc_X3_takeFrom (zl C) h2 (zi2_t2 h0) M3) lk_X2_44 ⟨(Nat.le_of_ble_eq_true rfl), (Nat.le_of_ble_eq_true rfl)⟩ (Nat.le_of_ble_eq_true rfl) (zi3_c h2) rfl (fun r6 M5 => ?_)
  exact zx_vret (zd me_X2_giveBack 12 rfl) rfl
def mf_X5_mark (R : zRR) (a0 : Nat) (a1 : Nat) (M : zMem) : Option (Unit × zMem) :=
  zald 9 (M.1 a0 1) fun j1 =>
  zcl (mf_X3_putInto R a1 (zrf R (zrf R a0 0) j1) M) fun _ M2 =>
  some ((), M2)
theorem mc_X5_mark (l : Launch) {T : zTT} {R : zRR} {a0 : Nat} {a1 : Nat} (h0 : zi5 T R a0) (h1 : zi3 T R a1) (M : zMem) : zMS l yX5_mark mi_X5_mark zrvV (mf_X5_mark R a0 a1 M) [.ref a0, .ref a1] T R M := by
  refine zMS.of (by decide +kernel) rfl ⟨rfl, rfl⟩ (Nat.le_of_ble_eq_true rfl) (fun C ad _ => ?_)
  show zX C mi_X5_mark (zFin C zrvV ad T R) 0 0 (mf_X5_mark R a0 a1 M) 0 [(0, .ref a0), (1, .ref a1)] [] ad T R M
  unfold mf_X5_mark
  refine zx_aload_n (i := 1) (zd me_X5_mark 0 rfl) rfl 1 rfl ?_
  refine zx_aload_n (i := 0) (zd me_X5_mark 1 rfl) rfl 0 rfl ?_
  refine zx_getR (zd me_X5_mark 2 rfl) fl_X5_15 (zi5_c h0) rfl (zi5_r0 h0) ?_
  refine zx_aload_n (i := 0) (zd me_X5_mark 3 rfl) rfl 0 rfl ?_
  refine zx_getI (zd me_X5_mark 4 rfl) fl_X5_18 (zi5_c h0) rfl ?_
  refine zx_aald5 (zd me_X5_mark 5 rfl) (zi5_t0 h0).1 (fun j h => ((zi5_t0 h0).2 j h).1) (fun j1 hj1 => ?_)
  refine zx_callVV1 (zd me_X5_mark 6 rfl) (mc_X3_putInto (zl C) h1 (((zi5_t0 h0).2 j1 hj1).2) M) lk_X5_22 ⟨(Nat.le_of_ble_eq_true rfl), (Nat.le_of_ble_eq_true rfl)⟩ (Nat.le_of_ble_eq_true rfl) (zi3_c h1) rfl (fun r3 M2 => ?_)
  exact zx_vret (zd me_X5_mark 7 rfl) rfl
def mf_X5_keepMarked_b22 (R : zRR) (a0 : Nat) (s0 : Int32) (M : zMem) : Option (Unit × zMem) :=
  zlet (zwI M a0 1 s0) fun M2 =>
  zlet (zwI M2 a0 2 (if (8 : Int32) < ((M2.1 a0 2) + (1 : Int32)) then (8 : Int32) else ((M2.1 a0 2) + (1 : Int32)))) fun M3 =>
  some ((), M3)
theorem mt_X5_keepMarked_b22 {C : zCx} {ad : Nat → Nat} {T : zTT} {R : zRR} {a0 : Nat} (h0 : zi5 T R a0) (s0 : Int32) (M : zMem) : zX C mi_X5_keepMarked (zFin C zrvV ad T R) 0 0 (mf_X5_keepMarked_b22 R a0 s0 M) 22 [(0, .ref a0)] [.int s0, .ref a0] ad T R M := by
  unfold mf_X5_keepMarked_b22
  refine zx_putI (zd me_X5_keepMarked 13 rfl) fp_X5_18 (zi5_c h0) rfl (fun M2 _ => ?_)
  refine zx_aload_n (i := 0) (zd me_X5_keepMarked 14 rfl) rfl 0 rfl ?_
  refine zx_aload_n (i := 0) (zd me_X5_keepMarked 15 rfl) rfl 0 rfl ?_
  refine zx_getI (zd me_X5_keepMarked 16 rfl) fl_X5_26 (zi5_c h0) rfl ?_
  refine zx_iconst (v := 1) (zd me_X5_keepMarked 17 rfl) (by decide) ?_
  refine zx_iadd (zd me_X5_keepMarked 18 rfl) ?_
  refine zx_bipush (v := 8) (zd me_X5_keepMarked 19 rfl) (by decide) ?_
  refine zx_mmin (zd me_X5_keepMarked 20 rfl) lk_X5_29 ⟨(Nat.le_of_ble_eq_true rfl), (Nat.le_of_ble_eq_true rfl)⟩ ?_
  refine zx_putI (zd me_X5_keepMarked 21 rfl) fp_X5_26 (zi5_c h0) rfl (fun M3 _ => ?_)
  exact zx_vret (zd me_X5_keepMarked 22 rfl) rfl
def mf_X5_keepMarked (R : zRR) (a0 : Nat) (M : zMem) : Option (Unit × zMem) :=
  if (9 : Int32) ≤ ((M.1 a0 1) + (1 : Int32)) then
    (mf_X5_keepMarked_b22 R a0 (0 : Int32) M)
  else
    (mf_X5_keepMarked_b22 R a0 ((M.1 a0 1) + (1 : Int32)) M)
theorem mc_X5_keepMarked (l : Launch) {T : zTT} {R : zRR} {a0 : Nat} (h0 : zi5 T R a0) (M : zMem) : zMS l yX5_keepMarked mi_X5_keepMarked zrvV (mf_X5_keepMarked R a0 M) [.ref a0] T R M := by
  refine zMS.of (by decide +kernel) rfl ⟨rfl, rfl⟩ (Nat.le_of_ble_eq_true rfl) (fun C ad _ => ?_)
  show zX C mi_X5_keepMarked (zFin C zrvV ad T R) 0 0 (mf_X5_keepMarked R a0 M) 0 [(0, .ref a0)] [] ad T R M
  unfold mf_X5_keepMarked
  refine zx_aload_n (i := 0) (zd me_X5_keepMarked 0 rfl) rfl 0 rfl ?_
  refine zx_aload_n (i := 0) (zd me_X5_keepMarked 1 rfl) rfl 0 rfl ?_
  refine zx_getI (zd me_X5_keepMarked 2 rfl) fl_X5_18 (zi5_c h0) rfl ?_
  refine zx_iconst (v := 1) (zd me_X5_keepMarked 3 rfl) (by decide) ?_
  refine zx_iadd (zd me_X5_keepMarked 4 rfl) ?_
  refine zx_bipush (v := 9) (zd me_X5_keepMarked 5 rfl) (by decide) ?_
  refine zx_icmp_ge (tgt := 21) (zd me_X5_keepMarked 6 rfl) (by decide) (fun c1 => ?_) (fun c1 => ?_)
  · refine zx_iconst (v := 0) (zd me_X5_keepMarked 12 rfl) (by decide) ?_
    exact mt_X5_keepMarked_b22 h0 (0 : Int32) M
  · refine zx_aload_n (i := 0) (zd me_X5_keepMarked 7 rfl) rfl 0 rfl ?_
    refine zx_getI (zd me_X5_keepMarked 8 rfl) fl_X5_18 (zi5_c h0) rfl ?_
    refine zx_iconst (v := 1) (zd me_X5_keepMarked 9 rfl) (by decide) ?_
    refine zx_iadd (zd me_X5_keepMarked 10 rfl) ?_
    refine zx_goto (tgt := 22) (zd me_X5_keepMarked 11 rfl) (by decide) ?_
    exact mt_X5_keepMarked_b22 h0 ((M.1 a0 1) + (1 : Int32)) M
def mf_X5_forget (R : zRR) (a0 : Nat) (M : zMem) : Option (Unit × zMem) :=
  zlet (zwI M a0 2 (0 : Int32)) fun M1 =>
  some ((), M1)
theorem mc_X5_forget (l : Launch) {T : zTT} {R : zRR} {a0 : Nat} (h0 : zi5 T R a0) (M : zMem) : zMS l yX5_forget mi_X5_forget zrvV (mf_X5_forget R a0 M) [.ref a0] T R M := by
  refine zMS.of (by decide +kernel) rfl ⟨rfl, rfl⟩ (Nat.le_of_ble_eq_true rfl) (fun C ad _ => ?_)
  show zX C mi_X5_forget (zFin C zrvV ad T R) 0 0 (mf_X5_forget R a0 M) 0 [(0, .ref a0)] [] ad T R M
  unfold mf_X5_forget
  refine zx_aload_n (i := 0) (zd me_X5_forget 0 rfl) rfl 0 rfl ?_
  refine zx_iconst (v := 0) (zd me_X5_forget 1 rfl) (by decide) ?_
  refine zx_putI (zd me_X5_forget 2 rfl) fp_X5_26 (zi5_c h0) rfl (fun M1 _ => ?_)
  exact zx_vret (zd me_X5_forget 3 rfl) rfl
def mf_X5_takeBack_b28 (R : zRR) (a0 : Nat) (a1 : Nat) (s0 : Int32) (M : zMem) : Option (Int32 × zMem) :=
  zlet (zwI M a0 1 s0) fun M3 =>
  zlet (zwI M3 a0 2 ((M3.1 a0 2) - (1 : Int32))) fun M4 =>
  zald 9 (M4.1 a0 1) fun j5 =>
  zcl (mf_X3_takeFrom R a1 (zrf R (zrf R a0 0) j5) M4) fun _ M6 =>
  some ((M6.1 a0 2), M6)
theorem mt_X5_takeBack_b28 {C : zCx} {ad : Nat → Nat} {T : zTT} {R : zRR} {a0 : Nat} {a1 : Nat} (h0 : zi5 T R a0) (h1 : zi3 T R a1) (s0 : Int32) (M : zMem) : zX C mi_X5_takeBack (zFin C zrvI ad T R) 0 0 (mf_X5_takeBack_b28 R a0 a1 s0 M) 28 [(0, .ref a0), (1, .ref a1)] [.int s0, .ref a0] ad T R M := by
  unfold mf_X5_takeBack_b28
  refine zx_putI (zd me_X5_takeBack 15 rfl) fp_X5_18 (zi5_c h0) rfl (fun M3 _ => ?_)
  refine zx_aload_n (i := 0) (zd me_X5_takeBack 16 rfl) rfl 0 rfl ?_
  refine zx_dup (zd me_X5_takeBack 17 rfl) rfl ?_
  refine zx_getI (zd me_X5_takeBack 18 rfl) fl_X5_26 (zi5_c h0) rfl ?_
  refine zx_iconst (v := 1) (zd me_X5_takeBack 19 rfl) (by decide) ?_
  refine zx_isub (zd me_X5_takeBack 20 rfl) ?_
  refine zx_putI (zd me_X5_takeBack 21 rfl) fp_X5_26 (zi5_c h0) rfl (fun M4 _ => ?_)
  refine zx_aload_n (i := 1) (zd me_X5_takeBack 22 rfl) rfl 1 rfl ?_
  refine zx_aload_n (i := 0) (zd me_X5_takeBack 23 rfl) rfl 0 rfl ?_
  refine zx_getR (zd me_X5_takeBack 24 rfl) fl_X5_15 (zi5_c h0) rfl (zi5_r0 h0) ?_
  refine zx_aload_n (i := 0) (zd me_X5_takeBack 25 rfl) rfl 0 rfl ?_
  refine zx_getI (zd me_X5_takeBack 26 rfl) fl_X5_18 (zi5_c h0) rfl ?_
  refine zx_aald5 (zd me_X5_takeBack 27 rfl) (zi5_t0 h0).1 (fun j h => ((zi5_t0 h0).2 j h).1) (fun j5 hj5 => ?_)
  refine zx_callVV1 (zd me_X5_takeBack 28 rfl) (mc_X3_takeFrom (zl C) h1 (((zi5_t0 h0).2 j5 hj5).2) M4) lk_X5_35 ⟨(Nat.le_of_ble_eq_true rfl), (Nat.le_of_ble_eq_true rfl)⟩ (Nat.le_of_ble_eq_true rfl) (zi3_c h1) rfl (fun r7 M6 => ?_)
  refine zx_aload_n (i := 0) (zd me_X5_takeBack 29 rfl) rfl 0 rfl ?_
  refine zx_getI (zd me_X5_takeBack 30 rfl) fl_X5_26 (zi5_c h0) rfl ?_
  exact zx_iret (zd me_X5_takeBack 31 rfl) rfl
def mf_X5_takeBack (R : zRR) (a0 : Nat) (a1 : Nat) (M : zMem) : Option (Int32 × zMem) :=
  if (M.1 a0 2) = 0 then
    (some ((-1 : Int32), M))
  else
    (if (M.1 a0 1) ≤ 0 then
      (mf_X5_takeBack_b28 R a0 a1 (8 : Int32) M)
    else
      (mf_X5_takeBack_b28 R a0 a1 ((M.1 a0 1) - (1 : Int32)) M))
theorem mc_X5_takeBack (l : Launch) {T : zTT} {R : zRR} {a0 : Nat} {a1 : Nat} (h0 : zi5 T R a0) (h1 : zi3 T R a1) (M : zMem) : zMS l yX5_takeBack mi_X5_takeBack zrvI (mf_X5_takeBack R a0 a1 M) [.ref a0, .ref a1] T R M := by
  refine zMS.of (by decide +kernel) rfl ⟨rfl, rfl⟩ (Nat.le_of_ble_eq_true rfl) (fun C ad _ => ?_)
  show zX C mi_X5_takeBack (zFin C zrvI ad T R) 0 0 (mf_X5_takeBack R a0 a1 M) 0 [(0, .ref a0), (1, .ref a1)] [] ad T R M
  unfold mf_X5_takeBack
  refine zx_aload_n (i := 0) (zd me_X5_takeBack 0 rfl) rfl 0 rfl ?_
  refine zx_getI (zd me_X5_takeBack 1 rfl) fl_X5_26 (zi5_c h0) rfl ?_
  refine zx_if_ne (tgt := 9) (zd me_X5_takeBack 2 rfl) (by decide) (fun c1 => ?_) (fun c1 => ?_)
  · refine zx_aload_n (i := 0) (zd me_X5_takeBack 5 rfl) rfl 0 rfl ?_
    refine zx_aload_n (i := 0) (zd me_X5_takeBack 6 rfl) rfl 0 rfl ?_
    refine zx_getI (zd me_X5_takeBack 7 rfl) fl_X5_18 (zi5_c h0) rfl ?_
    refine zx_if_le (tgt := 26) (zd me_X5_takeBack 8 rfl) (by decide) (fun c2 => ?_) (fun c2 => ?_)
    · refine zx_bipush (v := 8) (zd me_X5_takeBack 14 rfl) (by decide) ?_
      exact mt_X5_takeBack_b28 h0 h1 (8 : Int32) M
    · refine zx_aload_n (i := 0) (zd me_X5_takeBack 9 rfl) rfl 0 rfl ?_
      refine zx_getI (zd me_X5_takeBack 10 rfl) fl_X5_18 (zi5_c h0) rfl ?_
      refine zx_iconst (v := 1) (zd me_X5_takeBack 11 rfl) (by decide) ?_
      refine zx_isub (zd me_X5_takeBack 12 rfl) ?_
      refine zx_goto (tgt := 28) (zd me_X5_takeBack 13 rfl) (by decide) ?_
      exact mt_X5_takeBack_b28 h0 h1 ((M.1 a0 1) - (1 : Int32)) M
  · refine zx_iconst (v := (-1)) (zd me_X5_takeBack 3 rfl) (by decide) ?_
    exact zx_iret (zd me_X5_takeBack 4 rfl) rfl
def mf_X8_wipe (R : zRR) (a0 : Nat) (M : zMem) : Option (Unit × zMem) :=
  zlet (zwI M a0 0 (0 : Int32)) fun M1 =>
  zlet (zwI M1 a0 1 (0 : Int32)) fun M2 =>
  some ((), M2)
theorem mc_X8_wipe (l : Launch) {T : zTT} {R : zRR} {a0 : Nat} (h0 : zi8 T R a0) (M : zMem) : zMS l yX8_wipe mi_X8_wipe zrvV (mf_X8_wipe R a0 M) [.ref a0] T R M := by
  refine zMS.of (by decide +kernel) rfl ⟨rfl, rfl⟩ (Nat.le_of_ble_eq_true rfl) (fun C ad _ => ?_)
  show zX C mi_X8_wipe (zFin C zrvV ad T R) 0 0 (mf_X8_wipe R a0 M) 0 [(0, .ref a0)] [] ad T R M
  unfold mf_X8_wipe
  refine zx_aload_n (i := 0) (zd me_X8_wipe 0 rfl) rfl 0 rfl ?_
  refine zx_iconst (v := 0) (zd me_X8_wipe 1 rfl) (by decide) ?_
  refine zx_putI (zd me_X8_wipe 2 rfl) fp_X8_24 (zi8_c h0) rfl (fun M1 _ => ?_)
  refine zx_aload_n (i := 0) (zd me_X8_wipe 3 rfl) rfl 0 rfl ?_
  refine zx_iconst (v := 0) (zd me_X8_wipe 4 rfl) (by decide) ?_
  refine zx_putI (zd me_X8_wipe 5 rfl) fp_X8_28 (zi8_c h0) rfl (fun M2 _ => ?_)
  exact zx_vret (zd me_X8_wipe 6 rfl) rfl
def mf_X8_addStep (R : zRR) (a0 : Nat) (i1 : Int32) (i2 : Int32) (i3 : Int32) (M : zMem) : Option (Int32 × zMem) :=
  if (M.1 a0 1) < (40 : Int32) then
    (zald 40 (M.1 a0 1) fun j2 =>
    zlet (zwI M (zrf R a0 2) j2 i1) fun M3 =>
    zald 40 (M3.1 a0 1) fun j4 =>
    zlet (zwI M3 (zrf R a0 3) j4 i2) fun M5 =>
    zald 40 (M5.1 a0 1) fun j6 =>
    zlet (zwI M5 (zrf R a0 4) j6 i3) fun M7 =>
    zlet (zwI M7 a0 1 ((M7.1 a0 1) + (1 : Int32))) fun M8 =>
    some ((1 : Int32), M8))
  else
    (some ((0 : Int32), M))
theorem mc_X8_addStep (l : Launch) {T : zTT} {R : zRR} {a0 : Nat} (h0 : zi8 T R a0) (i1 : Int32) (i2 : Int32) (i3 : Int32) (M : zMem) : zMS l yX8_addStep mi_X8_addStep zrvI (mf_X8_addStep R a0 i1 i2 i3 M) [.ref a0, .int i1, .int i2, .int i3] T R M := by
  refine zMS.of (by decide +kernel) rfl ⟨rfl, rfl⟩ (Nat.le_of_ble_eq_true rfl) (fun C ad _ => ?_)
  show zX C mi_X8_addStep (zFin C zrvI ad T R) 0 0 (mf_X8_addStep R a0 i1 i2 i3 M) 0 [(0, .ref a0), (1, .int i1), (2, .int i2), (3, .int i3)] [] ad T R M
  unfold mf_X8_addStep
  refine zx_aload_n (i := 0) (zd me_X8_addStep 0 rfl) rfl 0 rfl ?_
  refine zx_getI (zd me_X8_addStep 1 rfl) fl_X8_28 (zi8_c h0) rfl ?_
  refine zx_bipush (v := 40) (zd me_X8_addStep 2 rfl) (by decide) ?_
  refine zx_icmp_lt (tgt := 11) (zd me_X8_addStep 3 rfl) (by decide) (fun c1 => ?_) (fun c1 => ?_)
  · refine zx_aload_n (i := 0) (zd me_X8_addStep 6 rfl) rfl 0 rfl ?_
    refine zx_getR (zd me_X8_addStep 7 rfl) fl_X8_11 (zi8_c h0) rfl (zi8_r2 h0) ?_
    refine zx_aload_n (i := 0) (zd me_X8_addStep 8 rfl) rfl 0 rfl ?_
    refine zx_getI (zd me_X8_addStep 9 rfl) fl_X8_28 (zi8_c h0) rfl ?_
    refine zx_iload_n (i := 1) (zd me_X8_addStep 10 rfl) rfl 1 rfl ?_
    refine zx_iast (zd me_X8_addStep 11 rfl) (zi8_t2 h0) (fun M3 => ?_)
    refine zx_aload_n (i := 0) (zd me_X8_addStep 12 rfl) rfl 0 rfl ?_
    refine zx_getR (zd me_X8_addStep 13 rfl) fl_X8_15 (zi8_c h0) rfl (zi8_r3 h0) ?_
    refine zx_aload_n (i := 0) (zd me_X8_addStep 14 rfl) rfl 0 rfl ?_
    refine zx_getI (zd me_X8_addStep 15 rfl) fl_X8_28 (zi8_c h0) rfl ?_
    refine zx_iload_n (i := 2) (zd me_X8_addStep 16 rfl) rfl 2 rfl ?_
    refine zx_iast (zd me_X8_addStep 17 rfl) (zi8_t3 h0) (fun M5 => ?_)
    refine zx_aload_n (i := 0) (zd me_X8_addStep 18 rfl) rfl 0 rfl ?_
    refine zx_getR (zd me_X8_addStep 19 rfl) fl_X8_18 (zi8_c h0) rfl (zi8_r4 h0) ?_
    refine zx_aload_n (i := 0) (zd me_X8_addStep 20 rfl) rfl 0 rfl ?_
    refine zx_getI (zd me_X8_addStep 21 rfl) fl_X8_28 (zi8_c h0) rfl ?_
    refine zx_iload_n (i := 3) (zd me_X8_addStep 22 rfl) rfl 3 rfl ?_
    refine zx_iast (zd me_X8_addStep 23 rfl) (zi8_t4 h0) (fun M7 => ?_)
    refine zx_aload_n (i := 0) (zd me_X8_addStep 24 rfl) rfl 0 rfl ?_
    refine zx_dup (zd me_X8_addStep 25 rfl) rfl ?_
    refine zx_getI (zd me_X8_addStep 26 rfl) fl_X8_28 (zi8_c h0) rfl ?_
    refine zx_iconst (v := 1) (zd me_X8_addStep 27 rfl) (by decide) ?_
    refine zx_iadd (zd me_X8_addStep 28 rfl) ?_
    refine zx_putI (zd me_X8_addStep 29 rfl) fp_X8_28 (zi8_c h0) rfl (fun M8 _ => ?_)
    refine zx_iconst (v := 1) (zd me_X8_addStep 30 rfl) (by decide) ?_
    exact zx_zret (zd me_X8_addStep 31 rfl) rfl rfl
  · refine zx_iconst (v := 0) (zd me_X8_addStep 4 rfl) (by decide) ?_
    exact zx_zret (zd me_X8_addStep 5 rfl) rfl rfl
def mf_X8_readSaying_b81 (R : zRR) (a0 : Nat) (a1 : Nat) (a2 : Nat) (i3 : Int32) (i4 : Int32) (i5 : Int32) (M : zMem) : Option (Int32 × zMem) :=
  if i4 = (-1 : Int32) then
    (some ((0 : Int32), M))
  else
    (if i5 = (-1 : Int32) then
      (some ((0 : Int32), M))
    else
      (zcl (mf_X8_addStep R a0 i3 i4 i5 M) fun r16 M15 =>
      if r16 = 0 then
        (some ((0 : Int32), M15))
      else
        (some ((1 : Int32), M15))))
theorem mt_X8_readSaying_b81 {C : zCx} {ad : Nat → Nat} {T : zTT} {R : zRR} {a0 : Nat} {a1 : Nat} {a2 : Nat} (h0 : zi8 T R a0) (h1 : zi10 T R a1) (h2 : zi7 T R a2) (i3 : Int32) (i4 : Int32) (i5 : Int32) (M : zMem) : zX C mi_X8_readSaying (zFin C zrvI ad T R) 0 0 (mf_X8_readSaying_b81 R a0 a1 a2 i3 i4 i5 M) 81 [(0, .ref a0), (3, .int i3), (4, .int i4), (5, .int i5)] [] ad T R M := by
  unfold mf_X8_readSaying_b81
  refine zx_iload (zd me_X8_readSaying 42 rfl) 2 rfl ?_
  refine zx_iconst (v := (-1)) (zd me_X8_readSaying 43 rfl) (by decide) ?_
  refine zx_icmp_eq (tgt := 109) (zd me_X8_readSaying 44 rfl) (by decide) (fun c13 => ?_) (fun c13 => ?_)
  · refine zx_iconst (v := 0) (zd me_X8_readSaying 56 rfl) (by decide) ?_
    exact zx_zret (zd me_X8_readSaying 57 rfl) rfl rfl
  · refine zx_iload (zd me_X8_readSaying 45 rfl) 3 rfl ?_
    refine zx_iconst (v := (-1)) (zd me_X8_readSaying 46 rfl) (by decide) ?_
    refine zx_icmp_eq (tgt := 109) (zd me_X8_readSaying 47 rfl) (by decide) (fun c14 => ?_) (fun c14 => ?_)
    · refine zx_iconst (v := 0) (zd me_X8_readSaying 56 rfl) (by decide) ?_
      exact zx_zret (zd me_X8_readSaying 57 rfl) rfl rfl
    · refine zx_aload_n (i := 0) (zd me_X8_readSaying 48 rfl) rfl 0 rfl ?_
      refine zx_iload_n (i := 3) (zd me_X8_readSaying 49 rfl) rfl 1 rfl ?_
      refine zx_iload (zd me_X8_readSaying 50 rfl) 2 rfl ?_
      refine zx_iload (zd me_X8_readSaying 51 rfl) 3 rfl ?_
      refine zx_callVI3 (zd me_X8_readSaying 52 rfl) (mc_X8_addStep (zl C) h0 i3 i4 i5 M) lk_X8_64 ⟨(Nat.le_of_ble_eq_true rfl), (Nat.le_of_ble_eq_true rfl)⟩ (Nat.le_of_ble_eq_true rfl) (zi8_c h0) rfl (fun r16 M15 => ?_)
      refine zx_if_eq (tgt := 109) (zd me_X8_readSaying 53 rfl) (by decide) (fun c17 => ?_) (fun c17 => ?_)
      · refine zx_iconst (v := 0) (zd me_X8_readSaying 56 rfl) (by decide) ?_
        exact zx_zret (zd me_X8_readSaying 57 rfl) rfl rfl
      · refine zx_iconst (v := 1) (zd me_X8_readSaying 54 rfl) (by decide) ?_
        refine zx_goto (tgt := 110) (zd me_X8_readSaying 55 rfl) (by decide) ?_
        exact zx_zret (zd me_X8_readSaying 57 rfl) rfl rfl
def mf_X8_readSaying_b79 (R : zRR) (a0 : Nat) (a1 : Nat) (a2 : Nat) (i3 : Int32) (i4 : Int32) (s0 : Int32) (M : zMem) : Option (Int32 × zMem) :=
  mf_X8_readSaying_b81 R a0 a1 a2 i3 i4 s0 M
theorem mt_X8_readSaying_b79 {C : zCx} {ad : Nat → Nat} {T : zTT} {R : zRR} {a0 : Nat} {a1 : Nat} {a2 : Nat} (h0 : zi8 T R a0) (h1 : zi10 T R a1) (h2 : zi7 T R a2) (i3 : Int32) (i4 : Int32) (s0 : Int32) (M : zMem) : zX C mi_X8_readSaying (zFin C zrvI ad T R) 0 0 (mf_X8_readSaying_b79 R a0 a1 a2 i3 i4 s0 M) 79 [(0, .ref a0), (3, .int i3), (4, .int i4)] [.int s0] ad T R M := by
  unfold mf_X8_readSaying_b79
  refine zx_istore (ls' := [(5, .int s0), (0, .ref a0), (3, .int i3), (4, .int i4)]) (zd me_X8_readSaying 41 rfl) (Nat.le_of_ble_eq_true rfl) rfl ?_
  refine zx_loc [1, 2, 3, 0] rfl ?_
  exact mt_X8_readSaying_b81 h0 h1 h2 i3 i4 s0 M
def mf_X8_readSaying (R : zRR) (a0 : Nat) (a1 : Nat) (a2 : Nat) (i3 : Int32) (M : zMem) : Option (Int32 × zMem) :=
  if i3 = (18 : Int32) then
    (zcl (mf_X7_passKnown R a2 a1 (0 : Int32) (M.1 a2 0) M) fun r12 M11 =>
    mf_X8_readSaying_b81 R a0 a1 a2 i3 r12 (0 : Int32) M11)
  else
    (if i3 = (19 : Int32) then
      (zcl (mf_X7_passKnown R a2 a1 (6 : Int32) (M.1 a2 1) M) fun r10 M9 =>
      mf_X8_readSaying_b81 R a0 a1 a2 i3 r10 (0 : Int32) M9)
    else
      (if i3 < (20 : Int32) then
        (mf_X8_readSaying_b81 R a0 a1 a2 i3 (0 : Int32) (0 : Int32) M)
      else
        (zcl (mf_X10_passComparing R a1 M) fun r5 M4 =>
        if r5 = (-1 : Int32) then
          (mf_X8_readSaying_b79 R a0 a1 a2 i3 r5 (-1 : Int32) M4)
        else
          (zcl (mf_X10_passNumber R a1 (0 : Int32) (999 : Int32) M4) fun r8 M7 =>
          mf_X8_readSaying_b79 R a0 a1 a2 i3 r5 r8 M7))))
theorem mc_X8_readSaying (l : Launch) {T : zTT} {R : zRR} {a0 : Nat} {a1 : Nat} {a2 : Nat} (h0 : zi8 T R a0) (h1 : zi10 T R a1) (h2 : zi7 T R a2) (i3 : Int32) (M : zMem) : zMS l yX8_readSaying mi_X8_readSaying zrvI (mf_X8_readSaying R a0 a1 a2 i3 M) [.ref a0, .ref a1, .ref a2, .int i3] T R M := by
  refine zMS.of (by decide +kernel) rfl ⟨rfl, rfl⟩ (Nat.le_of_ble_eq_true rfl) (fun C ad _ => ?_)
  show zX C mi_X8_readSaying (zFin C zrvI ad T R) 0 0 (mf_X8_readSaying R a0 a1 a2 i3 M) 0 [(0, .ref a0), (1, .ref a1), (2, .ref a2), (3, .int i3)] [] ad T R M
  unfold mf_X8_readSaying
  refine zx_iconst (v := 0) (zd me_X8_readSaying 0 rfl) (by decide) ?_
  refine zx_istore (ls' := [(4, .int (0 : Int32)), (0, .ref a0), (1, .ref a1), (2, .ref a2), (3, .int i3)]) (zd me_X8_readSaying 1 rfl) (Nat.le_of_ble_eq_true rfl) rfl ?_
  refine zx_iconst (v := 0) (zd me_X8_readSaying 2 rfl) (by decide) ?_
  refine zx_istore (ls' := [(5, .int (0 : Int32)), (4, .int (0 : Int32)), (0, .ref a0), (1, .ref a1), (2, .ref a2), (3, .int i3)]) (zd me_X8_readSaying 3 rfl) (Nat.le_of_ble_eq_true rfl) rfl ?_
  refine zx_iload_n (i := 3) (zd me_X8_readSaying 4 rfl) rfl 5 rfl ?_
  refine zx_bipush (v := 18) (zd me_X8_readSaying 5 rfl) (by decide) ?_
  refine zx_icmp_ne (tgt := 27) (zd me_X8_readSaying 6 rfl) (by decide) (fun c1 => ?_) (fun c1 => ?_)
  · refine zx_iload_n (i := 3) (zd me_X8_readSaying 15 rfl) rfl 5 rfl ?_
    refine zx_bipush (v := 19) (zd me_X8_readSaying 16 rfl) (by decide) ?_
    refine zx_icmp_ne (tgt := 49) (zd me_X8_readSaying 17 rfl) (by decide) (fun c2 => ?_) (fun c2 => ?_)
    · refine zx_iload_n (i := 3) (zd me_X8_readSaying 26 rfl) rfl 5 rfl ?_
      refine zx_bipush (v := 20) (zd me_X8_readSaying 27 rfl) (by decide) ?_
      refine zx_icmp_lt (tgt := 81) (zd me_X8_readSaying 28 rfl) (by decide) (fun c3 => ?_) (fun c3 => ?_)
      · refine zx_loc [2, 5, 1, 0] rfl ?_
        exact mt_X8_readSaying_b81 h0 h1 h2 i3 (0 : Int32) (0 : Int32) M
      · refine zx_aload_n (i := 1) (zd me_X8_readSaying 29 rfl) rfl 3 rfl ?_
        refine zx_callVI0 (zd me_X8_readSaying 30 rfl) (mc_X10_passComparing (zl C) h1 M) lk_X8_92 ⟨(Nat.le_of_ble_eq_true rfl), (Nat.le_of_ble_eq_true rfl)⟩ (Nat.le_of_ble_eq_true rfl) (zi10_c h1) rfl (fun r5 M4 => ?_)
        refine zx_istore (ls' := [(4, .int r5), (5, .int (0 : Int32)), (0, .ref a0), (1, .ref a1), (2, .ref a2), (3, .int i3)]) (zd me_X8_readSaying 31 rfl) (Nat.le_of_ble_eq_true rfl) rfl ?_
        refine zx_iload (zd me_X8_readSaying 32 rfl) 0 rfl ?_
        refine zx_iconst (v := (-1)) (zd me_X8_readSaying 33 rfl) (by decide) ?_
        refine zx_icmp_ne (tgt := 71) (zd me_X8_readSaying 34 rfl) (by decide) (fun c6 => ?_) (fun c6 => ?_)
        · refine zx_aload_n (i := 1) (zd me_X8_readSaying 37 rfl) rfl 3 rfl ?_
          refine zx_iconst (v := 0) (zd me_X8_readSaying 38 rfl) (by decide) ?_
          refine zx_sipush (v := 999) (zd me_X8_readSaying 39 rfl) (by decide) ?_
          refine zx_callVI2 (zd me_X8_readSaying 40 rfl) (mc_X10_passNumber (zl C) h1 (0 : Int32) (999 : Int32) M4) lk_X8_96 ⟨(Nat.le_of_ble_eq_true rfl), (Nat.le_of_ble_eq_true rfl)⟩ (Nat.le_of_ble_eq_true rfl) (zi10_c h1) rfl (fun r8 M7 => ?_)
          refine zx_loc [2, 5, 0] rfl ?_
          exact mt_X8_readSaying_b79 h0 h1 h2 i3 r5 r8 M7
        · refine zx_iconst (v := (-1)) (zd me_X8_readSaying 35 rfl) (by decide) ?_
          refine zx_goto (tgt := 79) (zd me_X8_readSaying 36 rfl) (by decide) ?_
          refine zx_loc [2, 5, 0] rfl ?_
          exact mt_X8_readSaying_b79 h0 h1 h2 i3 r5 (-1 : Int32) M4
    · refine zx_aload_n (i := 2) (zd me_X8_readSaying 18 rfl) rfl 4 rfl ?_
      refine zx_aload_n (i := 1) (zd me_X8_readSaying 19 rfl) rfl 3 rfl ?_
      refine zx_bipush (v := 6) (zd me_X8_readSaying 20 rfl) (by decide) ?_
      refine zx_aload_n (i := 2) (zd me_X8_readSaying 21 rfl) rfl 4 rfl ?_
      refine zx_getI (zd me_X8_readSaying 22 rfl) fl_X8_89 (zi7_c h2) rfl ?_
      refine zx_callVI3 (zd me_X8_readSaying 23 rfl) (mc_X7_passKnown (zl C) h2 h1 (6 : Int32) (M.1 a2 1) M) lk_X8_85 ⟨(Nat.le_of_ble_eq_true rfl), (Nat.le_of_ble_eq_true rfl)⟩ (Nat.le_of_ble_eq_true rfl) (zi7_c h2) rfl (fun r10 M9 => ?_)
      refine zx_istore (ls' := [(4, .int r10), (5, .int (0 : Int32)), (0, .ref a0), (1, .ref a1), (2, .ref a2), (3, .int i3)]) (zd me_X8_readSaying 24 rfl) (Nat.le_of_ble_eq_true rfl) rfl ?_
      refine zx_goto (tgt := 81) (zd me_X8_readSaying 25 rfl) (by decide) ?_
      refine zx_loc [2, 5, 0, 1] rfl ?_
      exact mt_X8_readSaying_b81 h0 h1 h2 i3 r10 (0 : Int32) M9
  · refine zx_aload_n (i := 2) (zd me_X8_readSaying 7 rfl) rfl 4 rfl ?_
    refine zx_aload_n (i := 1) (zd me_X8_readSaying 8 rfl) rfl 3 rfl ?_
    refine zx_iconst (v := 0) (zd me_X8_readSaying 9 rfl) (by decide) ?_
    refine zx_aload_n (i := 2) (zd me_X8_readSaying 10 rfl) rfl 4 rfl ?_
    refine zx_getI (zd me_X8_readSaying 11 rfl) fl_X8_82 (zi7_c h2) rfl ?_
    refine zx_callVI3 (zd me_X8_readSaying 12 rfl) (mc_X7_passKnown (zl C) h2 h1 (0 : Int32) (M.1 a2 0) M) lk_X8_85 ⟨(Nat.le_of_ble_eq_true rfl), (Nat.le_of_ble_eq_true rfl)⟩ (Nat.le_of_ble_eq_true rfl) (zi7_c h2) rfl (fun r12 M11 => ?_)
    refine zx_istore (ls' := [(4, .int r12), (5, .int (0 : Int32)), (0, .ref a0), (1, .ref a1), (2, .ref a2), (3, .int i3)]) (zd me_X8_readSaying 13 rfl) (Nat.le_of_ble_eq_true rfl) rfl ?_
    refine zx_goto (tgt := 81) (zd me_X8_readSaying 14 rfl) (by decide) ?_
    refine zx_loc [2, 5, 0, 1] rfl ?_
    exact mt_X8_readSaying_b81 h0 h1 h2 i3 r12 (0 : Int32) M11
def mf_X8_readCond_b112 (R : zRR) (F_readCond : zRR → Nat → Nat → Nat → Int32 → zMem → Option (Int32 × zMem)) (F_readOne : zRR → Nat → Nat → Nat → Int32 → zMem → Option (Int32 × zMem)) (a0 : Nat) (a1 : Nat) (a2 : Nat) (H18 : Int32 → Int32 → Int32 → zMem → Option (Int32 × zMem)) (i3 : Int32) (i4 : Int32) (i5 : Int32) (M : zMem) : Option (Int32 × zMem) :=
  H18 i3 i4 (i5 + 1) M
theorem mt_X8_readCond_b112 {d : Nat} {C : zCx} {ad : Nat → Nat} {T : zTT} {R : zRR} {F_readCond : zRR → Nat → Nat → Nat → Int32 → zMem → Option (Int32 × zMem)} {F_readOne : zRR → Nat → Nat → Nat → Int32 → zMem → Option (Int32 × zMem)} {a0 : Nat} {a1 : Nat} {a2 : Nat} (hF_readCond : ∀ (l : Launch) {a0 : Nat} {a1 : Nat} {a2 : Nat} (h0 : zi8 T R a0) (h1 : zi10 T R a1) (h2 : zi7 T R a2) (i3 : Int32) (M : zMem), zMS l yX8_readCond (mi_X8_readCond d) zrvI (F_readCond R a0 a1 a2 i3 M) [.ref a0, .ref a1, .ref a2, .int i3] T R M) (hF_readOne : ∀ (l : Launch) {a0 : Nat} {a1 : Nat} {a2 : Nat} (h0 : zi8 T R a0) (h1 : zi10 T R a1) (h2 : zi7 T R a2) (i3 : Int32) (M : zMem), zMS l yX8_readOne (mi_X8_readOne d) zrvI (F_readOne R a0 a1 a2 i3 M) [.ref a0, .ref a1, .ref a2, .int i3] T R M) (h0 : zi8 T R a0) (h1 : zi10 T R a1) (h2 : zi7 T R a2) {H18 : Int32 → Int32 → Int32 → zMem → Option (Int32 × zMem)} (hH18 : ∀ (i3 : Int32) (i4 : Int32) (i5 : Int32) (M : zMem), zX C (mi_X8_readCond (d + 1)) (zFin C zrvI ad T R) 0 0 (H18 i3 i4 i5 M) 18 [(0, .ref a0), (1, .ref a1), (2, .ref a2), (3, .int i3), (4, .int i4), (5, .int i5)] [] ad T R M) (i3 : Int32) (i4 : Int32) (i5 : Int32) (M : zMem) : zX C (mi_X8_readCond (d + 1)) (zFin C zrvI ad T R) 0 0 (mf_X8_readCond_b112 R F_readCond F_readOne a0 a1 a2 H18 i3 i4 i5 M) 112 [(0, .ref a0), (1, .ref a1), (2, .ref a2), (3, .int i3), (4, .int i4), (5, .int i5)] [] ad T R M := by
  unfold mf_X8_readCond_b112
  refine zx_iinc (v := 1) (ls' := [(5, .int (i5 + 1)), (0, .ref a0), (1, .ref a1), (2, .ref a2), (3, .int i3), (4, .int i4)]) (zd me_X8_readCond 62 rfl) (Nat.le_of_ble_eq_true rfl) 5 rfl (by decide) rfl ?_
  refine zx_goto (tgt := 18) (zd me_X8_readCond 63 rfl) (by decide) ?_
  refine zx_loc [1, 2, 3, 4, 5, 0] rfl ?_
  exact hH18 i3 i4 (i5 + 1) M
def mf_X8_readCond_b76 (R : zRR) (F_readCond : zRR → Nat → Nat → Nat → Int32 → zMem → Option (Int32 × zMem)) (F_readOne : zRR → Nat → Nat → Nat → Int32 → zMem → Option (Int32 × zMem)) (a0 : Nat) (a1 : Nat) (a2 : Nat) (H18 : Int32 → Int32 → Int32 → zMem → Option (Int32 × zMem)) (i3 : Int32) (i4 : Int32) (i5 : Int32) (i6 : Int32) (M : zMem) : Option (Int32 × zMem) :=
  zcl (mf_X10_next R a1 M) fun _ M14 =>
  zcl (F_readOne R a0 a1 a2 i3 M14) fun r17 M16 =>
  if r17 = 0 then
    (some ((0 : Int32), M16))
  else
    (if i6 = 0 then
      (mf_X8_readCond_b112 R F_readCond F_readOne a0 a1 a2 H18 i3 (1 : Int32) i5 M16)
    else
      (zcl (mf_X8_addStep R a0 (12 : Int32) (0 : Int32) (0 : Int32) M16) fun r21 M20 =>
      mf_X8_readCond_b112 R F_readCond F_readOne a0 a1 a2 H18 i3 i4 i5 M20))
theorem mt_X8_readCond_b76 {d : Nat} {C : zCx} {ad : Nat → Nat} {T : zTT} {R : zRR} {F_readCond : zRR → Nat → Nat → Nat → Int32 → zMem → Option (Int32 × zMem)} {F_readOne : zRR → Nat → Nat → Nat → Int32 → zMem → Option (Int32 × zMem)} {a0 : Nat} {a1 : Nat} {a2 : Nat} (hF_readCond : ∀ (l : Launch) {a0 : Nat} {a1 : Nat} {a2 : Nat} (h0 : zi8 T R a0) (h1 : zi10 T R a1) (h2 : zi7 T R a2) (i3 : Int32) (M : zMem), zMS l yX8_readCond (mi_X8_readCond d) zrvI (F_readCond R a0 a1 a2 i3 M) [.ref a0, .ref a1, .ref a2, .int i3] T R M) (hF_readOne : ∀ (l : Launch) {a0 : Nat} {a1 : Nat} {a2 : Nat} (h0 : zi8 T R a0) (h1 : zi10 T R a1) (h2 : zi7 T R a2) (i3 : Int32) (M : zMem), zMS l yX8_readOne (mi_X8_readOne d) zrvI (F_readOne R a0 a1 a2 i3 M) [.ref a0, .ref a1, .ref a2, .int i3] T R M) (h0 : zi8 T R a0) (h1 : zi10 T R a1) (h2 : zi7 T R a2) {H18 : Int32 → Int32 → Int32 → zMem → Option (Int32 × zMem)} (hH18 : ∀ (i3 : Int32) (i4 : Int32) (i5 : Int32) (M : zMem), zX C (mi_X8_readCond (d + 1)) (zFin C zrvI ad T R) 0 0 (H18 i3 i4 i5 M) 18 [(0, .ref a0), (1, .ref a1), (2, .ref a2), (3, .int i3), (4, .int i4), (5, .int i5)] [] ad T R M) (i3 : Int32) (i4 : Int32) (i5 : Int32) (i6 : Int32) (M : zMem) : zX C (mi_X8_readCond (d + 1)) (zFin C zrvI ad T R) 0 0 (mf_X8_readCond_b76 R F_readCond F_readOne a0 a1 a2 H18 i3 i4 i5 i6 M) 76 [(0, .ref a0), (1, .ref a1), (2, .ref a2), (3, .int i3), (4, .int i4), (5, .int i5), (6, .int i6)] [] ad T R M := by
  unfold mf_X8_readCond_b76
  refine zx_aload_n (i := 1) (zd me_X8_readCond 41 rfl) rfl 1 rfl ?_
  refine zx_callVV0 (zd me_X8_readCond 42 rfl) (mc_X10_next (zl C) h1 M) lk_X8_68 ⟨Nat.le_trans (m := 5) (Nat.le_of_ble_eq_true rfl) (Nat.le_add_right 5 _), Nat.le_trans (m := 122) (Nat.le_of_ble_eq_true rfl) (Nat.le_add_right 122 _)⟩ (Nat.le_of_ble_eq_true rfl) (zi10_c h1) rfl (fun r15 M14 => ?_)
  refine zx_aload_n (i := 0) (zd me_X8_readCond 43 rfl) rfl 0 rfl ?_
  refine zx_aload_n (i := 1) (zd me_X8_readCond 44 rfl) rfl 1 rfl ?_
  refine zx_aload_n (i := 2) (zd me_X8_readCond 45 rfl) rfl 2 rfl ?_
  refine zx_iload_n (i := 3) (zd me_X8_readCond 46 rfl) rfl 3 rfl ?_
  refine zx_callVI3 (zd me_X8_readCond 47 rfl) (hF_readOne (zl C) h0 h1 h2 i3 M14) (lk_X8_58 d) ⟨Nat.le_refl _, by show 8 + (6 + 11) + (122 + 26 * d) ≤ 122 + 26 * (d + 1); omega⟩ (Nat.le_of_ble_eq_true rfl) (zi8_c h0) rfl (fun r17 M16 => ?_)
  refine zx_if_ne (tgt := 92) (zd me_X8_readCond 48 rfl) (by decide) (fun c18 => ?_) (fun c18 => ?_)
  · refine zx_iload (zd me_X8_readCond 51 rfl) 6 rfl ?_
    refine zx_if_eq (tgt := 109) (zd me_X8_readCond 52 rfl) (by decide) (fun c19 => ?_) (fun c19 => ?_)
    · refine zx_iconst (v := 1) (zd me_X8_readCond 60 rfl) (by decide) ?_
      refine zx_istore (ls' := [(4, .int (1 : Int32)), (0, .ref a0), (1, .ref a1), (2, .ref a2), (3, .int i3), (5, .int i5), (6, .int i6)]) (zd me_X8_readCond 61 rfl) (Nat.le_of_ble_eq_true rfl) rfl ?_
      refine zx_loc [1, 2, 3, 4, 0, 5] rfl ?_
      exact mt_X8_readCond_b112 hF_readCond hF_readOne h0 h1 h2 hH18 i3 (1 : Int32) i5 M16
    · refine zx_aload_n (i := 0) (zd me_X8_readCond 53 rfl) rfl 0 rfl ?_
      refine zx_bipush (v := 12) (zd me_X8_readCond 54 rfl) (by decide) ?_
      refine zx_iconst (v := 0) (zd me_X8_readCond 55 rfl) (by decide) ?_
      refine zx_iconst (v := 0) (zd me_X8_readCond 56 rfl) (by decide) ?_
      refine zx_callVI3 (zd me_X8_readCond 57 rfl) (mc_X8_addStep (zl C) h0 (12 : Int32) (0 : Int32) (0 : Int32) M16) lk_X8_64 ⟨Nat.le_trans (m := 5) (Nat.le_of_ble_eq_true rfl) (Nat.le_add_right 5 _), Nat.le_trans (m := 122) (Nat.le_of_ble_eq_true rfl) (Nat.le_add_right 122 _)⟩ (Nat.le_of_ble_eq_true rfl) (zi8_c h0) rfl (fun r21 M20 => ?_)
      refine zx_pop (zd me_X8_readCond 58 rfl) rfl ?_
      refine zx_goto (tgt := 112) (zd me_X8_readCond 59 rfl) (by decide) ?_
      refine zx_loc [0, 1, 2, 3, 4, 5] rfl ?_
      exact mt_X8_readCond_b112 hF_readCond hF_readOne h0 h1 h2 hH18 i3 i4 i5 M20
  · refine zx_iconst (v := 0) (zd me_X8_readCond 49 rfl) (by decide) ?_
    exact zx_zret (zd me_X8_readCond 50 rfl) rfl rfl
def mf_X8_readCond_b60 (R : zRR) (F_readCond : zRR → Nat → Nat → Nat → Int32 → zMem → Option (Int32 × zMem)) (F_readOne : zRR → Nat → Nat → Nat → Int32 → zMem → Option (Int32 × zMem)) (a0 : Nat) (a1 : Nat) (a2 : Nat) (H18 : Int32 → Int32 → Int32 → zMem → Option (Int32 × zMem)) (i3 : Int32) (i4 : Int32) (i5 : Int32) (i6 : Int32) (M : zMem) : Option (Int32 × zMem) :=
  if i6 = 0 then
    (if (M.1 a1 5) = (11 : Int32) then
      (mf_X8_readCond_b76 R F_readCond F_readOne a0 a1 a2 H18 i3 i4 i5 i6 M)
    else
      (some ((1 : Int32), M)))
  else
    (mf_X8_readCond_b76 R F_readCond F_readOne a0 a1 a2 H18 i3 i4 i5 i6 M)
theorem mt_X8_readCond_b60 {d : Nat} {C : zCx} {ad : Nat → Nat} {T : zTT} {R : zRR} {F_readCond : zRR → Nat → Nat → Nat → Int32 → zMem → Option (Int32 × zMem)} {F_readOne : zRR → Nat → Nat → Nat → Int32 → zMem → Option (Int32 × zMem)} {a0 : Nat} {a1 : Nat} {a2 : Nat} (hF_readCond : ∀ (l : Launch) {a0 : Nat} {a1 : Nat} {a2 : Nat} (h0 : zi8 T R a0) (h1 : zi10 T R a1) (h2 : zi7 T R a2) (i3 : Int32) (M : zMem), zMS l yX8_readCond (mi_X8_readCond d) zrvI (F_readCond R a0 a1 a2 i3 M) [.ref a0, .ref a1, .ref a2, .int i3] T R M) (hF_readOne : ∀ (l : Launch) {a0 : Nat} {a1 : Nat} {a2 : Nat} (h0 : zi8 T R a0) (h1 : zi10 T R a1) (h2 : zi7 T R a2) (i3 : Int32) (M : zMem), zMS l yX8_readOne (mi_X8_readOne d) zrvI (F_readOne R a0 a1 a2 i3 M) [.ref a0, .ref a1, .ref a2, .int i3] T R M) (h0 : zi8 T R a0) (h1 : zi10 T R a1) (h2 : zi7 T R a2) {H18 : Int32 → Int32 → Int32 → zMem → Option (Int32 × zMem)} (hH18 : ∀ (i3 : Int32) (i4 : Int32) (i5 : Int32) (M : zMem), zX C (mi_X8_readCond (d + 1)) (zFin C zrvI ad T R) 0 0 (H18 i3 i4 i5 M) 18 [(0, .ref a0), (1, .ref a1), (2, .ref a2), (3, .int i3), (4, .int i4), (5, .int i5)] [] ad T R M) (i3 : Int32) (i4 : Int32) (i5 : Int32) (i6 : Int32) (M : zMem) : zX C (mi_X8_readCond (d + 1)) (zFin C zrvI ad T R) 0 0 (mf_X8_readCond_b60 R F_readCond F_readOne a0 a1 a2 H18 i3 i4 i5 i6 M) 60 [(0, .ref a0), (1, .ref a1), (2, .ref a2), (3, .int i3), (4, .int i4), (5, .int i5), (6, .int i6)] [] ad T R M := by
  unfold mf_X8_readCond_b60
  refine zx_iload (zd me_X8_readCond 33 rfl) 6 rfl ?_
  refine zx_if_ne (tgt := 76) (zd me_X8_readCond 34 rfl) (by decide) (fun c12 => ?_) (fun c12 => ?_)
  · exact mt_X8_readCond_b76 hF_readCond hF_readOne h0 h1 h2 hH18 i3 i4 i5 i6 M
  · refine zx_aload_n (i := 1) (zd me_X8_readCond 35 rfl) rfl 1 rfl ?_
    refine zx_getI (zd me_X8_readCond 36 rfl) fl_X8_61 (zi10_c h1) rfl ?_
    refine zx_bipush (v := 11) (zd me_X8_readCond 37 rfl) (by decide) ?_
    refine zx_icmp_eq (tgt := 76) (zd me_X8_readCond 38 rfl) (by decide) (fun c13 => ?_) (fun c13 => ?_)
    · exact mt_X8_readCond_b76 hF_readCond hF_readOne h0 h1 h2 hH18 i3 i4 i5 i6 M
    · refine zx_iconst (v := 1) (zd me_X8_readCond 39 rfl) (by decide) ?_
      exact zx_zret (zd me_X8_readCond 40 rfl) rfl rfl
def mf_X8_readCond_b39 (R : zRR) (F_readCond : zRR → Nat → Nat → Nat → Int32 → zMem → Option (Int32 × zMem)) (F_readOne : zRR → Nat → Nat → Nat → Int32 → zMem → Option (Int32 × zMem)) (a0 : Nat) (a1 : Nat) (a2 : Nat) (H18 : Int32 → Int32 → Int32 → zMem → Option (Int32 × zMem)) (i3 : Int32) (i4 : Int32) (i5 : Int32) (s0 : Int32) (M : zMem) : Option (Int32 × zMem) :=
  if i4 = 0 then
    (mf_X8_readCond_b60 R F_readCond F_readOne a0 a1 a2 H18 i3 i4 i5 s0 M)
  else
    (if s0 = 0 then
      (zcl (mf_X8_addStep R a0 (11 : Int32) (0 : Int32) (0 : Int32) M) fun r11 M10 =>
      mf_X8_readCond_b60 R F_readCond F_readOne a0 a1 a2 H18 i3 i4 i5 s0 M10)
    else
      (mf_X8_readCond_b60 R F_readCond F_readOne a0 a1 a2 H18 i3 i4 i5 s0 M))
theorem mt_X8_readCond_b39 {d : Nat} {C : zCx} {ad : Nat → Nat} {T : zTT} {R : zRR} {F_readCond : zRR → Nat → Nat → Nat → Int32 → zMem → Option (Int32 × zMem)} {F_readOne : zRR → Nat → Nat → Nat → Int32 → zMem → Option (Int32 × zMem)} {a0 : Nat} {a1 : Nat} {a2 : Nat} (hF_readCond : ∀ (l : Launch) {a0 : Nat} {a1 : Nat} {a2 : Nat} (h0 : zi8 T R a0) (h1 : zi10 T R a1) (h2 : zi7 T R a2) (i3 : Int32) (M : zMem), zMS l yX8_readCond (mi_X8_readCond d) zrvI (F_readCond R a0 a1 a2 i3 M) [.ref a0, .ref a1, .ref a2, .int i3] T R M) (hF_readOne : ∀ (l : Launch) {a0 : Nat} {a1 : Nat} {a2 : Nat} (h0 : zi8 T R a0) (h1 : zi10 T R a1) (h2 : zi7 T R a2) (i3 : Int32) (M : zMem), zMS l yX8_readOne (mi_X8_readOne d) zrvI (F_readOne R a0 a1 a2 i3 M) [.ref a0, .ref a1, .ref a2, .int i3] T R M) (h0 : zi8 T R a0) (h1 : zi10 T R a1) (h2 : zi7 T R a2) {H18 : Int32 → Int32 → Int32 → zMem → Option (Int32 × zMem)} (hH18 : ∀ (i3 : Int32) (i4 : Int32) (i5 : Int32) (M : zMem), zX C (mi_X8_readCond (d + 1)) (zFin C zrvI ad T R) 0 0 (H18 i3 i4 i5 M) 18 [(0, .ref a0), (1, .ref a1), (2, .ref a2), (3, .int i3), (4, .int i4), (5, .int i5)] [] ad T R M) (i3 : Int32) (i4 : Int32) (i5 : Int32) (s0 : Int32) (M : zMem) : zX C (mi_X8_readCond (d + 1)) (zFin C zrvI ad T R) 0 0 (mf_X8_readCond_b39 R F_readCond F_readOne a0 a1 a2 H18 i3 i4 i5 s0 M) 39 [(0, .ref a0), (1, .ref a1), (2, .ref a2), (3, .int i3), (4, .int i4), (5, .int i5)] [.int s0] ad T R M := by
  unfold mf_X8_readCond_b39
  refine zx_istore (ls' := [(6, .int s0), (0, .ref a0), (1, .ref a1), (2, .ref a2), (3, .int i3), (4, .int i4), (5, .int i5)]) (zd me_X8_readCond 22 rfl) (Nat.le_of_ble_eq_true rfl) rfl ?_
  refine zx_iload (zd me_X8_readCond 23 rfl) 5 rfl ?_
  refine zx_if_eq (tgt := 60) (zd me_X8_readCond 24 rfl) (by decide) (fun c8 => ?_) (fun c8 => ?_)
  · refine zx_loc [1, 2, 3, 4, 5, 6, 0] rfl ?_
    exact mt_X8_readCond_b60 hF_readCond hF_readOne h0 h1 h2 hH18 i3 i4 i5 s0 M
  · refine zx_iload (zd me_X8_readCond 25 rfl) 0 rfl ?_
    refine zx_if_ne (tgt := 60) (zd me_X8_readCond 26 rfl) (by decide) (fun c9 => ?_) (fun c9 => ?_)
    · refine zx_loc [1, 2, 3, 4, 5, 6, 0] rfl ?_
      exact mt_X8_readCond_b60 hF_readCond hF_readOne h0 h1 h2 hH18 i3 i4 i5 s0 M
    · refine zx_aload_n (i := 0) (zd me_X8_readCond 27 rfl) rfl 1 rfl ?_
      refine zx_bipush (v := 11) (zd me_X8_readCond 28 rfl) (by decide) ?_
      refine zx_iconst (v := 0) (zd me_X8_readCond 29 rfl) (by decide) ?_
      refine zx_iconst (v := 0) (zd me_X8_readCond 30 rfl) (by decide) ?_
      refine zx_callVI3 (zd me_X8_readCond 31 rfl) (mc_X8_addStep (zl C) h0 (11 : Int32) (0 : Int32) (0 : Int32) M) lk_X8_64 ⟨Nat.le_trans (m := 5) (Nat.le_of_ble_eq_true rfl) (Nat.le_add_right 5 _), Nat.le_trans (m := 122) (Nat.le_of_ble_eq_true rfl) (Nat.le_add_right 122 _)⟩ (Nat.le_of_ble_eq_true rfl) (zi8_c h0) rfl (fun r11 M10 => ?_)
      refine zx_pop (zd me_X8_readCond 32 rfl) rfl ?_
      refine zx_loc [1, 2, 3, 4, 5, 6, 0] rfl ?_
      exact mt_X8_readCond_b60 hF_readCond hF_readOne h0 h1 h2 hH18 i3 i4 i5 s0 M10
def mf_X8_readCond_l18 (R : zRR) (F_readCond : zRR → Nat → Nat → Nat → Int32 → zMem → Option (Int32 × zMem)) (F_readOne : zRR → Nat → Nat → Nat → Int32 → zMem → Option (Int32 × zMem)) (a0 : Nat) (a1 : Nat) (a2 : Nat) : Nat → Int32 → Int32 → Int32 → zMem → Option (Int32 × zMem)
  | 0, _, _, _, _ => none
  | fuel + 1, i3, i4, i5, M =>
    if (20 : Int32) < i5 then
      (zcl (mf_X10_fail R a1 (4 : Int32) M) fun r6 M5 =>
      zchk (r6 = 0 ∨ r6 = 1) (some (r6, M5)))
    else
      (if (M.1 a1 5) = (12 : Int32) then
        (mf_X8_readCond_b39 R F_readCond F_readOne a0 a1 a2 (mf_X8_readCond_l18 R F_readCond F_readOne a0 a1 a2 fuel) i3 i4 i5 (1 : Int32) M)
      else
        (mf_X8_readCond_b39 R F_readCond F_readOne a0 a1 a2 (mf_X8_readCond_l18 R F_readCond F_readOne a0 a1 a2 fuel) i3 i4 i5 (0 : Int32) M))
theorem mt_X8_readCond_l18 {d : Nat} {C : zCx} {ad : Nat → Nat} {T : zTT} {R : zRR} {F_readCond : zRR → Nat → Nat → Nat → Int32 → zMem → Option (Int32 × zMem)} {F_readOne : zRR → Nat → Nat → Nat → Int32 → zMem → Option (Int32 × zMem)} {a0 : Nat} {a1 : Nat} {a2 : Nat} (hF_readCond : ∀ (l : Launch) {a0 : Nat} {a1 : Nat} {a2 : Nat} (h0 : zi8 T R a0) (h1 : zi10 T R a1) (h2 : zi7 T R a2) (i3 : Int32) (M : zMem), zMS l yX8_readCond (mi_X8_readCond d) zrvI (F_readCond R a0 a1 a2 i3 M) [.ref a0, .ref a1, .ref a2, .int i3] T R M) (hF_readOne : ∀ (l : Launch) {a0 : Nat} {a1 : Nat} {a2 : Nat} (h0 : zi8 T R a0) (h1 : zi10 T R a1) (h2 : zi7 T R a2) (i3 : Int32) (M : zMem), zMS l yX8_readOne (mi_X8_readOne d) zrvI (F_readOne R a0 a1 a2 i3 M) [.ref a0, .ref a1, .ref a2, .int i3] T R M) (h0 : zi8 T R a0) (h1 : zi10 T R a1) (h2 : zi7 T R a2) : ∀ (fuel : Nat) (i3 : Int32) (i4 : Int32) (i5 : Int32) (M : zMem), zX C (mi_X8_readCond (d + 1)) (zFin C zrvI ad T R) 0 0 (mf_X8_readCond_l18 R F_readCond F_readOne a0 a1 a2 fuel i3 i4 i5 M) 18 [(0, .ref a0), (1, .ref a1), (2, .ref a2), (3, .int i3), (4, .int i4), (5, .int i5)] [] ad T R M := by
  intro fuel
  induction fuel with
  | zero => intros; exact zx_none
  | succ fuel ih =>
    intro i3 i4 i5 M
    rw [mf_X8_readCond_l18]
    refine zx_iload (zd me_X8_readCond 12 rfl) 5 rfl ?_
    refine zx_bipush (v := 20) (zd me_X8_readCond 13 rfl) (by decide) ?_
    refine zx_icmp_gt (tgt := 118) (zd me_X8_readCond 14 rfl) (by decide) (fun c4 => ?_) (fun c4 => ?_)
    · refine zx_aload_n (i := 1) (zd me_X8_readCond 64 rfl) rfl 1 rfl ?_
      refine zx_iconst (v := 4) (zd me_X8_readCond 65 rfl) (by decide) ?_
      refine zx_callVI1 (zd me_X8_readCond 66 rfl) (mc_X10_fail (zl C) h1 (4 : Int32) M) lk_X8_54 ⟨Nat.le_trans (m := 5) (Nat.le_of_ble_eq_true rfl) (Nat.le_add_right 5 _), Nat.le_trans (m := 122) (Nat.le_of_ble_eq_true rfl) (Nat.le_add_right 122 _)⟩ (Nat.le_of_ble_eq_true rfl) (zi10_c h1) rfl (fun r6 M5 => ?_)
      exact zx_zretC (zd me_X8_readCond 67 rfl) rfl
    · refine zx_aload_n (i := 1) (zd me_X8_readCond 15 rfl) rfl 1 rfl ?_
      refine zx_getI (zd me_X8_readCond 16 rfl) fl_X8_61 (zi10_c h1) rfl ?_
      refine zx_bipush (v := 12) (zd me_X8_readCond 17 rfl) (by decide) ?_
      refine zx_icmp_ne (tgt := 38) (zd me_X8_readCond 18 rfl) (by decide) (fun c7 => ?_) (fun c7 => ?_)
      · refine zx_iconst (v := 0) (zd me_X8_readCond 21 rfl) (by decide) ?_
        exact mt_X8_readCond_b39 hF_readCond hF_readOne h0 h1 h2 ih i3 i4 i5 (0 : Int32) M
      · refine zx_iconst (v := 1) (zd me_X8_readCond 19 rfl) (by decide) ?_
        refine zx_goto (tgt := 39) (zd me_X8_readCond 20 rfl) (by decide) ?_
        exact mt_X8_readCond_b39 hF_readCond hF_readOne h0 h1 h2 ih i3 i4 i5 (1 : Int32) M
def mf_X8_readCond (R : zRR) (F_readCond : zRR → Nat → Nat → Nat → Int32 → zMem → Option (Int32 × zMem)) (F_readOne : zRR → Nat → Nat → Nat → Int32 → zMem → Option (Int32 × zMem)) (a0 : Nat) (a1 : Nat) (a2 : Nat) (i3 : Int32) (M : zMem) : Option (Int32 × zMem) :=
  zcl (F_readOne R a0 a1 a2 i3 M) fun r2 M1 =>
  if r2 = 0 then
    (some ((0 : Int32), M1))
  else
    (mf_X8_readCond_l18 R F_readCond F_readOne a0 a1 a2 zF i3 (0 : Int32) (0 : Int32) M1)
theorem mm_X8_readCond {d : Nat} (l : Launch) {T : zTT} {R : zRR} {F_readCond : zRR → Nat → Nat → Nat → Int32 → zMem → Option (Int32 × zMem)} {F_readOne : zRR → Nat → Nat → Nat → Int32 → zMem → Option (Int32 × zMem)} {a0 : Nat} {a1 : Nat} {a2 : Nat} (hF_readCond : ∀ (l : Launch) {a0 : Nat} {a1 : Nat} {a2 : Nat} (h0 : zi8 T R a0) (h1 : zi10 T R a1) (h2 : zi7 T R a2) (i3 : Int32) (M : zMem), zMS l yX8_readCond (mi_X8_readCond d) zrvI (F_readCond R a0 a1 a2 i3 M) [.ref a0, .ref a1, .ref a2, .int i3] T R M) (hF_readOne : ∀ (l : Launch) {a0 : Nat} {a1 : Nat} {a2 : Nat} (h0 : zi8 T R a0) (h1 : zi10 T R a1) (h2 : zi7 T R a2) (i3 : Int32) (M : zMem), zMS l yX8_readOne (mi_X8_readOne d) zrvI (F_readOne R a0 a1 a2 i3 M) [.ref a0, .ref a1, .ref a2, .int i3] T R M) (h0 : zi8 T R a0) (h1 : zi10 T R a1) (h2 : zi7 T R a2) (i3 : Int32) (M : zMem) : zMS l yX8_readCond (mi_X8_readCond (d + 1)) zrvI (mf_X8_readCond R F_readCond F_readOne a0 a1 a2 i3 M) [.ref a0, .ref a1, .ref a2, .int i3] T R M := by
  refine zMS.of (by decide +kernel) rfl ⟨rfl, rfl⟩ (Nat.le_of_ble_eq_true rfl) (fun C ad _ => ?_)
  show zX C (mi_X8_readCond (d + 1)) (zFin C zrvI ad T R) 0 0 (mf_X8_readCond R F_readCond F_readOne a0 a1 a2 i3 M) 0 [(0, .ref a0), (1, .ref a1), (2, .ref a2), (3, .int i3)] [] ad T R M
  unfold mf_X8_readCond
  refine zx_iconst (v := 0) (zd me_X8_readCond 0 rfl) (by decide) ?_
  refine zx_istore (ls' := [(4, .int (0 : Int32)), (0, .ref a0), (1, .ref a1), (2, .ref a2), (3, .int i3)]) (zd me_X8_readCond 1 rfl) (Nat.le_of_ble_eq_true rfl) rfl ?_
  refine zx_aload_n (i := 0) (zd me_X8_readCond 2 rfl) rfl 1 rfl ?_
  refine zx_aload_n (i := 1) (zd me_X8_readCond 3 rfl) rfl 2 rfl ?_
  refine zx_aload_n (i := 2) (zd me_X8_readCond 4 rfl) rfl 3 rfl ?_
  refine zx_iload_n (i := 3) (zd me_X8_readCond 5 rfl) rfl 4 rfl ?_
  refine zx_callVI3 (zd me_X8_readCond 6 rfl) (hF_readOne (zl C) h0 h1 h2 i3 M) (lk_X8_58 d) ⟨Nat.le_refl _, by show 8 + (6 + 11) + (122 + 26 * d) ≤ 122 + 26 * (d + 1); omega⟩ (Nat.le_of_ble_eq_true rfl) (zi8_c h0) rfl (fun r2 M1 => ?_)
  refine zx_if_ne (tgt := 15) (zd me_X8_readCond 7 rfl) (by decide) (fun c3 => ?_) (fun c3 => ?_)
  · refine zx_iconst (v := 0) (zd me_X8_readCond 10 rfl) (by decide) ?_
    refine zx_istore (ls' := [(5, .int (0 : Int32)), (4, .int (0 : Int32)), (0, .ref a0), (1, .ref a1), (2, .ref a2), (3, .int i3)]) (zd me_X8_readCond 11 rfl) (Nat.le_of_ble_eq_true rfl) rfl ?_
    refine zx_loc [2, 3, 4, 5, 1, 0] rfl ?_
    exact mt_X8_readCond_l18 hF_readCond hF_readOne h0 h1 h2 zF i3 (0 : Int32) (0 : Int32) M1
  · refine zx_iconst (v := 0) (zd me_X8_readCond 8 rfl) (by decide) ?_
    exact zx_zret (zd me_X8_readCond 9 rfl) rfl rfl
def mf_X8_readOne_b43 (R : zRR) (F_readCond : zRR → Nat → Nat → Nat → Int32 → zMem → Option (Int32 × zMem)) (F_readOne : zRR → Nat → Nat → Nat → Int32 → zMem → Option (Int32 × zMem)) (a0 : Nat) (a1 : Nat) (a2 : Nat) (M : zMem) : Option (Int32 × zMem) :=
  zcl (mf_X10_fail R a1 (4 : Int32) M) fun r30 M29 =>
  zchk (r30 = 0 ∨ r30 = 1) (some (r30, M29))
theorem mt_X8_readOne_b43 {d : Nat} {C : zCx} {ad : Nat → Nat} {T : zTT} {R : zRR} {F_readCond : zRR → Nat → Nat → Nat → Int32 → zMem → Option (Int32 × zMem)} {F_readOne : zRR → Nat → Nat → Nat → Int32 → zMem → Option (Int32 × zMem)} {a0 : Nat} {a1 : Nat} {a2 : Nat} (hF_readCond : ∀ (l : Launch) {a0 : Nat} {a1 : Nat} {a2 : Nat} (h0 : zi8 T R a0) (h1 : zi10 T R a1) (h2 : zi7 T R a2) (i3 : Int32) (M : zMem), zMS l yX8_readCond (mi_X8_readCond d) zrvI (F_readCond R a0 a1 a2 i3 M) [.ref a0, .ref a1, .ref a2, .int i3] T R M) (hF_readOne : ∀ (l : Launch) {a0 : Nat} {a1 : Nat} {a2 : Nat} (h0 : zi8 T R a0) (h1 : zi10 T R a1) (h2 : zi7 T R a2) (i3 : Int32) (M : zMem), zMS l yX8_readOne (mi_X8_readOne d) zrvI (F_readOne R a0 a1 a2 i3 M) [.ref a0, .ref a1, .ref a2, .int i3] T R M) (h0 : zi8 T R a0) (h1 : zi10 T R a1) (h2 : zi7 T R a2) (M : zMem) : zX C (mi_X8_readOne (d + 1)) (zFin C zrvI ad T R) 0 0 (mf_X8_readOne_b43 R F_readCond F_readOne a0 a1 a2 M) 43 [(1, .ref a1)] [] ad T R M := by
  unfold mf_X8_readOne_b43
  refine zx_aload_n (i := 1) (zd me_X8_readOne 21 rfl) rfl 0 rfl ?_
  refine zx_iconst (v := 4) (zd me_X8_readOne 22 rfl) (by decide) ?_
  refine zx_callVI1 (zd me_X8_readOne 23 rfl) (mc_X10_fail (zl C) h1 (4 : Int32) M) lk_X8_54 ⟨Nat.le_trans (m := 5) (Nat.le_of_ble_eq_true rfl) (Nat.le_add_right 5 _), Nat.le_trans (m := 122) (Nat.le_of_ble_eq_true rfl) (Nat.le_add_right 122 _)⟩ (Nat.le_of_ble_eq_true rfl) (zi10_c h1) rfl (fun r30 M29 => ?_)
  exact zx_zretC (zd me_X8_readOne 24 rfl) rfl
def mf_X8_readOne_b28 (R : zRR) (F_readCond : zRR → Nat → Nat → Nat → Int32 → zMem → Option (Int32 × zMem)) (F_readOne : zRR → Nat → Nat → Nat → Int32 → zMem → Option (Int32 × zMem)) (a0 : Nat) (a1 : Nat) (a2 : Nat) (i3 : Int32) (i4 : Int32) (M : zMem) : Option (Int32 × zMem) :=
  if (20 : Int32) ≤ (M.1 a0 0) then
    (mf_X8_readOne_b43 R F_readCond F_readOne a0 a1 a2 M)
  else
    (if i3 ≤ (8 : Int32) then
      (zlet (zwI M a0 0 ((M.1 a0 0) + (1 : Int32))) fun M9 =>
      zlet ((M9.1 a1 5) : Int32) fun x10 =>
      zcl (mf_X10_next R a1 M9) fun _ M11 =>
      if i4 = 0 then
        (if x10 = (13 : Int32) then
          (zcl (F_readOne R a0 a1 a2 (i3 + (1 : Int32)) M11) fun r18 M17 =>
          if r18 = 0 then
            (some ((0 : Int32), M17))
          else
            (zcl (mf_X8_addStep R a0 (13 : Int32) (0 : Int32) (0 : Int32) M17) fun r21 M20 =>
            if r21 = 0 then
              (some ((0 : Int32), M20))
            else
              (some ((1 : Int32), M20))))
        else
          (zcl (mf_X8_readSaying R a0 a1 a2 x10 M11) fun r16 M15 =>
          zchk (r16 = 0 ∨ r16 = 1) (some (r16, M15))))
      else
        (zcl (F_readCond R a0 a1 a2 (i3 + (1 : Int32)) M11) fun r24 M23 =>
        if r24 = 0 then
          (some ((0 : Int32), M23))
        else
          (zcl (mf_X10_passSign R a1 (41 : Int32) M23) fun r27 M26 =>
          if r27 = 0 then
            (some ((0 : Int32), M26))
          else
            (some ((1 : Int32), M26)))))
    else
      (mf_X8_readOne_b43 R F_readCond F_readOne a0 a1 a2 M))
theorem mt_X8_readOne_b28 {d : Nat} {C : zCx} {ad : Nat → Nat} {T : zTT} {R : zRR} {F_readCond : zRR → Nat → Nat → Nat → Int32 → zMem → Option (Int32 × zMem)} {F_readOne : zRR → Nat → Nat → Nat → Int32 → zMem → Option (Int32 × zMem)} {a0 : Nat} {a1 : Nat} {a2 : Nat} (hF_readCond : ∀ (l : Launch) {a0 : Nat} {a1 : Nat} {a2 : Nat} (h0 : zi8 T R a0) (h1 : zi10 T R a1) (h2 : zi7 T R a2) (i3 : Int32) (M : zMem), zMS l yX8_readCond (mi_X8_readCond d) zrvI (F_readCond R a0 a1 a2 i3 M) [.ref a0, .ref a1, .ref a2, .int i3] T R M) (hF_readOne : ∀ (l : Launch) {a0 : Nat} {a1 : Nat} {a2 : Nat} (h0 : zi8 T R a0) (h1 : zi10 T R a1) (h2 : zi7 T R a2) (i3 : Int32) (M : zMem), zMS l yX8_readOne (mi_X8_readOne d) zrvI (F_readOne R a0 a1 a2 i3 M) [.ref a0, .ref a1, .ref a2, .int i3] T R M) (h0 : zi8 T R a0) (h1 : zi10 T R a1) (h2 : zi7 T R a2) (i3 : Int32) (i4 : Int32) (M : zMem) : zX C (mi_X8_readOne (d + 1)) (zFin C zrvI ad T R) 0 0 (mf_X8_readOne_b28 R F_readCond F_readOne a0 a1 a2 i3 i4 M) 28 [(0, .ref a0), (1, .ref a1), (2, .ref a2), (3, .int i3), (4, .int i4)] [] ad T R M := by
  unfold mf_X8_readOne_b28
  refine zx_aload_n (i := 0) (zd me_X8_readOne 14 rfl) rfl 0 rfl ?_
  refine zx_getI (zd me_X8_readOne 15 rfl) fl_X8_24 (zi8_c h0) rfl ?_
  refine zx_bipush (v := 20) (zd me_X8_readOne 16 rfl) (by decide) ?_
  refine zx_icmp_ge (tgt := 43) (zd me_X8_readOne 17 rfl) (by decide) (fun c7 => ?_) (fun c7 => ?_)
  · refine zx_loc [1] rfl ?_
    exact mt_X8_readOne_b43 hF_readCond hF_readOne h0 h1 h2 M
  · refine zx_iload_n (i := 3) (zd me_X8_readOne 18 rfl) rfl 3 rfl ?_
    refine zx_bipush (v := 8) (zd me_X8_readOne 19 rfl) (by decide) ?_
    refine zx_icmp_le (tgt := 49) (zd me_X8_readOne 20 rfl) (by decide) (fun c8 => ?_) (fun c8 => ?_)
    · refine zx_aload_n (i := 0) (zd me_X8_readOne 25 rfl) rfl 0 rfl ?_
      refine zx_dup (zd me_X8_readOne 26 rfl) rfl ?_
      refine zx_getI (zd me_X8_readOne 27 rfl) fl_X8_24 (zi8_c h0) rfl ?_
      refine zx_iconst (v := 1) (zd me_X8_readOne 28 rfl) (by decide) ?_
      refine zx_iadd (zd me_X8_readOne 29 rfl) ?_
      refine zx_putI (zd me_X8_readOne 30 rfl) fp_X8_24 (zi8_c h0) rfl (fun M9 _ => ?_)
      refine zx_aload_n (i := 1) (zd me_X8_readOne 31 rfl) rfl 1 rfl ?_
      refine zx_getI (zd me_X8_readOne 32 rfl) fl_X8_61 (zi10_c h1) rfl ?_
      refine zx_leti (fun x10 => ?_)
      refine zx_istore (ls' := [(5, .int x10), (0, .ref a0), (1, .ref a1), (2, .ref a2), (3, .int i3), (4, .int i4)]) (zd me_X8_readOne 33 rfl) (Nat.le_of_ble_eq_true rfl) rfl ?_
      refine zx_aload_n (i := 1) (zd me_X8_readOne 34 rfl) rfl 2 rfl ?_
      refine zx_callVV0 (zd me_X8_readOne 35 rfl) (mc_X10_next (zl C) h1 M9) lk_X8_68 ⟨Nat.le_trans (m := 5) (Nat.le_of_ble_eq_true rfl) (Nat.le_add_right 5 _), Nat.le_trans (m := 122) (Nat.le_of_ble_eq_true rfl) (Nat.le_add_right 122 _)⟩ (Nat.le_of_ble_eq_true rfl) (zi10_c h1) rfl (fun r12 M11 => ?_)
      refine zx_iload (zd me_X8_readOne 36 rfl) 5 rfl ?_
      refine zx_if_eq (tgt := 101) (zd me_X8_readOne 37 rfl) (by decide) (fun c13 => ?_) (fun c13 => ?_)
      · refine zx_iload (zd me_X8_readOne 54 rfl) 0 rfl ?_
        refine zx_bipush (v := 13) (zd me_X8_readOne 55 rfl) (by decide) ?_
        refine zx_icmp_ne (tgt := 137) (zd me_X8_readOne 56 rfl) (by decide) (fun c14 => ?_) (fun c14 => ?_)
        · refine zx_aload_n (i := 0) (zd me_X8_readOne 75 rfl) rfl 1 rfl ?_
          refine zx_aload_n (i := 1) (zd me_X8_readOne 76 rfl) rfl 2 rfl ?_
          refine zx_aload_n (i := 2) (zd me_X8_readOne 77 rfl) rfl 3 rfl ?_
          refine zx_iload (zd me_X8_readOne 78 rfl) 0 rfl ?_
          refine zx_callVI3 (zd me_X8_readOne 79 rfl) (mc_X8_readSaying (zl C) h0 h1 h2 x10 M11) lk_X8_77 ⟨Nat.le_trans (m := 5) (Nat.le_of_ble_eq_true rfl) (Nat.le_add_right 5 _), Nat.le_trans (m := 122) (Nat.le_of_ble_eq_true rfl) (Nat.le_add_right 122 _)⟩ (Nat.le_of_ble_eq_true rfl) (zi8_c h0) rfl (fun r16 M15 => ?_)
          exact zx_zretC (zd me_X8_readOne 80 rfl) rfl
        · refine zx_aload_n (i := 0) (zd me_X8_readOne 57 rfl) rfl 1 rfl ?_
          refine zx_aload_n (i := 1) (zd me_X8_readOne 58 rfl) rfl 2 rfl ?_
          refine zx_aload_n (i := 2) (zd me_X8_readOne 59 rfl) rfl 3 rfl ?_
          refine zx_iload_n (i := 3) (zd me_X8_readOne 60 rfl) rfl 4 rfl ?_
          refine zx_iconst (v := 1) (zd me_X8_readOne 61 rfl) (by decide) ?_
          refine zx_iadd (zd me_X8_readOne 62 rfl) ?_
          refine zx_callVI3 (zd me_X8_readOne 63 rfl) (hF_readOne (zl C) h0 h1 h2 (i3 + (1 : Int32)) M11) (lk_X8_58 d) ⟨Nat.le_refl _, by show 8 + (6 + 11) + (122 + 26 * d) ≤ 122 + 26 * (d + 1); omega⟩ (Nat.le_of_ble_eq_true rfl) (zi8_c h0) rfl (fun r18 M17 => ?_)
          refine zx_if_eq (tgt := 135) (zd me_X8_readOne 64 rfl) (by decide) (fun c19 => ?_) (fun c19 => ?_)
          · refine zx_iconst (v := 0) (zd me_X8_readOne 73 rfl) (by decide) ?_
            exact zx_zret (zd me_X8_readOne 74 rfl) rfl rfl
          · refine zx_aload_n (i := 0) (zd me_X8_readOne 65 rfl) rfl 1 rfl ?_
            refine zx_bipush (v := 13) (zd me_X8_readOne 66 rfl) (by decide) ?_
            refine zx_iconst (v := 0) (zd me_X8_readOne 67 rfl) (by decide) ?_
            refine zx_iconst (v := 0) (zd me_X8_readOne 68 rfl) (by decide) ?_
            refine zx_callVI3 (zd me_X8_readOne 69 rfl) (mc_X8_addStep (zl C) h0 (13 : Int32) (0 : Int32) (0 : Int32) M17) lk_X8_64 ⟨Nat.le_trans (m := 5) (Nat.le_of_ble_eq_true rfl) (Nat.le_add_right 5 _), Nat.le_trans (m := 122) (Nat.le_of_ble_eq_true rfl) (Nat.le_add_right 122 _)⟩ (Nat.le_of_ble_eq_true rfl) (zi8_c h0) rfl (fun r21 M20 => ?_)
            refine zx_if_eq (tgt := 135) (zd me_X8_readOne 70 rfl) (by decide) (fun c22 => ?_) (fun c22 => ?_)
            · refine zx_iconst (v := 0) (zd me_X8_readOne 73 rfl) (by decide) ?_
              exact zx_zret (zd me_X8_readOne 74 rfl) rfl rfl
            · refine zx_iconst (v := 1) (zd me_X8_readOne 71 rfl) (by decide) ?_
              refine zx_goto (tgt := 136) (zd me_X8_readOne 72 rfl) (by decide) ?_
              exact zx_zret (zd me_X8_readOne 74 rfl) rfl rfl
      · refine zx_aload_n (i := 0) (zd me_X8_readOne 38 rfl) rfl 1 rfl ?_
        refine zx_aload_n (i := 1) (zd me_X8_readOne 39 rfl) rfl 2 rfl ?_
        refine zx_aload_n (i := 2) (zd me_X8_readOne 40 rfl) rfl 3 rfl ?_
        refine zx_iload_n (i := 3) (zd me_X8_readOne 41 rfl) rfl 4 rfl ?_
        refine zx_iconst (v := 1) (zd me_X8_readOne 42 rfl) (by decide) ?_
        refine zx_iadd (zd me_X8_readOne 43 rfl) ?_
        refine zx_callVI3 (zd me_X8_readOne 44 rfl) (hF_readCond (zl C) h0 h1 h2 (i3 + (1 : Int32)) M11) (lk_X8_46 d) ⟨Nat.le_refl _, by show 8 + (7 + 11) + (122 + 26 * d) ≤ 122 + 26 * (d + 1); omega⟩ (Nat.le_of_ble_eq_true rfl) (zi8_c h0) rfl (fun r24 M23 => ?_)
        refine zx_if_eq (tgt := 99) (zd me_X8_readOne 45 rfl) (by decide) (fun c25 => ?_) (fun c25 => ?_)
        · refine zx_iconst (v := 0) (zd me_X8_readOne 52 rfl) (by decide) ?_
          exact zx_zret (zd me_X8_readOne 53 rfl) rfl rfl
        · refine zx_aload_n (i := 1) (zd me_X8_readOne 46 rfl) rfl 2 rfl ?_
          refine zx_bipush (v := 41) (zd me_X8_readOne 47 rfl) (by decide) ?_
          refine zx_callVI1 (zd me_X8_readOne 48 rfl) (mc_X10_passSign (zl C) h1 (41 : Int32) M23) lk_X8_74 ⟨Nat.le_trans (m := 5) (Nat.le_of_ble_eq_true rfl) (Nat.le_add_right 5 _), Nat.le_trans (m := 122) (Nat.le_of_ble_eq_true rfl) (Nat.le_add_right 122 _)⟩ (Nat.le_of_ble_eq_true rfl) (zi10_c h1) rfl (fun r27 M26 => ?_)
          refine zx_if_eq (tgt := 99) (zd me_X8_readOne 49 rfl) (by decide) (fun c28 => ?_) (fun c28 => ?_)
          · refine zx_iconst (v := 0) (zd me_X8_readOne 52 rfl) (by decide) ?_
            exact zx_zret (zd me_X8_readOne 53 rfl) rfl rfl
          · refine zx_iconst (v := 1) (zd me_X8_readOne 50 rfl) (by decide) ?_
            refine zx_goto (tgt := 100) (zd me_X8_readOne 51 rfl) (by decide) ?_
            exact zx_zret (zd me_X8_readOne 53 rfl) rfl rfl
    · refine zx_loc [1] rfl ?_
      exact mt_X8_readOne_b43 hF_readCond hF_readOne h0 h1 h2 M
def mf_X8_readOne (R : zRR) (F_readCond : zRR → Nat → Nat → Nat → Int32 → zMem → Option (Int32 × zMem)) (F_readOne : zRR → Nat → Nat → Nat → Int32 → zMem → Option (Int32 × zMem)) (a0 : Nat) (a1 : Nat) (a2 : Nat) (i3 : Int32) (M : zMem) : Option (Int32 × zMem) :=
  zcl (mf_X10_isSign R a1 (40 : Int32) M) fun r2 M1 =>
  if r2 = 0 then
    (if (13 : Int32) ≤ (M1.1 a1 5) then
      (mf_X8_readOne_b28 R F_readCond F_readOne a0 a1 a2 i3 r2 M1)
    else
      (zcl (mf_X10_fail R a1 (1 : Int32) M1) fun r6 M5 =>
      zchk (r6 = 0 ∨ r6 = 1) (some (r6, M5))))
  else
    (mf_X8_readOne_b28 R F_readCond F_readOne a0 a1 a2 i3 r2 M1)
theorem mm_X8_readOne {d : Nat} (l : Launch) {T : zTT} {R : zRR} {F_readCond : zRR → Nat → Nat → Nat → Int32 → zMem → Option (Int32 × zMem)} {F_readOne : zRR → Nat → Nat → Nat → Int32 → zMem → Option (Int32 × zMem)} {a0 : Nat} {a1 : Nat} {a2 : Nat} (hF_readCond : ∀ (l : Launch) {a0 : Nat} {a1 : Nat} {a2 : Nat} (h0 : zi8 T R a0) (h1 : zi10 T R a1) (h2 : zi7 T R a2) (i3 : Int32) (M : zMem), zMS l yX8_readCond (mi_X8_readCond d) zrvI (F_readCond R a0 a1 a2 i3 M) [.ref a0, .ref a1, .ref a2, .int i3] T R M) (hF_readOne : ∀ (l : Launch) {a0 : Nat} {a1 : Nat} {a2 : Nat} (h0 : zi8 T R a0) (h1 : zi10 T R a1) (h2 : zi7 T R a2) (i3 : Int32) (M : zMem), zMS l yX8_readOne (mi_X8_readOne d) zrvI (F_readOne R a0 a1 a2 i3 M) [.ref a0, .ref a1, .ref a2, .int i3] T R M) (h0 : zi8 T R a0) (h1 : zi10 T R a1) (h2 : zi7 T R a2) (i3 : Int32) (M : zMem) : zMS l yX8_readOne (mi_X8_readOne (d + 1)) zrvI (mf_X8_readOne R F_readCond F_readOne a0 a1 a2 i3 M) [.ref a0, .ref a1, .ref a2, .int i3] T R M := by
  refine zMS.of (by decide +kernel) rfl ⟨rfl, rfl⟩ (Nat.le_of_ble_eq_true rfl) (fun C ad _ => ?_)
  show zX C (mi_X8_readOne (d + 1)) (zFin C zrvI ad T R) 0 0 (mf_X8_readOne R F_readCond F_readOne a0 a1 a2 i3 M) 0 [(0, .ref a0), (1, .ref a1), (2, .ref a2), (3, .int i3)] [] ad T R M
  unfold mf_X8_readOne
  refine zx_aload_n (i := 1) (zd me_X8_readOne 0 rfl) rfl 1 rfl ?_
  refine zx_bipush (v := 40) (zd me_X8_readOne 1 rfl) (by decide) ?_
  refine zx_callVI1 (zd me_X8_readOne 2 rfl) (mc_X10_isSign (zl C) h1 (40 : Int32) M) lk_X8_71 ⟨Nat.le_trans (m := 5) (Nat.le_of_ble_eq_true rfl) (Nat.le_add_right 5 _), Nat.le_trans (m := 122) (Nat.le_of_ble_eq_true rfl) (Nat.le_add_right 122 _)⟩ (Nat.le_of_ble_eq_true rfl) (zi10_c h1) rfl (fun r2 M1 => ?_)
  refine zx_istore (ls' := [(4, .int r2), (0, .ref a0), (1, .ref a1), (2, .ref a2), (3, .int i3)]) (zd me_X8_readOne 3 rfl) (Nat.le_of_ble_eq_true rfl) rfl ?_
  refine zx_iload (zd me_X8_readOne 4 rfl) 0 rfl ?_
  refine zx_if_ne (tgt := 28) (zd me_X8_readOne 5 rfl) (by decide) (fun c3 => ?_) (fun c3 => ?_)
  · refine zx_loc [1, 2, 3, 4, 0] rfl ?_
    exact mt_X8_readOne_b28 hF_readCond hF_readOne h0 h1 h2 i3 r2 M1
  · refine zx_aload_n (i := 1) (zd me_X8_readOne 6 rfl) rfl 2 rfl ?_
    refine zx_getI (zd me_X8_readOne 7 rfl) fl_X8_61 (zi10_c h1) rfl ?_
    refine zx_bipush (v := 13) (zd me_X8_readOne 8 rfl) (by decide) ?_
    refine zx_icmp_ge (tgt := 28) (zd me_X8_readOne 9 rfl) (by decide) (fun c4 => ?_) (fun c4 => ?_)
    · refine zx_loc [1, 2, 3, 4, 0] rfl ?_
      exact mt_X8_readOne_b28 hF_readCond hF_readOne h0 h1 h2 i3 r2 M1
    · refine zx_aload_n (i := 1) (zd me_X8_readOne 10 rfl) rfl 2 rfl ?_
      refine zx_iconst (v := 1) (zd me_X8_readOne 11 rfl) (by decide) ?_
      refine zx_callVI1 (zd me_X8_readOne 12 rfl) (mc_X10_fail (zl C) h1 (1 : Int32) M1) lk_X8_54 ⟨Nat.le_trans (m := 5) (Nat.le_of_ble_eq_true rfl) (Nat.le_add_right 5 _), Nat.le_trans (m := 122) (Nat.le_of_ble_eq_true rfl) (Nat.le_add_right 122 _)⟩ (Nat.le_of_ble_eq_true rfl) (zi10_c h1) rfl (fun r6 M5 => ?_)
      exact zx_zretC (zd me_X8_readOne 13 rfl) rfl
def mg_X8 : Nat → (zRR → Nat → Nat → Nat → Int32 → zMem → Option (Int32 × zMem)) × (zRR → Nat → Nat → Nat → Int32 → zMem → Option (Int32 × zMem))
  | 0 => (fun _ _ _ _ _ _ => none, fun _ _ _ _ _ _ => none)
  | d + 1 => (fun R => mf_X8_readCond R (mg_X8 d).1 (mg_X8 d).2, fun R => mf_X8_readOne R (mg_X8 d).1 (mg_X8 d).2)
def mr_X8_readCond (d : Nat) : zRR → Nat → Nat → Nat → Int32 → zMem → Option (Int32 × zMem) := (mg_X8 d).1
def mr_X8_readOne (d : Nat) : zRR → Nat → Nat → Nat → Int32 → zMem → Option (Int32 × zMem) := (mg_X8 d).2
theorem mgc_X8 : ∀ d : Nat, (∀ (l : Launch) {T : zTT} {R : zRR} {a0 : Nat} {a1 : Nat} {a2 : Nat} (h0 : zi8 T R a0) (h1 : zi10 T R a1) (h2 : zi7 T R a2) (i3 : Int32) (M : zMem), zMS l yX8_readCond (mi_X8_readCond (d)) zrvI (mr_X8_readCond (d) R a0 a1 a2 i3 M) [.ref a0, .ref a1, .ref a2, .int i3] T R M) ∧ (∀ (l : Launch) {T : zTT} {R : zRR} {a0 : Nat} {a1 : Nat} {a2 : Nat} (h0 : zi8 T R a0) (h1 : zi10 T R a1) (h2 : zi7 T R a2) (i3 : Int32) (M : zMem), zMS l yX8_readOne (mi_X8_readOne (d)) zrvI (mr_X8_readOne (d) R a0 a1 a2 i3 M) [.ref a0, .ref a1, .ref a2, .int i3] T R M) := by
  intro d
  induction d with
  | zero => exact ⟨(by intros; intro r M1 h; cases (show (none : Option (Int32 × zMem)) = some (r, M1) from h)), (by intros; intro r M1 h; cases (show (none : Option (Int32 × zMem)) = some (r, M1) from h))⟩
  | succ d ih =>
    obtain ⟨q0, q1⟩ := ih
    exact ⟨fun l {T} {R} {a0} {a1} {a2} h0 h1 h2 i3 M => mm_X8_readCond l (T := T) (R := R) (fun l {a0} {a1} {a2} h0 h1 h2 i3 M => q0 l h0 h1 h2 i3 M) (fun l {a0} {a1} {a2} h0 h1 h2 i3 M => q1 l h0 h1 h2 i3 M) h0 h1 h2 i3 M, fun l {T} {R} {a0} {a1} {a2} h0 h1 h2 i3 M => mm_X8_readOne l (T := T) (R := R) (fun l {a0} {a1} {a2} h0 h1 h2 i3 M => q0 l h0 h1 h2 i3 M) (fun l {a0} {a1} {a2} h0 h1 h2 i3 M => q1 l h0 h1 h2 i3 M) h0 h1 h2 i3 M⟩
theorem mc_X8_readCond (l : Launch) {T : zTT} {R : zRR} {a0 : Nat} {a1 : Nat} {a2 : Nat} (h0 : zi8 T R a0) (h1 : zi10 T R a1) (h2 : zi7 T R a2) (i3 : Int32) (M : zMem) : zMS l yX8_readCond (mi_X8_readCond zD) zrvI (mr_X8_readCond zD R a0 a1 a2 i3 M) [.ref a0, .ref a1, .ref a2, .int i3] T R M := (mgc_X8 zD).1 l h0 h1 h2 i3 M
theorem mc_X8_readOne (l : Launch) {T : zTT} {R : zRR} {a0 : Nat} {a1 : Nat} {a2 : Nat} (h0 : zi8 T R a0) (h1 : zi10 T R a1) (h2 : zi7 T R a2) (i3 : Int32) (M : zMem) : zMS l yX8_readOne (mi_X8_readOne zD) zrvI (mr_X8_readOne zD R a0 a1 a2 i3 M) [.ref a0, .ref a1, .ref a2, .int i3] T R M := (mgc_X8 zD).2 l h0 h1 h2 i3 M
def mf_X8_readAll (R : zRR) (a0 : Nat) (a1 : Nat) (a2 : Nat) (M : zMem) : Option (Int32 × zMem) :=
  zcl (mf_X8_wipe R a0 M) fun _ M1 =>
  zcl (mf_X10_begin R a1 (200 : Int32) M1) fun _ M3 =>
  zcl (mr_X8_readCond zD R a0 a1 a2 (1 : Int32) M3) fun r6 M5 =>
  if r6 = 0 then
    (some ((0 : Int32), M5))
  else
    (zcl (mf_X10_isEnd R a1 M5) fun r9 M8 =>
    if r9 = 0 then
      (zcl (mf_X10_fail R a1 (1 : Int32) M8) fun r12 M11 =>
      if r12 = 0 then
        (some ((0 : Int32), M11))
      else
        (some ((1 : Int32), M11)))
    else
      (some ((1 : Int32), M8)))
theorem mc_X8_readAll (l : Launch) {T : zTT} {R : zRR} {a0 : Nat} {a1 : Nat} {a2 : Nat} (h0 : zi8 T R a0) (h1 : zi10 T R a1) (h2 : zi7 T R a2) (M : zMem) : zMS l yX8_readAll mi_X8_readAll zrvI (mf_X8_readAll R a0 a1 a2 M) [.ref a0, .ref a1, .ref a2] T R M := by
  refine zMS.of (by decide +kernel) rfl ⟨rfl, rfl⟩ (Nat.le_of_ble_eq_true rfl) (fun C ad _ => ?_)
  show zX C mi_X8_readAll (zFin C zrvI ad T R) 0 0 (mf_X8_readAll R a0 a1 a2 M) 0 [(0, .ref a0), (1, .ref a1), (2, .ref a2)] [] ad T R M
  unfold mf_X8_readAll
  refine zx_aload_n (i := 0) (zd me_X8_readAll 0 rfl) rfl 0 rfl ?_
  refine zx_callVV0 (zd me_X8_readAll 1 rfl) (mc_X8_wipe (zl C) h0 M) lk_X8_37 ⟨(Nat.le_of_ble_eq_true rfl), (Nat.le_of_ble_eq_true rfl)⟩ (Nat.le_of_ble_eq_true rfl) (zi8_c h0) rfl (fun r2 M1 => ?_)
  refine zx_aload_n (i := 1) (zd me_X8_readAll 2 rfl) rfl 1 rfl ?_
  refine zx_sipush (v := 200) (zd me_X8_readAll 3 rfl) (by decide) ?_
  refine zx_callVV1 (zd me_X8_readAll 4 rfl) (mc_X10_begin (zl C) h1 (200 : Int32) M1) lk_X8_40 ⟨(Nat.le_of_ble_eq_true rfl), (Nat.le_of_ble_eq_true rfl)⟩ (Nat.le_of_ble_eq_true rfl) (zi10_c h1) rfl (fun r4 M3 => ?_)
  refine zx_aload_n (i := 0) (zd me_X8_readAll 5 rfl) rfl 0 rfl ?_
  refine zx_aload_n (i := 1) (zd me_X8_readAll 6 rfl) rfl 1 rfl ?_
  refine zx_aload_n (i := 2) (zd me_X8_readAll 7 rfl) rfl 2 rfl ?_
  refine zx_iconst (v := 1) (zd me_X8_readAll 8 rfl) (by decide) ?_
  refine zx_callVI3 (zd me_X8_readAll 9 rfl) (mc_X8_readCond (zl C) h0 h1 h2 (1 : Int32) M3) (lk_X8_46 zD) ⟨(Nat.le_of_ble_eq_true rfl), (Nat.le_of_ble_eq_true rfl)⟩ (Nat.le_of_ble_eq_true rfl) (zi8_c h0) rfl (fun r6 M5 => ?_)
  refine zx_if_ne (tgt := 23) (zd me_X8_readAll 10 rfl) (by decide) (fun c7 => ?_) (fun c7 => ?_)
  · refine zx_aload_n (i := 1) (zd me_X8_readAll 13 rfl) rfl 1 rfl ?_
    refine zx_callVI0 (zd me_X8_readAll 14 rfl) (mc_X10_isEnd (zl C) h1 M5) lk_X8_50 ⟨(Nat.le_of_ble_eq_true rfl), (Nat.le_of_ble_eq_true rfl)⟩ (Nat.le_of_ble_eq_true rfl) (zi10_c h1) rfl (fun r9 M8 => ?_)
    refine zx_if_ne (tgt := 38) (zd me_X8_readAll 15 rfl) (by decide) (fun c10 => ?_) (fun c10 => ?_)
    · refine zx_iconst (v := 1) (zd me_X8_readAll 20 rfl) (by decide) ?_
      refine zx_goto (tgt := 43) (zd me_X8_readAll 21 rfl) (by decide) ?_
      exact zx_zret (zd me_X8_readAll 23 rfl) rfl rfl
    · refine zx_aload_n (i := 1) (zd me_X8_readAll 16 rfl) rfl 1 rfl ?_
      refine zx_iconst (v := 1) (zd me_X8_readAll 17 rfl) (by decide) ?_
      refine zx_callVI1 (zd me_X8_readAll 18 rfl) (mc_X10_fail (zl C) h1 (1 : Int32) M8) lk_X8_54 ⟨(Nat.le_of_ble_eq_true rfl), (Nat.le_of_ble_eq_true rfl)⟩ (Nat.le_of_ble_eq_true rfl) (zi10_c h1) rfl (fun r12 M11 => ?_)
      refine zx_if_eq (tgt := 42) (zd me_X8_readAll 19 rfl) (by decide) (fun c13 => ?_) (fun c13 => ?_)
      · refine zx_iconst (v := 0) (zd me_X8_readAll 22 rfl) (by decide) ?_
        exact zx_zret (zd me_X8_readAll 23 rfl) rfl rfl
      · refine zx_iconst (v := 1) (zd me_X8_readAll 20 rfl) (by decide) ?_
        refine zx_goto (tgt := 43) (zd me_X8_readAll 21 rfl) (by decide) ?_
        exact zx_zret (zd me_X8_readAll 23 rfl) rfl rfl
  · refine zx_iconst (v := 0) (zd me_X8_readAll 11 rfl) (by decide) ?_
    exact zx_zret (zd me_X8_readAll 12 rfl) rfl rfl
def mf_X8_compares (R : zRR) (a0 : Nat) (i1 : Int32) (i2 : Int32) (M : zMem) : Option (Int32 × zMem) :=
  zald 40 i2 fun j1 =>
  if (M.1 (zrf R a0 3) j1) = (60 : Int32) then
    (zald 40 i2 fun j9 =>
    if (M.1 (zrf R a0 4) j9) ≤ i1 then
      (some ((0 : Int32), M))
    else
      (some ((1 : Int32), M)))
  else
    (zald 40 i2 fun j3 =>
    if (M.1 (zrf R a0 3) j3) = (62 : Int32) then
      (zald 40 i2 fun j7 =>
      if i1 ≤ (M.1 (zrf R a0 4) j7) then
        (some ((0 : Int32), M))
      else
        (some ((1 : Int32), M)))
    else
      (zald 40 i2 fun j5 =>
      if i1 = (M.1 (zrf R a0 4) j5) then
        (some ((1 : Int32), M))
      else
        (some ((0 : Int32), M))))
theorem mc_X8_compares (l : Launch) {T : zTT} {R : zRR} {a0 : Nat} (h0 : zi8 T R a0) (i1 : Int32) (i2 : Int32) (M : zMem) : zMS l yX8_compares mi_X8_compares zrvI (mf_X8_compares R a0 i1 i2 M) [.ref a0, .int i1, .int i2] T R M := by
  refine zMS.of (by decide +kernel) rfl ⟨rfl, rfl⟩ (Nat.le_of_ble_eq_true rfl) (fun C ad _ => ?_)
  show zX C mi_X8_compares (zFin C zrvI ad T R) 0 0 (mf_X8_compares R a0 i1 i2 M) 0 [(0, .ref a0), (1, .int i1), (2, .int i2)] [] ad T R M
  unfold mf_X8_compares
  refine zx_aload_n (i := 0) (zd me_X8_compares 0 rfl) rfl 0 rfl ?_
  refine zx_getR (zd me_X8_compares 1 rfl) fl_X8_15 (zi8_c h0) rfl (zi8_r3 h0) ?_
  refine zx_iload_n (i := 2) (zd me_X8_compares 2 rfl) rfl 2 rfl ?_
  refine zx_iald (zd me_X8_compares 3 rfl) (zi8_t3 h0) (fun j1 hj1 => ?_)
  refine zx_bipush (v := 60) (zd me_X8_compares 4 rfl) (by decide) ?_
  refine zx_icmp_ne (tgt := 27) (zd me_X8_compares 5 rfl) (by decide) (fun c2 => ?_) (fun c2 => ?_)
  · refine zx_aload_n (i := 0) (zd me_X8_compares 16 rfl) rfl 0 rfl ?_
    refine zx_getR (zd me_X8_compares 17 rfl) fl_X8_15 (zi8_c h0) rfl (zi8_r3 h0) ?_
    refine zx_iload_n (i := 2) (zd me_X8_compares 18 rfl) rfl 2 rfl ?_
    refine zx_iald (zd me_X8_compares 19 rfl) (zi8_t3 h0) (fun j3 hj3 => ?_)
    refine zx_bipush (v := 62) (zd me_X8_compares 20 rfl) (by decide) ?_
    refine zx_icmp_ne (tgt := 56) (zd me_X8_compares 21 rfl) (by decide) (fun c4 => ?_) (fun c4 => ?_)
    · refine zx_iload_n (i := 1) (zd me_X8_compares 32 rfl) rfl 1 rfl ?_
      refine zx_aload_n (i := 0) (zd me_X8_compares 33 rfl) rfl 0 rfl ?_
      refine zx_getR (zd me_X8_compares 34 rfl) fl_X8_18 (zi8_c h0) rfl (zi8_r4 h0) ?_
      refine zx_iload_n (i := 2) (zd me_X8_compares 35 rfl) rfl 2 rfl ?_
      refine zx_iald (zd me_X8_compares 36 rfl) (zi8_t4 h0) (fun j5 hj5 => ?_)
      refine zx_icmp_ne (tgt := 70) (zd me_X8_compares 37 rfl) (by decide) (fun c6 => ?_) (fun c6 => ?_)
      · refine zx_iconst (v := 0) (zd me_X8_compares 40 rfl) (by decide) ?_
        exact zx_zret (zd me_X8_compares 41 rfl) rfl rfl
      · refine zx_iconst (v := 1) (zd me_X8_compares 38 rfl) (by decide) ?_
        refine zx_goto (tgt := 71) (zd me_X8_compares 39 rfl) (by decide) ?_
        exact zx_zret (zd me_X8_compares 41 rfl) rfl rfl
    · refine zx_iload_n (i := 1) (zd me_X8_compares 22 rfl) rfl 1 rfl ?_
      refine zx_aload_n (i := 0) (zd me_X8_compares 23 rfl) rfl 0 rfl ?_
      refine zx_getR (zd me_X8_compares 24 rfl) fl_X8_18 (zi8_c h0) rfl (zi8_r4 h0) ?_
      refine zx_iload_n (i := 2) (zd me_X8_compares 25 rfl) rfl 2 rfl ?_
      refine zx_iald (zd me_X8_compares 26 rfl) (zi8_t4 h0) (fun j7 hj7 => ?_)
      refine zx_icmp_le (tgt := 52) (zd me_X8_compares 27 rfl) (by decide) (fun c8 => ?_) (fun c8 => ?_)
      · refine zx_iconst (v := 0) (zd me_X8_compares 30 rfl) (by decide) ?_
        refine zx_goto (tgt := 71) (zd me_X8_compares 31 rfl) (by decide) ?_
        exact zx_zret (zd me_X8_compares 41 rfl) rfl rfl
      · refine zx_iconst (v := 1) (zd me_X8_compares 28 rfl) (by decide) ?_
        refine zx_goto (tgt := 71) (zd me_X8_compares 29 rfl) (by decide) ?_
        exact zx_zret (zd me_X8_compares 41 rfl) rfl rfl
  · refine zx_iload_n (i := 1) (zd me_X8_compares 6 rfl) rfl 1 rfl ?_
    refine zx_aload_n (i := 0) (zd me_X8_compares 7 rfl) rfl 0 rfl ?_
    refine zx_getR (zd me_X8_compares 8 rfl) fl_X8_18 (zi8_c h0) rfl (zi8_r4 h0) ?_
    refine zx_iload_n (i := 2) (zd me_X8_compares 9 rfl) rfl 2 rfl ?_
    refine zx_iald (zd me_X8_compares 10 rfl) (zi8_t4 h0) (fun j9 hj9 => ?_)
    refine zx_icmp_ge (tgt := 25) (zd me_X8_compares 11 rfl) (by decide) (fun c10 => ?_) (fun c10 => ?_)
    · refine zx_iconst (v := 0) (zd me_X8_compares 14 rfl) (by decide) ?_
      exact zx_zret (zd me_X8_compares 15 rfl) rfl rfl
    · refine zx_iconst (v := 1) (zd me_X8_compares 12 rfl) (by decide) ?_
      refine zx_goto (tgt := 26) (zd me_X8_compares 13 rfl) (by decide) ?_
      exact zx_zret (zd me_X8_compares 15 rfl) rfl rfl
def mf_X8_sheetsThatCompare_b149 (R : zRR) (a0 : Nat) (a1 : Nat) (a2 : Nat) (H6 : Int32 → Int32 → Int32 → zMem → Option (Int32 × zMem)) (i3 : Int32) (i4 : Int32) (i5 : Int32) (M : zMem) : Option (Int32 × zMem) :=
  H6 i3 i4 (i5 + 1) M
theorem mt_X8_sheetsThatCompare_b149 {C : zCx} {ad : Nat → Nat} {T : zTT} {R : zRR} {a0 : Nat} {a1 : Nat} {a2 : Nat} (h0 : zi8 T R a0) (h1 : zi7 T R a1) (h2 : zi3 T R a2) {H6 : Int32 → Int32 → Int32 → zMem → Option (Int32 × zMem)} (hH6 : ∀ (i3 : Int32) (i4 : Int32) (i5 : Int32) (M : zMem), zX C mi_X8_sheetsThatCompare (zFin C zrvI ad T R) 0 0 (H6 i3 i4 i5 M) 6 [(0, .ref a0), (1, .ref a1), (2, .ref a2), (3, .int i3), (4, .int i4), (5, .int i5)] [] ad T R M) (i3 : Int32) (i4 : Int32) (i5 : Int32) (M : zMem) : zX C mi_X8_sheetsThatCompare (zFin C zrvI ad T R) 0 0 (mf_X8_sheetsThatCompare_b149 R a0 a1 a2 H6 i3 i4 i5 M) 149 [(0, .ref a0), (1, .ref a1), (2, .ref a2), (3, .int i3), (4, .int i4), (5, .int i5)] [] ad T R M := by
  unfold mf_X8_sheetsThatCompare_b149
  refine zx_iinc (v := 1) (ls' := [(5, .int (i5 + 1)), (0, .ref a0), (1, .ref a1), (2, .ref a2), (3, .int i3), (4, .int i4)]) (zd me_X8_sheetsThatCompare 64 rfl) (Nat.le_of_ble_eq_true rfl) 5 rfl (by decide) rfl ?_
  refine zx_goto (tgt := 6) (zd me_X8_sheetsThatCompare 65 rfl) (by decide) ?_
  refine zx_loc [1, 2, 3, 4, 5, 0] rfl ?_
  exact hH6 i3 i4 (i5 + 1) M
def mf_X8_sheetsThatCompare_b135 (R : zRR) (a0 : Nat) (a1 : Nat) (a2 : Nat) (H6 : Int32 → Int32 → Int32 → zMem → Option (Int32 × zMem)) (i3 : Int32) (i4 : Int32) (i5 : Int32) (i6 : Int32) (M : zMem) : Option (Int32 × zMem) :=
  if i6 = 0 then
    (mf_X8_sheetsThatCompare_b149 R a0 a1 a2 H6 i3 i4 i5 M)
  else
    (zlet ((i4 ||| ((1 : Int32) <<< (i5 &&& 31))) : Int32) fun x25 =>
    mf_X8_sheetsThatCompare_b149 R a0 a1 a2 H6 i3 x25 i5 M)
theorem mt_X8_sheetsThatCompare_b135 {C : zCx} {ad : Nat → Nat} {T : zTT} {R : zRR} {a0 : Nat} {a1 : Nat} {a2 : Nat} (h0 : zi8 T R a0) (h1 : zi7 T R a1) (h2 : zi3 T R a2) {H6 : Int32 → Int32 → Int32 → zMem → Option (Int32 × zMem)} (hH6 : ∀ (i3 : Int32) (i4 : Int32) (i5 : Int32) (M : zMem), zX C mi_X8_sheetsThatCompare (zFin C zrvI ad T R) 0 0 (H6 i3 i4 i5 M) 6 [(0, .ref a0), (1, .ref a1), (2, .ref a2), (3, .int i3), (4, .int i4), (5, .int i5)] [] ad T R M) (i3 : Int32) (i4 : Int32) (i5 : Int32) (i6 : Int32) (M : zMem) : zX C mi_X8_sheetsThatCompare (zFin C zrvI ad T R) 0 0 (mf_X8_sheetsThatCompare_b135 R a0 a1 a2 H6 i3 i4 i5 i6 M) 135 [(0, .ref a0), (1, .ref a1), (2, .ref a2), (3, .int i3), (4, .int i4), (5, .int i5), (6, .int i6)] [] ad T R M := by
  unfold mf_X8_sheetsThatCompare_b135
  refine zx_iload (zd me_X8_sheetsThatCompare 56 rfl) 6 rfl ?_
  refine zx_if_eq (tgt := 149) (zd me_X8_sheetsThatCompare 57 rfl) (by decide) (fun c24 => ?_) (fun c24 => ?_)
  · refine zx_loc [0, 1, 2, 3, 4, 5] rfl ?_
    exact mt_X8_sheetsThatCompare_b149 h0 h1 h2 hH6 i3 i4 i5 M
  · refine zx_iload (zd me_X8_sheetsThatCompare 58 rfl) 4 rfl ?_
    refine zx_iconst (v := 1) (zd me_X8_sheetsThatCompare 59 rfl) (by decide) ?_
    refine zx_iload (zd me_X8_sheetsThatCompare 60 rfl) 5 rfl ?_
    refine zx_ishl (zd me_X8_sheetsThatCompare 61 rfl) ?_
    refine zx_ior (zd me_X8_sheetsThatCompare 62 rfl) ?_
    refine zx_leti (fun x25 => ?_)
    refine zx_istore (ls' := [(4, .int x25), (0, .ref a0), (1, .ref a1), (2, .ref a2), (3, .int i3), (5, .int i5), (6, .int i6)]) (zd me_X8_sheetsThatCompare 63 rfl) (Nat.le_of_ble_eq_true rfl) rfl ?_
    refine zx_loc [1, 2, 3, 4, 0, 5] rfl ?_
    exact mt_X8_sheetsThatCompare_b149 h0 h1 h2 hH6 i3 x25 i5 M
def mf_X8_sheetsThatCompare_b73 (R : zRR) (a0 : Nat) (a1 : Nat) (a2 : Nat) (H6 : Int32 → Int32 → Int32 → zMem → Option (Int32 × zMem)) (i3 : Int32) (i4 : Int32) (i5 : Int32) (s0 : Int32) (M : zMem) : Option (Int32 × zMem) :=
  mf_X8_sheetsThatCompare_b135 R a0 a1 a2 H6 i3 i4 i5 s0 M
theorem mt_X8_sheetsThatCompare_b73 {C : zCx} {ad : Nat → Nat} {T : zTT} {R : zRR} {a0 : Nat} {a1 : Nat} {a2 : Nat} (h0 : zi8 T R a0) (h1 : zi7 T R a1) (h2 : zi3 T R a2) {H6 : Int32 → Int32 → Int32 → zMem → Option (Int32 × zMem)} (hH6 : ∀ (i3 : Int32) (i4 : Int32) (i5 : Int32) (M : zMem), zX C mi_X8_sheetsThatCompare (zFin C zrvI ad T R) 0 0 (H6 i3 i4 i5 M) 6 [(0, .ref a0), (1, .ref a1), (2, .ref a2), (3, .int i3), (4, .int i4), (5, .int i5)] [] ad T R M) (i3 : Int32) (i4 : Int32) (i5 : Int32) (s0 : Int32) (M : zMem) : zX C mi_X8_sheetsThatCompare (zFin C zrvI ad T R) 0 0 (mf_X8_sheetsThatCompare_b73 R a0 a1 a2 H6 i3 i4 i5 s0 M) 73 [(0, .ref a0), (1, .ref a1), (2, .ref a2), (3, .int i3), (4, .int i4), (5, .int i5)] [.int s0] ad T R M := by
  unfold mf_X8_sheetsThatCompare_b73
  refine zx_istore (ls' := [(6, .int s0), (0, .ref a0), (1, .ref a1), (2, .ref a2), (3, .int i3), (4, .int i4), (5, .int i5)]) (zd me_X8_sheetsThatCompare 25 rfl) (Nat.le_of_ble_eq_true rfl) rfl ?_
  refine zx_goto (tgt := 135) (zd me_X8_sheetsThatCompare 26 rfl) (by decide) ?_
  refine zx_loc [1, 2, 3, 4, 5, 6, 0] rfl ?_
  exact mt_X8_sheetsThatCompare_b135 h0 h1 h2 hH6 i3 i4 i5 s0 M
def mf_X8_sheetsThatCompare_l6 (R : zRR) (a0 : Nat) (a1 : Nat) (a2 : Nat) : Nat → Int32 → Int32 → Int32 → zMem → Option (Int32 × zMem)
  | 0, _, _, _, _ => none
  | fuel + 1, i3, i4, i5, M =>
    if (M.1 a1 2) ≤ i5 then
      (some (i4, M))
    else
      (zald 40 i3 fun j2 =>
      if (M.1 (zrf R a0 2) j2) = 19 then
        (zald 8 i5 fun j4 =>
        zald 40 i3 fun j5 =>
        if (M.1 (zrf R a1 8) j4) = (M.1 (zrf R a0 3) j5) then
          (mf_X8_sheetsThatCompare_b73 R a0 a1 a2 (mf_X8_sheetsThatCompare_l6 R a0 a1 a2 fuel) i3 i4 i5 (1 : Int32) M)
        else
          (mf_X8_sheetsThatCompare_b73 R a0 a1 a2 (mf_X8_sheetsThatCompare_l6 R a0 a1 a2 fuel) i3 i4 i5 (0 : Int32) M))
      else
      if (M.1 (zrf R a0 2) j2) = 20 then
        (zcl (mf_X3_leftOf R a2 i5 M) fun r9 M8 =>
        zcl (mf_X8_compares R a0 r9 i3 M8) fun r11 M10 =>
        mf_X8_sheetsThatCompare_b135 R a0 a1 a2 (mf_X8_sheetsThatCompare_l6 R a0 a1 a2 fuel) i3 i4 i5 r11 M10)
      else
      if (M.1 (zrf R a0 2) j2) = 21 then
        (zcl (mf_X3_overOf R a2 i5 M) fun r14 M13 =>
        zcl (mf_X8_compares R a0 r14 i3 M13) fun r16 M15 =>
        mf_X8_sheetsThatCompare_b135 R a0 a1 a2 (mf_X8_sheetsThatCompare_l6 R a0 a1 a2 fuel) i3 i4 i5 r16 M15)
      else
      if (M.1 (zrf R a0 2) j2) = 22 then
        (zcl (mf_X3_triesOf R a2 i5 M) fun r19 M18 =>
        zcl (mf_X8_compares R a0 r19 i3 M18) fun r21 M20 =>
        mf_X8_sheetsThatCompare_b135 R a0 a1 a2 (mf_X8_sheetsThatCompare_l6 R a0 a1 a2 fuel) i3 i4 i5 r21 M20)
      else
        (zcl (mf_X8_compares R a0 i5 i3 M) fun r23 M22 =>
        mf_X8_sheetsThatCompare_b135 R a0 a1 a2 (mf_X8_sheetsThatCompare_l6 R a0 a1 a2 fuel) i3 i4 i5 r23 M22))
theorem mt_X8_sheetsThatCompare_l6 {C : zCx} {ad : Nat → Nat} {T : zTT} {R : zRR} {a0 : Nat} {a1 : Nat} {a2 : Nat} (h0 : zi8 T R a0) (h1 : zi7 T R a1) (h2 : zi3 T R a2) : ∀ (fuel : Nat) (i3 : Int32) (i4 : Int32) (i5 : Int32) (M : zMem), zX C mi_X8_sheetsThatCompare (zFin C zrvI ad T R) 0 0 (mf_X8_sheetsThatCompare_l6 R a0 a1 a2 fuel i3 i4 i5 M) 6 [(0, .ref a0), (1, .ref a1), (2, .ref a2), (3, .int i3), (4, .int i4), (5, .int i5)] [] ad T R M := by
  intro fuel
  induction fuel with
  | zero => intros; exact zx_none
  | succ fuel ih =>
    intro i3 i4 i5 M
    rw [mf_X8_sheetsThatCompare_l6]
    refine zx_iload (zd me_X8_sheetsThatCompare 4 rfl) 5 rfl ?_
    refine zx_aload_n (i := 1) (zd me_X8_sheetsThatCompare 5 rfl) rfl 1 rfl ?_
    refine zx_getI (zd me_X8_sheetsThatCompare 6 rfl) fl_X8_100 (zi7_c h1) rfl ?_
    refine zx_icmp_ge (tgt := 155) (zd me_X8_sheetsThatCompare 7 rfl) (by decide) (fun c1 => ?_) (fun c1 => ?_)
    · refine zx_iload (zd me_X8_sheetsThatCompare 66 rfl) 4 rfl ?_
      exact zx_iret (zd me_X8_sheetsThatCompare 67 rfl) rfl
    · refine zx_aload_n (i := 0) (zd me_X8_sheetsThatCompare 8 rfl) rfl 0 rfl ?_
      refine zx_getR (zd me_X8_sheetsThatCompare 9 rfl) fl_X8_11 (zi8_c h0) rfl (zi8_r2 h0) ?_
      refine zx_iload_n (i := 3) (zd me_X8_sheetsThatCompare 10 rfl) rfl 3 rfl ?_
      refine zx_iald (zd me_X8_sheetsThatCompare 11 rfl) (zi8_t2 h0) (fun j2 hj2 => ?_)
      refine zx_ite (fun c3 => ?_) (fun c3 => ?_)
      · refine zx_tin (off := 31) (tgt := 52) (zd me_X8_sheetsThatCompare 12 rfl) (by rw [c3]; decide) (by rw [c3]; decide) (by rw [c3]; rfl) (by decide) ?_
        refine zx_aload_n (i := 1) (zd me_X8_sheetsThatCompare 13 rfl) rfl 1 rfl ?_
        refine zx_getR (zd me_X8_sheetsThatCompare 14 rfl) fl_X8_122 (zi7_c h1) rfl (zi7_r8 h1) ?_
        refine zx_iload (zd me_X8_sheetsThatCompare 15 rfl) 5 rfl ?_
        refine zx_iald (zd me_X8_sheetsThatCompare 16 rfl) (zi7_t8 h1) (fun j4 hj4 => ?_)
        refine zx_aload_n (i := 0) (zd me_X8_sheetsThatCompare 17 rfl) rfl 0 rfl ?_
        refine zx_getR (zd me_X8_sheetsThatCompare 18 rfl) fl_X8_15 (zi8_c h0) rfl (zi8_r3 h0) ?_
        refine zx_iload_n (i := 3) (zd me_X8_sheetsThatCompare 19 rfl) rfl 3 rfl ?_
        refine zx_iald (zd me_X8_sheetsThatCompare 20 rfl) (zi8_t3 h0) (fun j5 hj5 => ?_)
        refine zx_icmp_ne (tgt := 72) (zd me_X8_sheetsThatCompare 21 rfl) (by decide) (fun c6 => ?_) (fun c6 => ?_)
        · refine zx_iconst (v := 0) (zd me_X8_sheetsThatCompare 24 rfl) (by decide) ?_
          exact mt_X8_sheetsThatCompare_b73 h0 h1 h2 ih i3 i4 i5 (0 : Int32) M
        · refine zx_iconst (v := 1) (zd me_X8_sheetsThatCompare 22 rfl) (by decide) ?_
          refine zx_goto (tgt := 73) (zd me_X8_sheetsThatCompare 23 rfl) (by decide) ?_
          exact mt_X8_sheetsThatCompare_b73 h0 h1 h2 ih i3 i4 i5 (1 : Int32) M
      · refine zx_ite (fun c7 => ?_) (fun c7 => ?_)
        · refine zx_tin (off := 57) (tgt := 78) (zd me_X8_sheetsThatCompare 12 rfl) (by rw [c7]; decide) (by rw [c7]; decide) (by rw [c7]; rfl) (by decide) ?_
          refine zx_aload_n (i := 0) (zd me_X8_sheetsThatCompare 27 rfl) rfl 0 rfl ?_
          refine zx_aload_n (i := 2) (zd me_X8_sheetsThatCompare 28 rfl) rfl 2 rfl ?_
          refine zx_iload (zd me_X8_sheetsThatCompare 29 rfl) 5 rfl ?_
          refine zx_callVI1 (zd me_X8_sheetsThatCompare 30 rfl) (mc_X3_leftOf (zl C) h2 i5 M) lk_X8_125 ⟨(Nat.le_of_ble_eq_true rfl), (Nat.le_of_ble_eq_true rfl)⟩ (Nat.le_of_ble_eq_true rfl) (zi3_c h2) rfl (fun r9 M8 => ?_)
          refine zx_iload_n (i := 3) (zd me_X8_sheetsThatCompare 31 rfl) rfl 3 rfl ?_
          refine zx_callVI2 (zd me_X8_sheetsThatCompare 32 rfl) (mc_X8_compares (zl C) h0 r9 i3 M8) lk_X8_128 ⟨(Nat.le_of_ble_eq_true rfl), (Nat.le_of_ble_eq_true rfl)⟩ (Nat.le_of_ble_eq_true rfl) (zi8_c h0) rfl (fun r11 M10 => ?_)
          refine zx_istore (ls' := [(6, .int r11), (0, .ref a0), (1, .ref a1), (2, .ref a2), (3, .int i3), (4, .int i4), (5, .int i5)]) (zd me_X8_sheetsThatCompare 33 rfl) (Nat.le_of_ble_eq_true rfl) rfl ?_
          refine zx_goto (tgt := 135) (zd me_X8_sheetsThatCompare 34 rfl) (by decide) ?_
          refine zx_loc [1, 2, 3, 4, 5, 6, 0] rfl ?_
          exact mt_X8_sheetsThatCompare_b135 h0 h1 h2 ih i3 i4 i5 r11 M10
        · refine zx_ite (fun c12 => ?_) (fun c12 => ?_)
          · refine zx_tin (off := 73) (tgt := 94) (zd me_X8_sheetsThatCompare 12 rfl) (by rw [c12]; decide) (by rw [c12]; decide) (by rw [c12]; rfl) (by decide) ?_
            refine zx_aload_n (i := 0) (zd me_X8_sheetsThatCompare 35 rfl) rfl 0 rfl ?_
            refine zx_aload_n (i := 2) (zd me_X8_sheetsThatCompare 36 rfl) rfl 2 rfl ?_
            refine zx_iload (zd me_X8_sheetsThatCompare 37 rfl) 5 rfl ?_
            refine zx_callVI1 (zd me_X8_sheetsThatCompare 38 rfl) (mc_X3_overOf (zl C) h2 i5 M) lk_X8_132 ⟨(Nat.le_of_ble_eq_true rfl), (Nat.le_of_ble_eq_true rfl)⟩ (Nat.le_of_ble_eq_true rfl) (zi3_c h2) rfl (fun r14 M13 => ?_)
            refine zx_iload_n (i := 3) (zd me_X8_sheetsThatCompare 39 rfl) rfl 3 rfl ?_
            refine zx_callVI2 (zd me_X8_sheetsThatCompare 40 rfl) (mc_X8_compares (zl C) h0 r14 i3 M13) lk_X8_128 ⟨(Nat.le_of_ble_eq_true rfl), (Nat.le_of_ble_eq_true rfl)⟩ (Nat.le_of_ble_eq_true rfl) (zi8_c h0) rfl (fun r16 M15 => ?_)
            refine zx_istore (ls' := [(6, .int r16), (0, .ref a0), (1, .ref a1), (2, .ref a2), (3, .int i3), (4, .int i4), (5, .int i5)]) (zd me_X8_sheetsThatCompare 41 rfl) (Nat.le_of_ble_eq_true rfl) rfl ?_
            refine zx_goto (tgt := 135) (zd me_X8_sheetsThatCompare 42 rfl) (by decide) ?_
            refine zx_loc [1, 2, 3, 4, 5, 6, 0] rfl ?_
            exact mt_X8_sheetsThatCompare_b135 h0 h1 h2 ih i3 i4 i5 r16 M15
          · refine zx_ite (fun c17 => ?_) (fun c17 => ?_)
            · refine zx_tin (off := 89) (tgt := 110) (zd me_X8_sheetsThatCompare 12 rfl) (by rw [c17]; decide) (by rw [c17]; decide) (by rw [c17]; rfl) (by decide) ?_
              refine zx_aload_n (i := 0) (zd me_X8_sheetsThatCompare 43 rfl) rfl 0 rfl ?_
              refine zx_aload_n (i := 2) (zd me_X8_sheetsThatCompare 44 rfl) rfl 2 rfl ?_
              refine zx_iload (zd me_X8_sheetsThatCompare 45 rfl) 5 rfl ?_
              refine zx_callVI1 (zd me_X8_sheetsThatCompare 46 rfl) (mc_X3_triesOf (zl C) h2 i5 M) lk_X8_135 ⟨(Nat.le_of_ble_eq_true rfl), (Nat.le_of_ble_eq_true rfl)⟩ (Nat.le_of_ble_eq_true rfl) (zi3_c h2) rfl (fun r19 M18 => ?_)
              refine zx_iload_n (i := 3) (zd me_X8_sheetsThatCompare 47 rfl) rfl 3 rfl ?_
              refine zx_callVI2 (zd me_X8_sheetsThatCompare 48 rfl) (mc_X8_compares (zl C) h0 r19 i3 M18) lk_X8_128 ⟨(Nat.le_of_ble_eq_true rfl), (Nat.le_of_ble_eq_true rfl)⟩ (Nat.le_of_ble_eq_true rfl) (zi8_c h0) rfl (fun r21 M20 => ?_)
              refine zx_istore (ls' := [(6, .int r21), (0, .ref a0), (1, .ref a1), (2, .ref a2), (3, .int i3), (4, .int i4), (5, .int i5)]) (zd me_X8_sheetsThatCompare 49 rfl) (Nat.le_of_ble_eq_true rfl) rfl ?_
              refine zx_goto (tgt := 135) (zd me_X8_sheetsThatCompare 50 rfl) (by decide) ?_
              refine zx_loc [1, 2, 3, 4, 5, 6, 0] rfl ?_
              exact mt_X8_sheetsThatCompare_b135 h0 h1 h2 ih i3 i4 i5 r21 M20
            · refine zx_tout (tgt := 126) (zd me_X8_sheetsThatCompare 12 rfl) (by have e0 := lv_neT c3 (a := 19) (by decide); have e1 := lv_neT c7 (a := 20) (by decide); have e2 := lv_neT c12 (a := 21) (by decide); have e3 := lv_neT c17 (a := 22) (by decide); omega) (by decide) ?_
              refine zx_aload_n (i := 0) (zd me_X8_sheetsThatCompare 51 rfl) rfl 0 rfl ?_
              refine zx_iload (zd me_X8_sheetsThatCompare 52 rfl) 5 rfl ?_
              refine zx_iload_n (i := 3) (zd me_X8_sheetsThatCompare 53 rfl) rfl 3 rfl ?_
              refine zx_callVI2 (zd me_X8_sheetsThatCompare 54 rfl) (mc_X8_compares (zl C) h0 i5 i3 M) lk_X8_128 ⟨(Nat.le_of_ble_eq_true rfl), (Nat.le_of_ble_eq_true rfl)⟩ (Nat.le_of_ble_eq_true rfl) (zi8_c h0) rfl (fun r23 M22 => ?_)
              refine zx_istore (ls' := [(6, .int r23), (0, .ref a0), (1, .ref a1), (2, .ref a2), (3, .int i3), (4, .int i4), (5, .int i5)]) (zd me_X8_sheetsThatCompare 55 rfl) (Nat.le_of_ble_eq_true rfl) rfl ?_
              refine zx_loc [1, 2, 3, 4, 5, 6, 0] rfl ?_
              exact mt_X8_sheetsThatCompare_b135 h0 h1 h2 ih i3 i4 i5 r23 M22
def mf_X8_sheetsThatCompare (R : zRR) (a0 : Nat) (a1 : Nat) (a2 : Nat) (i3 : Int32) (M : zMem) : Option (Int32 × zMem) :=
  mf_X8_sheetsThatCompare_l6 R a0 a1 a2 zF i3 (0 : Int32) (0 : Int32) M
theorem mc_X8_sheetsThatCompare (l : Launch) {T : zTT} {R : zRR} {a0 : Nat} {a1 : Nat} {a2 : Nat} (h0 : zi8 T R a0) (h1 : zi7 T R a1) (h2 : zi3 T R a2) (i3 : Int32) (M : zMem) : zMS l yX8_sheetsThatCompare mi_X8_sheetsThatCompare zrvI (mf_X8_sheetsThatCompare R a0 a1 a2 i3 M) [.ref a0, .ref a1, .ref a2, .int i3] T R M := by
  refine zMS.of (by decide +kernel) rfl ⟨rfl, rfl⟩ (Nat.le_of_ble_eq_true rfl) (fun C ad _ => ?_)
  show zX C mi_X8_sheetsThatCompare (zFin C zrvI ad T R) 0 0 (mf_X8_sheetsThatCompare R a0 a1 a2 i3 M) 0 [(0, .ref a0), (1, .ref a1), (2, .ref a2), (3, .int i3)] [] ad T R M
  unfold mf_X8_sheetsThatCompare
  refine zx_iconst (v := 0) (zd me_X8_sheetsThatCompare 0 rfl) (by decide) ?_
  refine zx_istore (ls' := [(4, .int (0 : Int32)), (0, .ref a0), (1, .ref a1), (2, .ref a2), (3, .int i3)]) (zd me_X8_sheetsThatCompare 1 rfl) (Nat.le_of_ble_eq_true rfl) rfl ?_
  refine zx_iconst (v := 0) (zd me_X8_sheetsThatCompare 2 rfl) (by decide) ?_
  refine zx_istore (ls' := [(5, .int (0 : Int32)), (4, .int (0 : Int32)), (0, .ref a0), (1, .ref a1), (2, .ref a2), (3, .int i3)]) (zd me_X8_sheetsThatCompare 3 rfl) (Nat.le_of_ble_eq_true rfl) rfl ?_
  refine zx_loc [2, 3, 4, 5, 1, 0] rfl ?_
  exact mt_X8_sheetsThatCompare_l6 h0 h1 h2 zF i3 (0 : Int32) (0 : Int32) M
def mf_X8_sheetsOfStep (R : zRR) (a0 : Nat) (a1 : Nat) (a2 : Nat) (i3 : Int32) (M : zMem) : Option (Int32 × zMem) :=
  zald 40 i3 fun j1 =>
  if (M.1 (zrf R a0 2) j1) = 14 then
    (zcl (mf_X3_allThatAre R a2 (0 : Int32) M) fun r4 M3 =>
    some (r4, M3))
  else
  if (M.1 (zrf R a0 2) j1) = 15 then
    (zcl (mf_X3_allThatAre R a2 (2 : Int32) M) fun r7 M6 =>
    some (r7, M6))
  else
  if (M.1 (zrf R a0 2) j1) = 16 then
    (zcl (mf_X3_allThatAre R a2 (3 : Int32) M) fun r10 M9 =>
    some (r10, M9))
  else
  if (M.1 (zrf R a0 2) j1) = 17 then
    (zcl (mf_X3_allHeld R a2 M) fun r13 M12 =>
    some (r13, M12))
  else
  if (M.1 (zrf R a0 2) j1) = 18 then
    (zald 40 i3 fun j15 =>
    zcl (mf_X3_insideOf R a2 (M.1 (zrf R a0 3) j15) M) fun r17 M16 =>
    some (r17, M16))
  else
    (zcl (mf_X8_sheetsThatCompare R a0 a1 a2 i3 M) fun r19 M18 =>
    some (r19, M18))
theorem mc_X8_sheetsOfStep (l : Launch) {T : zTT} {R : zRR} {a0 : Nat} {a1 : Nat} {a2 : Nat} (h0 : zi8 T R a0) (h1 : zi7 T R a1) (h2 : zi3 T R a2) (i3 : Int32) (M : zMem) : zMS l yX8_sheetsOfStep mi_X8_sheetsOfStep zrvI (mf_X8_sheetsOfStep R a0 a1 a2 i3 M) [.ref a0, .ref a1, .ref a2, .int i3] T R M := by
  refine zMS.of (by decide +kernel) rfl ⟨rfl, rfl⟩ (Nat.le_of_ble_eq_true rfl) (fun C ad _ => ?_)
  show zX C mi_X8_sheetsOfStep (zFin C zrvI ad T R) 0 0 (mf_X8_sheetsOfStep R a0 a1 a2 i3 M) 0 [(0, .ref a0), (1, .ref a1), (2, .ref a2), (3, .int i3)] [] ad T R M
  unfold mf_X8_sheetsOfStep
  refine zx_aload_n (i := 0) (zd me_X8_sheetsOfStep 0 rfl) rfl 0 rfl ?_
  refine zx_getR (zd me_X8_sheetsOfStep 1 rfl) fl_X8_11 (zi8_c h0) rfl (zi8_r2 h0) ?_
  refine zx_iload_n (i := 3) (zd me_X8_sheetsOfStep 2 rfl) rfl 3 rfl ?_
  refine zx_iald (zd me_X8_sheetsOfStep 3 rfl) (zi8_t2 h0) (fun j1 hj1 => ?_)
  refine zx_ite (fun c2 => ?_) (fun c2 => ?_)
  · refine zx_tin (off := 34) (tgt := 40) (zd me_X8_sheetsOfStep 4 rfl) (by rw [c2]; decide) (by rw [c2]; decide) (by rw [c2]; rfl) (by decide) ?_
    refine zx_aload_n (i := 2) (zd me_X8_sheetsOfStep 5 rfl) rfl 2 rfl ?_
    refine zx_iconst (v := 0) (zd me_X8_sheetsOfStep 6 rfl) (by decide) ?_
    refine zx_callVI1 (zd me_X8_sheetsOfStep 7 rfl) (mc_X3_allThatAre (zl C) h2 (0 : Int32) M) lk_X8_107 ⟨(Nat.le_of_ble_eq_true rfl), (Nat.le_of_ble_eq_true rfl)⟩ (Nat.le_of_ble_eq_true rfl) (zi3_c h2) rfl (fun r4 M3 => ?_)
    exact zx_iret (zd me_X8_sheetsOfStep 8 rfl) rfl
  · refine zx_ite (fun c5 => ?_) (fun c5 => ?_)
    · refine zx_tin (off := 40) (tgt := 46) (zd me_X8_sheetsOfStep 4 rfl) (by rw [c5]; decide) (by rw [c5]; decide) (by rw [c5]; rfl) (by decide) ?_
      refine zx_aload_n (i := 2) (zd me_X8_sheetsOfStep 9 rfl) rfl 2 rfl ?_
      refine zx_iconst (v := 2) (zd me_X8_sheetsOfStep 10 rfl) (by decide) ?_
      refine zx_callVI1 (zd me_X8_sheetsOfStep 11 rfl) (mc_X3_allThatAre (zl C) h2 (2 : Int32) M) lk_X8_107 ⟨(Nat.le_of_ble_eq_true rfl), (Nat.le_of_ble_eq_true rfl)⟩ (Nat.le_of_ble_eq_true rfl) (zi3_c h2) rfl (fun r7 M6 => ?_)
      exact zx_iret (zd me_X8_sheetsOfStep 12 rfl) rfl
    · refine zx_ite (fun c8 => ?_) (fun c8 => ?_)
      · refine zx_tin (off := 46) (tgt := 52) (zd me_X8_sheetsOfStep 4 rfl) (by rw [c8]; decide) (by rw [c8]; decide) (by rw [c8]; rfl) (by decide) ?_
        refine zx_aload_n (i := 2) (zd me_X8_sheetsOfStep 13 rfl) rfl 2 rfl ?_
        refine zx_iconst (v := 3) (zd me_X8_sheetsOfStep 14 rfl) (by decide) ?_
        refine zx_callVI1 (zd me_X8_sheetsOfStep 15 rfl) (mc_X3_allThatAre (zl C) h2 (3 : Int32) M) lk_X8_107 ⟨(Nat.le_of_ble_eq_true rfl), (Nat.le_of_ble_eq_true rfl)⟩ (Nat.le_of_ble_eq_true rfl) (zi3_c h2) rfl (fun r10 M9 => ?_)
        exact zx_iret (zd me_X8_sheetsOfStep 16 rfl) rfl
      · refine zx_ite (fun c11 => ?_) (fun c11 => ?_)
        · refine zx_tin (off := 52) (tgt := 58) (zd me_X8_sheetsOfStep 4 rfl) (by rw [c11]; decide) (by rw [c11]; decide) (by rw [c11]; rfl) (by decide) ?_
          refine zx_aload_n (i := 2) (zd me_X8_sheetsOfStep 17 rfl) rfl 2 rfl ?_
          refine zx_callVI0 (zd me_X8_sheetsOfStep 18 rfl) (mc_X3_allHeld (zl C) h2 M) lk_X8_113 ⟨(Nat.le_of_ble_eq_true rfl), (Nat.le_of_ble_eq_true rfl)⟩ (Nat.le_of_ble_eq_true rfl) (zi3_c h2) rfl (fun r13 M12 => ?_)
          exact zx_iret (zd me_X8_sheetsOfStep 19 rfl) rfl
        · refine zx_ite (fun c14 => ?_) (fun c14 => ?_)
          · refine zx_tin (off := 57) (tgt := 63) (zd me_X8_sheetsOfStep 4 rfl) (by rw [c14]; decide) (by rw [c14]; decide) (by rw [c14]; rfl) (by decide) ?_
            refine zx_aload_n (i := 2) (zd me_X8_sheetsOfStep 20 rfl) rfl 2 rfl ?_
            refine zx_aload_n (i := 0) (zd me_X8_sheetsOfStep 21 rfl) rfl 0 rfl ?_
            refine zx_getR (zd me_X8_sheetsOfStep 22 rfl) fl_X8_15 (zi8_c h0) rfl (zi8_r3 h0) ?_
            refine zx_iload_n (i := 3) (zd me_X8_sheetsOfStep 23 rfl) rfl 3 rfl ?_
            refine zx_iald (zd me_X8_sheetsOfStep 24 rfl) (zi8_t3 h0) (fun j15 hj15 => ?_)
            refine zx_callVI1 (zd me_X8_sheetsOfStep 25 rfl) (mc_X3_insideOf (zl C) h2 (M.1 (zrf R a0 3) j15) M) lk_X8_116 ⟨(Nat.le_of_ble_eq_true rfl), (Nat.le_of_ble_eq_true rfl)⟩ (Nat.le_of_ble_eq_true rfl) (zi3_c h2) rfl (fun r17 M16 => ?_)
            exact zx_iret (zd me_X8_sheetsOfStep 26 rfl) rfl
          · refine zx_tout (tgt := 74) (zd me_X8_sheetsOfStep 4 rfl) (by have e0 := lv_neT c2 (a := 14) (by decide); have e1 := lv_neT c5 (a := 15) (by decide); have e2 := lv_neT c8 (a := 16) (by decide); have e3 := lv_neT c11 (a := 17) (by decide); have e4 := lv_neT c14 (a := 18) (by decide); omega) (by decide) ?_
            refine zx_aload_n (i := 0) (zd me_X8_sheetsOfStep 27 rfl) rfl 0 rfl ?_
            refine zx_aload_n (i := 1) (zd me_X8_sheetsOfStep 28 rfl) rfl 1 rfl ?_
            refine zx_aload_n (i := 2) (zd me_X8_sheetsOfStep 29 rfl) rfl 2 rfl ?_
            refine zx_iload_n (i := 3) (zd me_X8_sheetsOfStep 30 rfl) rfl 3 rfl ?_
            refine zx_callVI3 (zd me_X8_sheetsOfStep 31 rfl) (mc_X8_sheetsThatCompare (zl C) h0 h1 h2 i3 M) lk_X8_119 ⟨(Nat.le_of_ble_eq_true rfl), (Nat.le_of_ble_eq_true rfl)⟩ (Nat.le_of_ble_eq_true rfl) (zi8_c h0) rfl (fun r19 M18 => ?_)
            exact zx_iret (zd me_X8_sheetsOfStep 32 rfl) rfl
