def mf_X4_minutesOf_l17 (R : zRR) (a0 : Nat) : Nat → Int32 → Int32 → Int32 → zMem → Option (Int32 × zMem)
  | 0, _, _, _, _ => none
  | fuel + 1, i1, i2, i3, M =>
    if (M.1 (zrf R a0 0) 0) ≤ i3 then
      (some (i2, M))
    else
      (zcl (mf_X7_asked R (zrf R a0 0) i1 i3 M) fun r6 M5 =>
      zlet ((i2 + r6) : Int32) fun x7 =>
      mf_X4_minutesOf_l17 R a0 fuel i1 x7 (i3 + 1) M5)
theorem mt_X4_minutesOf_l17 {C : zCx} {ad : Nat → Nat} {T : zTT} {R : zRR} {a0 : Nat} (h0 : zi4 T R a0) : ∀ (fuel : Nat) (i1 : Int32) (i2 : Int32) (i3 : Int32) (M : zMem), zX C mi_X4_minutesOf (zFin C zrvI ad T R) 0 0 (mf_X4_minutesOf_l17 R a0 fuel i1 i2 i3 M) 17 [(0, .ref a0), (1, .int i1), (2, .int i2), (3, .int i3)] [] ad T R M := by
  intro fuel
  induction fuel with
  | zero => intros; exact zx_none
  | succ fuel ih =>
    intro i1 i2 i3 M
    rw [mf_X4_minutesOf_l17]
    refine zx_iload_n (i := 3) (zd me_X4_minutesOf 11 rfl) rfl 3 rfl ?_
    refine zx_aload_n (i := 0) (zd me_X4_minutesOf 12 rfl) rfl 0 rfl ?_
    refine zx_getR (zd me_X4_minutesOf 13 rfl) fl_X4_25 (zi4_c h0) rfl (zi4_r0 h0) ?_
    refine zx_getI (zd me_X4_minutesOf 14 rfl) fl_X4_35 (zi7_c (zi4_t0 h0)) rfl ?_
    refine zx_icmp_ge (tgt := 46) (zd me_X4_minutesOf 15 rfl) (by decide) (fun c4 => ?_) (fun c4 => ?_)
    · refine zx_iload_n (i := 2) (zd me_X4_minutesOf 26 rfl) rfl 2 rfl ?_
      exact zx_iret (zd me_X4_minutesOf 27 rfl) rfl
    · refine zx_iload_n (i := 2) (zd me_X4_minutesOf 16 rfl) rfl 2 rfl ?_
      refine zx_aload_n (i := 0) (zd me_X4_minutesOf 17 rfl) rfl 0 rfl ?_
      refine zx_getR (zd me_X4_minutesOf 18 rfl) fl_X4_25 (zi4_c h0) rfl (zi4_r0 h0) ?_
      refine zx_iload_n (i := 1) (zd me_X4_minutesOf 19 rfl) rfl 1 rfl ?_
      refine zx_iload_n (i := 3) (zd me_X4_minutesOf 20 rfl) rfl 3 rfl ?_
      refine zx_callVI2 (zd me_X4_minutesOf 21 rfl) (mc_X7_asked (zl C) (zi4_t0 h0) i1 i3 M) lk_X4_38 ⟨(Nat.le_of_ble_eq_true rfl), (Nat.le_of_ble_eq_true rfl)⟩ (Nat.le_of_ble_eq_true rfl) (zi7_c (zi4_t0 h0)) rfl (fun r6 M5 => ?_)
      refine zx_iadd (zd me_X4_minutesOf 22 rfl) ?_
      refine zx_leti (fun x7 => ?_)
      refine zx_istore_n (i := 2) (ls' := [(2, .int x7), (0, .ref a0), (1, .int i1), (3, .int i3)]) (zd me_X4_minutesOf 23 rfl) rfl (Nat.le_of_ble_eq_true rfl) rfl ?_
      refine zx_iinc (v := 1) (ls' := [(3, .int (i3 + 1)), (2, .int x7), (0, .ref a0), (1, .int i1)]) (zd me_X4_minutesOf 24 rfl) (Nat.le_of_ble_eq_true rfl) 3 rfl (by decide) rfl ?_
      refine zx_goto (tgt := 17) (zd me_X4_minutesOf 25 rfl) (by decide) ?_
      refine zx_loc [2, 3, 1, 0] rfl ?_
      exact ih i1 x7 (i3 + 1) M5
def mf_X4_minutesOf (R : zRR) (a0 : Nat) (i1 : Int32) (M : zMem) : Option (Int32 × zMem) :=
  zcl (mf_X7_hasPaper R (zrf R a0 0) i1 M) fun r2 M1 =>
  if r2 = 0 then
    (some ((-1 : Int32), M1))
  else
    (mf_X4_minutesOf_l17 R a0 zF i1 (0 : Int32) (0 : Int32) M1)
theorem mc_X4_minutesOf (l : Launch) {T : zTT} {R : zRR} {a0 : Nat} (h0 : zi4 T R a0) (i1 : Int32) (M : zMem) : zMS l yX4_minutesOf mi_X4_minutesOf zrvI (mf_X4_minutesOf R a0 i1 M) [.ref a0, .int i1] T R M := by
  refine zMS.of (by decide +kernel) rfl ⟨rfl, rfl⟩ (Nat.le_of_ble_eq_true rfl) (fun C ad _ => ?_)
  show zX C mi_X4_minutesOf (zFin C zrvI ad T R) 0 0 (mf_X4_minutesOf R a0 i1 M) 0 [(0, .ref a0), (1, .int i1)] [] ad T R M
  unfold mf_X4_minutesOf
  refine zx_aload_n (i := 0) (zd me_X4_minutesOf 0 rfl) rfl 0 rfl ?_
  refine zx_getR (zd me_X4_minutesOf 1 rfl) fl_X4_25 (zi4_c h0) rfl (zi4_r0 h0) ?_
  refine zx_iload_n (i := 1) (zd me_X4_minutesOf 2 rfl) rfl 1 rfl ?_
  refine zx_callVI1 (zd me_X4_minutesOf 3 rfl) (mc_X7_hasPaper (zl C) (zi4_t0 h0) i1 M) lk_X4_29 ⟨(Nat.le_of_ble_eq_true rfl), (Nat.le_of_ble_eq_true rfl)⟩ (Nat.le_of_ble_eq_true rfl) (zi7_c (zi4_t0 h0)) rfl (fun r2 M1 => ?_)
  refine zx_if_ne (tgt := 13) (zd me_X4_minutesOf 4 rfl) (by decide) (fun c3 => ?_) (fun c3 => ?_)
  · refine zx_iconst (v := 0) (zd me_X4_minutesOf 7 rfl) (by decide) ?_
    refine zx_istore_n (i := 2) (ls' := [(2, .int (0 : Int32)), (0, .ref a0), (1, .int i1)]) (zd me_X4_minutesOf 8 rfl) rfl (Nat.le_of_ble_eq_true rfl) rfl ?_
    refine zx_iconst (v := 0) (zd me_X4_minutesOf 9 rfl) (by decide) ?_
    refine zx_istore_n (i := 3) (ls' := [(3, .int (0 : Int32)), (2, .int (0 : Int32)), (0, .ref a0), (1, .int i1)]) (zd me_X4_minutesOf 10 rfl) rfl (Nat.le_of_ble_eq_true rfl) rfl ?_
    refine zx_loc [2, 3, 1, 0] rfl ?_
    exact mt_X4_minutesOf_l17 h0 zF i1 (0 : Int32) (0 : Int32) M1
  · refine zx_iconst (v := (-1)) (zd me_X4_minutesOf 5 rfl) (by decide) ?_
    exact zx_iret (zd me_X4_minutesOf 6 rfl) rfl
def mf_X4_mostAlike_b107 (R : zRR) (a0 : Nat) (H7 : Int32 → Int32 → Int32 → Int32 → zMem → Option (Int32 × zMem)) (i1 : Int32) (i2 : Int32) (i3 : Int32) (i4 : Int32) (M : zMem) : Option (Int32 × zMem) :=
  H7 i1 i2 i3 (i4 + 1) M
theorem mt_X4_mostAlike_b107 {C : zCx} {ad : Nat → Nat} {T : zTT} {R : zRR} {a0 : Nat} (h0 : zi4 T R a0) {H7 : Int32 → Int32 → Int32 → Int32 → zMem → Option (Int32 × zMem)} (hH7 : ∀ (i1 : Int32) (i2 : Int32) (i3 : Int32) (i4 : Int32) (M : zMem), zX C mi_X4_mostAlike (zFin C zrvI ad T R) 0 0 (H7 i1 i2 i3 i4 M) 7 [(0, .ref a0), (1, .int i1), (2, .int i2), (3, .int i3), (4, .int i4)] [] ad T R M) (i1 : Int32) (i2 : Int32) (i3 : Int32) (i4 : Int32) (M : zMem) : zX C mi_X4_mostAlike (zFin C zrvI ad T R) 0 0 (mf_X4_mostAlike_b107 R a0 H7 i1 i2 i3 i4 M) 107 [(0, .ref a0), (1, .int i1), (2, .int i2), (3, .int i3), (4, .int i4)] [] ad T R M := by
  unfold mf_X4_mostAlike_b107
  refine zx_iinc (v := 1) (ls' := [(4, .int (i4 + 1)), (0, .ref a0), (1, .int i1), (2, .int i2), (3, .int i3)]) (zd me_X4_mostAlike 55 rfl) (Nat.le_of_ble_eq_true rfl) 4 rfl (by decide) rfl ?_
  refine zx_goto (tgt := 7) (zd me_X4_mostAlike 56 rfl) (by decide) ?_
  refine zx_loc [1, 2, 3, 4, 0] rfl ?_
  exact hH7 i1 i2 i3 (i4 + 1) M
def mf_X4_mostAlike_b101 (R : zRR) (a0 : Nat) (H7 : Int32 → Int32 → Int32 → Int32 → zMem → Option (Int32 × zMem)) (i1 : Int32) (i4 : Int32) (i5 : Int32) (M : zMem) : Option (Int32 × zMem) :=
  mf_X4_mostAlike_b107 R a0 H7 i1 i4 i5 i4 M
theorem mt_X4_mostAlike_b101 {C : zCx} {ad : Nat → Nat} {T : zTT} {R : zRR} {a0 : Nat} (h0 : zi4 T R a0) {H7 : Int32 → Int32 → Int32 → Int32 → zMem → Option (Int32 × zMem)} (hH7 : ∀ (i1 : Int32) (i2 : Int32) (i3 : Int32) (i4 : Int32) (M : zMem), zX C mi_X4_mostAlike (zFin C zrvI ad T R) 0 0 (H7 i1 i2 i3 i4 M) 7 [(0, .ref a0), (1, .int i1), (2, .int i2), (3, .int i3), (4, .int i4)] [] ad T R M) (i1 : Int32) (i4 : Int32) (i5 : Int32) (M : zMem) : zX C mi_X4_mostAlike (zFin C zrvI ad T R) 0 0 (mf_X4_mostAlike_b101 R a0 H7 i1 i4 i5 M) 101 [(0, .ref a0), (1, .int i1), (4, .int i4), (5, .int i5)] [] ad T R M := by
  unfold mf_X4_mostAlike_b101
  refine zx_iload (zd me_X4_mostAlike 51 rfl) 2 rfl ?_
  refine zx_istore_n (i := 2) (ls' := [(2, .int i4), (0, .ref a0), (1, .int i1), (4, .int i4), (5, .int i5)]) (zd me_X4_mostAlike 52 rfl) rfl (Nat.le_of_ble_eq_true rfl) rfl ?_
  refine zx_iload (zd me_X4_mostAlike 53 rfl) 4 rfl ?_
  refine zx_istore_n (i := 3) (ls' := [(3, .int i5), (2, .int i4), (0, .ref a0), (1, .int i1), (4, .int i4), (5, .int i5)]) (zd me_X4_mostAlike 54 rfl) rfl (Nat.le_of_ble_eq_true rfl) rfl ?_
  refine zx_loc [2, 3, 1, 0, 4] rfl ?_
  exact mt_X4_mostAlike_b107 h0 hH7 i1 i4 i5 i4 M
def mf_X4_mostAlike_l36 (R : zRR) (a0 : Nat) (H7 : Int32 → Int32 → Int32 → Int32 → zMem → Option (Int32 × zMem)) : Nat → Int32 → Int32 → Int32 → Int32 → Int32 → Int32 → zMem → Option (Int32 × zMem)
  | 0, _, _, _, _, _, _, _ => none
  | fuel + 1, i1, i2, i3, i4, i5, i6, M =>
    if (M.1 (zrf R a0 0) 0) ≤ i6 then
      (if i4 = i1 then
        (mf_X4_mostAlike_b107 R a0 H7 i1 i2 i3 i4 M)
      else
        (if i2 = (-1 : Int32) then
          (mf_X4_mostAlike_b101 R a0 H7 i1 i4 i5 M)
        else
          (if i3 ≤ i5 then
            (mf_X4_mostAlike_b107 R a0 H7 i1 i2 i3 i4 M)
          else
            (mf_X4_mostAlike_b101 R a0 H7 i1 i4 i5 M))))
    else
      (zcl (mf_X7_asked R (zrf R a0 0) i1 i6 M) fun r10 M9 =>
      zcl (mf_X7_asked R (zrf R a0 0) i4 i6 M9) fun r12 M11 =>
      zlet ((i5 + (if 0 ≤ (r10 - r12) then (r10 - r12) else 0 - (r10 - r12))) : Int32) fun x13 =>
      mf_X4_mostAlike_l36 R a0 H7 fuel i1 i2 i3 i4 x13 (i6 + 1) M11)
theorem mt_X4_mostAlike_l36 {C : zCx} {ad : Nat → Nat} {T : zTT} {R : zRR} {a0 : Nat} (h0 : zi4 T R a0) {H7 : Int32 → Int32 → Int32 → Int32 → zMem → Option (Int32 × zMem)} (hH7 : ∀ (i1 : Int32) (i2 : Int32) (i3 : Int32) (i4 : Int32) (M : zMem), zX C mi_X4_mostAlike (zFin C zrvI ad T R) 0 0 (H7 i1 i2 i3 i4 M) 7 [(0, .ref a0), (1, .int i1), (2, .int i2), (3, .int i3), (4, .int i4)] [] ad T R M) : ∀ (fuel : Nat) (i1 : Int32) (i2 : Int32) (i3 : Int32) (i4 : Int32) (i5 : Int32) (i6 : Int32) (M : zMem), zX C mi_X4_mostAlike (zFin C zrvI ad T R) 0 0 (mf_X4_mostAlike_l36 R a0 H7 fuel i1 i2 i3 i4 i5 i6 M) 36 [(0, .ref a0), (1, .int i1), (2, .int i2), (3, .int i3), (4, .int i4), (5, .int i5), (6, .int i6)] [] ad T R M := by
  intro fuel
  induction fuel with
  | zero => intros; exact zx_none
  | succ fuel ih =>
    intro i1 i2 i3 i4 i5 i6 M
    rw [mf_X4_mostAlike_l36]
    refine zx_iload (zd me_X4_mostAlike 20 rfl) 6 rfl ?_
    refine zx_aload_n (i := 0) (zd me_X4_mostAlike 21 rfl) rfl 0 rfl ?_
    refine zx_getR (zd me_X4_mostAlike 22 rfl) fl_X4_25 (zi4_c h0) rfl (zi4_r0 h0) ?_
    refine zx_getI (zd me_X4_mostAlike 23 rfl) fl_X4_35 (zi7_c (zi4_t0 h0)) rfl ?_
    refine zx_icmp_ge (tgt := 84) (zd me_X4_mostAlike 24 rfl) (by decide) (fun c5 => ?_) (fun c5 => ?_)
    · refine zx_iload (zd me_X4_mostAlike 42 rfl) 4 rfl ?_
      refine zx_iload_n (i := 1) (zd me_X4_mostAlike 43 rfl) rfl 1 rfl ?_
      refine zx_icmp_eq (tgt := 107) (zd me_X4_mostAlike 44 rfl) (by decide) (fun c6 => ?_) (fun c6 => ?_)
      · refine zx_loc [0, 1, 2, 3, 4] rfl ?_
        exact mt_X4_mostAlike_b107 h0 hH7 i1 i2 i3 i4 M
      · refine zx_iload_n (i := 2) (zd me_X4_mostAlike 45 rfl) rfl 2 rfl ?_
        refine zx_iconst (v := (-1)) (zd me_X4_mostAlike 46 rfl) (by decide) ?_
        refine zx_icmp_eq (tgt := 101) (zd me_X4_mostAlike 47 rfl) (by decide) (fun c7 => ?_) (fun c7 => ?_)
        · refine zx_loc [0, 1, 4, 5] rfl ?_
          exact mt_X4_mostAlike_b101 h0 hH7 i1 i4 i5 M
        · refine zx_iload (zd me_X4_mostAlike 48 rfl) 5 rfl ?_
          refine zx_iload_n (i := 3) (zd me_X4_mostAlike 49 rfl) rfl 3 rfl ?_
          refine zx_icmp_ge (tgt := 107) (zd me_X4_mostAlike 50 rfl) (by decide) (fun c8 => ?_) (fun c8 => ?_)
          · refine zx_loc [0, 1, 2, 3, 4] rfl ?_
            exact mt_X4_mostAlike_b107 h0 hH7 i1 i2 i3 i4 M
          · refine zx_loc [0, 1, 4, 5] rfl ?_
            exact mt_X4_mostAlike_b101 h0 hH7 i1 i4 i5 M
    · refine zx_iload (zd me_X4_mostAlike 25 rfl) 5 rfl ?_
      refine zx_aload_n (i := 0) (zd me_X4_mostAlike 26 rfl) rfl 0 rfl ?_
      refine zx_getR (zd me_X4_mostAlike 27 rfl) fl_X4_25 (zi4_c h0) rfl (zi4_r0 h0) ?_
      refine zx_iload_n (i := 1) (zd me_X4_mostAlike 28 rfl) rfl 1 rfl ?_
      refine zx_iload (zd me_X4_mostAlike 29 rfl) 6 rfl ?_
      refine zx_callVI2 (zd me_X4_mostAlike 30 rfl) (mc_X7_asked (zl C) (zi4_t0 h0) i1 i6 M) lk_X4_38 ⟨(Nat.le_of_ble_eq_true rfl), (Nat.le_of_ble_eq_true rfl)⟩ (Nat.le_of_ble_eq_true rfl) (zi7_c (zi4_t0 h0)) rfl (fun r10 M9 => ?_)
      refine zx_aload_n (i := 0) (zd me_X4_mostAlike 31 rfl) rfl 0 rfl ?_
      refine zx_getR (zd me_X4_mostAlike 32 rfl) fl_X4_25 (zi4_c h0) rfl (zi4_r0 h0) ?_
      refine zx_iload (zd me_X4_mostAlike 33 rfl) 4 rfl ?_
      refine zx_iload (zd me_X4_mostAlike 34 rfl) 6 rfl ?_
      refine zx_callVI2 (zd me_X4_mostAlike 35 rfl) (mc_X7_asked (zl C) (zi4_t0 h0) i4 i6 M9) lk_X4_38 ⟨(Nat.le_of_ble_eq_true rfl), (Nat.le_of_ble_eq_true rfl)⟩ (Nat.le_of_ble_eq_true rfl) (zi7_c (zi4_t0 h0)) rfl (fun r12 M11 => ?_)
      refine zx_isub (zd me_X4_mostAlike 36 rfl) ?_
      refine zx_mabs (zd me_X4_mostAlike 37 rfl) lk_X4_45 ⟨(Nat.le_of_ble_eq_true rfl), (Nat.le_of_ble_eq_true rfl)⟩ ?_
      refine zx_iadd (zd me_X4_mostAlike 38 rfl) ?_
      refine zx_leti (fun x13 => ?_)
      refine zx_istore (ls' := [(5, .int x13), (0, .ref a0), (1, .int i1), (2, .int i2), (3, .int i3), (4, .int i4), (6, .int i6)]) (zd me_X4_mostAlike 39 rfl) (Nat.le_of_ble_eq_true rfl) rfl ?_
      refine zx_iinc (v := 1) (ls' := [(6, .int (i6 + 1)), (5, .int x13), (0, .ref a0), (1, .int i1), (2, .int i2), (3, .int i3), (4, .int i4)]) (zd me_X4_mostAlike 40 rfl) (Nat.le_of_ble_eq_true rfl) 6 rfl (by decide) rfl ?_
      refine zx_goto (tgt := 36) (zd me_X4_mostAlike 41 rfl) (by decide) ?_
      refine zx_loc [2, 3, 4, 5, 6, 1, 0] rfl ?_
      exact ih i1 i2 i3 i4 x13 (i6 + 1) M11
def mf_X4_mostAlike_l7 (R : zRR) (a0 : Nat) : Nat → Int32 → Int32 → Int32 → Int32 → zMem → Option (Int32 × zMem)
  | 0, _, _, _, _, _ => none
  | fuel + 1, i1, i2, i3, i4, M =>
    if (M.1 (zrf R a0 0) 1) ≤ i4 then
      (some (i2, M))
    else
      (zcl (mf_X7_hasPaper R (zrf R a0 0) i1 M) fun r3 M2 =>
      if r3 = 0 then
        (some (i2, M2))
      else
        (mf_X4_mostAlike_l36 R a0 (mf_X4_mostAlike_l7 R a0 fuel) zF i1 i2 i3 i4 (0 : Int32) (0 : Int32) M2))
theorem mt_X4_mostAlike_l7 {C : zCx} {ad : Nat → Nat} {T : zTT} {R : zRR} {a0 : Nat} (h0 : zi4 T R a0) : ∀ (fuel : Nat) (i1 : Int32) (i2 : Int32) (i3 : Int32) (i4 : Int32) (M : zMem), zX C mi_X4_mostAlike (zFin C zrvI ad T R) 0 0 (mf_X4_mostAlike_l7 R a0 fuel i1 i2 i3 i4 M) 7 [(0, .ref a0), (1, .int i1), (2, .int i2), (3, .int i3), (4, .int i4)] [] ad T R M := by
  intro fuel
  induction fuel with
  | zero => intros; exact zx_none
  | succ fuel ih =>
    intro i1 i2 i3 i4 M
    rw [mf_X4_mostAlike_l7]
    refine zx_iload (zd me_X4_mostAlike 6 rfl) 4 rfl ?_
    refine zx_aload_n (i := 0) (zd me_X4_mostAlike 7 rfl) rfl 0 rfl ?_
    refine zx_getR (zd me_X4_mostAlike 8 rfl) fl_X4_25 (zi4_c h0) rfl (zi4_r0 h0) ?_
    refine zx_getI (zd me_X4_mostAlike 9 rfl) fl_X4_42 (zi7_c (zi4_t0 h0)) rfl ?_
    refine zx_icmp_ge (tgt := 113) (zd me_X4_mostAlike 10 rfl) (by decide) (fun c1 => ?_) (fun c1 => ?_)
    · refine zx_iload_n (i := 2) (zd me_X4_mostAlike 57 rfl) rfl 2 rfl ?_
      exact zx_iret (zd me_X4_mostAlike 58 rfl) rfl
    · refine zx_aload_n (i := 0) (zd me_X4_mostAlike 11 rfl) rfl 0 rfl ?_
      refine zx_getR (zd me_X4_mostAlike 12 rfl) fl_X4_25 (zi4_c h0) rfl (zi4_r0 h0) ?_
      refine zx_iload_n (i := 1) (zd me_X4_mostAlike 13 rfl) rfl 1 rfl ?_
      refine zx_callVI1 (zd me_X4_mostAlike 14 rfl) (mc_X7_hasPaper (zl C) (zi4_t0 h0) i1 M) lk_X4_29 ⟨(Nat.le_of_ble_eq_true rfl), (Nat.le_of_ble_eq_true rfl)⟩ (Nat.le_of_ble_eq_true rfl) (zi7_c (zi4_t0 h0)) rfl (fun r3 M2 => ?_)
      refine zx_if_eq (tgt := 113) (zd me_X4_mostAlike 15 rfl) (by decide) (fun c4 => ?_) (fun c4 => ?_)
      · refine zx_iload_n (i := 2) (zd me_X4_mostAlike 57 rfl) rfl 2 rfl ?_
        exact zx_iret (zd me_X4_mostAlike 58 rfl) rfl
      · refine zx_iconst (v := 0) (zd me_X4_mostAlike 16 rfl) (by decide) ?_
        refine zx_istore (ls' := [(5, .int (0 : Int32)), (0, .ref a0), (1, .int i1), (2, .int i2), (3, .int i3), (4, .int i4)]) (zd me_X4_mostAlike 17 rfl) (Nat.le_of_ble_eq_true rfl) rfl ?_
        refine zx_iconst (v := 0) (zd me_X4_mostAlike 18 rfl) (by decide) ?_
        refine zx_istore (ls' := [(6, .int (0 : Int32)), (5, .int (0 : Int32)), (0, .ref a0), (1, .int i1), (2, .int i2), (3, .int i3), (4, .int i4)]) (zd me_X4_mostAlike 19 rfl) (Nat.le_of_ble_eq_true rfl) rfl ?_
        refine zx_loc [2, 3, 4, 5, 6, 1, 0] rfl ?_
        exact mt_X4_mostAlike_l36 h0 ih zF i1 i2 i3 i4 (0 : Int32) (0 : Int32) M2
def mf_X4_mostAlike (R : zRR) (a0 : Nat) (i1 : Int32) (M : zMem) : Option (Int32 × zMem) :=
  mf_X4_mostAlike_l7 R a0 zF i1 (-1 : Int32) (0 : Int32) (0 : Int32) M
theorem mc_X4_mostAlike (l : Launch) {T : zTT} {R : zRR} {a0 : Nat} (h0 : zi4 T R a0) (i1 : Int32) (M : zMem) : zMS l yX4_mostAlike mi_X4_mostAlike zrvI (mf_X4_mostAlike R a0 i1 M) [.ref a0, .int i1] T R M := by
  refine zMS.of (by decide +kernel) rfl ⟨rfl, rfl⟩ (Nat.le_of_ble_eq_true rfl) (fun C ad _ => ?_)
  show zX C mi_X4_mostAlike (zFin C zrvI ad T R) 0 0 (mf_X4_mostAlike R a0 i1 M) 0 [(0, .ref a0), (1, .int i1)] [] ad T R M
  unfold mf_X4_mostAlike
  refine zx_iconst (v := (-1)) (zd me_X4_mostAlike 0 rfl) (by decide) ?_
  refine zx_istore_n (i := 2) (ls' := [(2, .int (-1 : Int32)), (0, .ref a0), (1, .int i1)]) (zd me_X4_mostAlike 1 rfl) rfl (Nat.le_of_ble_eq_true rfl) rfl ?_
  refine zx_iconst (v := 0) (zd me_X4_mostAlike 2 rfl) (by decide) ?_
  refine zx_istore_n (i := 3) (ls' := [(3, .int (0 : Int32)), (2, .int (-1 : Int32)), (0, .ref a0), (1, .int i1)]) (zd me_X4_mostAlike 3 rfl) rfl (Nat.le_of_ble_eq_true rfl) rfl ?_
  refine zx_iconst (v := 0) (zd me_X4_mostAlike 4 rfl) (by decide) ?_
  refine zx_istore (ls' := [(4, .int (0 : Int32)), (3, .int (0 : Int32)), (2, .int (-1 : Int32)), (0, .ref a0), (1, .int i1)]) (zd me_X4_mostAlike 5 rfl) (Nat.le_of_ble_eq_true rfl) rfl ?_
  refine zx_loc [3, 4, 2, 1, 0] rfl ?_
  exact mt_X4_mostAlike_l7 h0 zF i1 (-1 : Int32) (0 : Int32) (0 : Int32) M
def mf_X4_meet_b77 (R : zRR) (a0 : Nat) (H9 : Int32 → Int32 → Int32 → Int32 → Int32 → zMem → Option (Int32 × zMem)) (i1 : Int32) (i2 : Int32) (i4 : Int32) (i5 : Int32) (i6 : Int32) (i7 : Int32) (i8 : Int32) (M : zMem) : Option (Int32 × zMem) :=
  zlet ((i4 + i7) : Int32) fun x10 =>
  zlet ((i5 + i8) : Int32) fun x11 =>
  H9 i1 i2 x10 x11 (i6 + 1) M
theorem mt_X4_meet_b77 {C : zCx} {ad : Nat → Nat} {T : zTT} {R : zRR} {a0 : Nat} (h0 : zi4 T R a0) {H9 : Int32 → Int32 → Int32 → Int32 → Int32 → zMem → Option (Int32 × zMem)} (hH9 : ∀ (i1 : Int32) (i2 : Int32) (i4 : Int32) (i5 : Int32) (i6 : Int32) (M : zMem), zX C mi_X4_meet (zFin C zrvI ad T R) 0 0 (H9 i1 i2 i4 i5 i6 M) 9 [(0, .ref a0), (1, .int i1), (2, .int i2), (4, .int i4), (5, .int i5), (6, .int i6)] [] ad T R M) (i1 : Int32) (i2 : Int32) (i4 : Int32) (i5 : Int32) (i6 : Int32) (i7 : Int32) (i8 : Int32) (M : zMem) : zX C mi_X4_meet (zFin C zrvI ad T R) 0 0 (mf_X4_meet_b77 R a0 H9 i1 i2 i4 i5 i6 i7 i8 M) 77 [(0, .ref a0), (1, .int i1), (2, .int i2), (4, .int i4), (5, .int i5), (6, .int i6), (7, .int i7), (8, .int i8)] [] ad T R M := by
  unfold mf_X4_meet_b77
  refine zx_iload (zd me_X4_meet 39 rfl) 3 rfl ?_
  refine zx_iload (zd me_X4_meet 40 rfl) 6 rfl ?_
  refine zx_iadd (zd me_X4_meet 41 rfl) ?_
  refine zx_leti (fun x10 => ?_)
  refine zx_istore (ls' := [(4, .int x10), (0, .ref a0), (1, .int i1), (2, .int i2), (5, .int i5), (6, .int i6), (7, .int i7), (8, .int i8)]) (zd me_X4_meet 42 rfl) (Nat.le_of_ble_eq_true rfl) rfl ?_
  refine zx_iload (zd me_X4_meet 43 rfl) 4 rfl ?_
  refine zx_iload (zd me_X4_meet 44 rfl) 7 rfl ?_
  refine zx_iadd (zd me_X4_meet 45 rfl) ?_
  refine zx_leti (fun x11 => ?_)
  refine zx_istore (ls' := [(5, .int x11), (4, .int x10), (0, .ref a0), (1, .int i1), (2, .int i2), (6, .int i6), (7, .int i7), (8, .int i8)]) (zd me_X4_meet 46 rfl) (Nat.le_of_ble_eq_true rfl) rfl ?_
  refine zx_iinc (v := 1) (ls' := [(6, .int (i6 + 1)), (5, .int x11), (4, .int x10), (0, .ref a0), (1, .int i1), (2, .int i2), (7, .int i7), (8, .int i8)]) (zd me_X4_meet 47 rfl) (Nat.le_of_ble_eq_true rfl) 5 rfl (by decide) rfl ?_
  refine zx_goto (tgt := 9) (zd me_X4_meet 48 rfl) (by decide) ?_
  refine zx_loc [3, 4, 5, 2, 1, 0] rfl ?_
  exact hH9 i1 i2 x10 x11 (i6 + 1) M
def mf_X4_meet_l9 (R : zRR) (a0 : Nat) : Nat → Int32 → Int32 → Int32 → Int32 → Int32 → zMem → Option (Int32 × zMem)
  | 0, _, _, _, _, _, _ => none
  | fuel + 1, i1, i2, i4, i5, i6, M =>
    if (M.1 (zrf R a0 0) 0) ≤ i6 then
      (some ((0 : Int32), M))
    else
      (zcl (mf_X7_asked R (zrf R a0 0) i1 i6 M) fun r3 M2 =>
      zcl (mf_X7_asked R (zrf R a0 0) i2 i6 M2) fun r5 M4 =>
      if r3 ≤ 0 then
        (mf_X4_meet_b77 R a0 (mf_X4_meet_l9 R a0 fuel) i1 i2 i4 i5 i6 r3 r5 M4)
      else
        (if r5 ≤ 0 then
          (mf_X4_meet_b77 R a0 (mf_X4_meet_l9 R a0 fuel) i1 i2 i4 i5 i6 r3 r5 M4)
        else
          (if (i5 + r5) ≤ i4 then
            (mf_X4_meet_b77 R a0 (mf_X4_meet_l9 R a0 fuel) i1 i2 i4 i5 i6 r3 r5 M4)
          else
            (if (i4 + r3) ≤ i5 then
              (mf_X4_meet_b77 R a0 (mf_X4_meet_l9 R a0 fuel) i1 i2 i4 i5 i6 r3 r5 M4)
            else
              (some ((1 : Int32), M4))))))
theorem mt_X4_meet_l9 {C : zCx} {ad : Nat → Nat} {T : zTT} {R : zRR} {a0 : Nat} (h0 : zi4 T R a0) : ∀ (fuel : Nat) (i1 : Int32) (i2 : Int32) (i4 : Int32) (i5 : Int32) (i6 : Int32) (M : zMem), zX C mi_X4_meet (zFin C zrvI ad T R) 0 0 (mf_X4_meet_l9 R a0 fuel i1 i2 i4 i5 i6 M) 9 [(0, .ref a0), (1, .int i1), (2, .int i2), (4, .int i4), (5, .int i5), (6, .int i6)] [] ad T R M := by
  intro fuel
  induction fuel with
  | zero => intros; exact zx_none
  | succ fuel ih =>
    intro i1 i2 i4 i5 i6 M
    rw [mf_X4_meet_l9]
    refine zx_iload (zd me_X4_meet 6 rfl) 5 rfl ?_
    refine zx_aload_n (i := 0) (zd me_X4_meet 7 rfl) rfl 0 rfl ?_
    refine zx_getR (zd me_X4_meet 8 rfl) fl_X4_25 (zi4_c h0) rfl (zi4_r0 h0) ?_
    refine zx_getI (zd me_X4_meet 9 rfl) fl_X4_35 (zi7_c (zi4_t0 h0)) rfl ?_
    refine zx_icmp_ge (tgt := 97) (zd me_X4_meet 10 rfl) (by decide) (fun c1 => ?_) (fun c1 => ?_)
    · refine zx_iconst (v := 0) (zd me_X4_meet 49 rfl) (by decide) ?_
      exact zx_zret (zd me_X4_meet 50 rfl) rfl rfl
    · refine zx_aload_n (i := 0) (zd me_X4_meet 11 rfl) rfl 0 rfl ?_
      refine zx_getR (zd me_X4_meet 12 rfl) fl_X4_25 (zi4_c h0) rfl (zi4_r0 h0) ?_
      refine zx_iload_n (i := 1) (zd me_X4_meet 13 rfl) rfl 1 rfl ?_
      refine zx_iload (zd me_X4_meet 14 rfl) 5 rfl ?_
      refine zx_callVI2 (zd me_X4_meet 15 rfl) (mc_X7_asked (zl C) (zi4_t0 h0) i1 i6 M) lk_X4_38 ⟨(Nat.le_of_ble_eq_true rfl), (Nat.le_of_ble_eq_true rfl)⟩ (Nat.le_of_ble_eq_true rfl) (zi7_c (zi4_t0 h0)) rfl (fun r3 M2 => ?_)
      refine zx_istore (ls' := [(7, .int r3), (0, .ref a0), (1, .int i1), (2, .int i2), (4, .int i4), (5, .int i5), (6, .int i6)]) (zd me_X4_meet 16 rfl) (Nat.le_of_ble_eq_true rfl) rfl ?_
      refine zx_aload_n (i := 0) (zd me_X4_meet 17 rfl) rfl 1 rfl ?_
      refine zx_getR (zd me_X4_meet 18 rfl) fl_X4_25 (zi4_c h0) rfl (zi4_r0 h0) ?_
      refine zx_iload_n (i := 2) (zd me_X4_meet 19 rfl) rfl 3 rfl ?_
      refine zx_iload (zd me_X4_meet 20 rfl) 6 rfl ?_
      refine zx_callVI2 (zd me_X4_meet 21 rfl) (mc_X7_asked (zl C) (zi4_t0 h0) i2 i6 M2) lk_X4_38 ⟨(Nat.le_of_ble_eq_true rfl), (Nat.le_of_ble_eq_true rfl)⟩ (Nat.le_of_ble_eq_true rfl) (zi7_c (zi4_t0 h0)) rfl (fun r5 M4 => ?_)
      refine zx_istore (ls' := [(8, .int r5), (7, .int r3), (0, .ref a0), (1, .int i1), (2, .int i2), (4, .int i4), (5, .int i5), (6, .int i6)]) (zd me_X4_meet 22 rfl) (Nat.le_of_ble_eq_true rfl) rfl ?_
      refine zx_iload (zd me_X4_meet 23 rfl) 1 rfl ?_
      refine zx_if_le (tgt := 77) (zd me_X4_meet 24 rfl) (by decide) (fun c6 => ?_) (fun c6 => ?_)
      · refine zx_loc [2, 3, 4, 5, 6, 7, 1, 0] rfl ?_
        exact mt_X4_meet_b77 h0 ih i1 i2 i4 i5 i6 r3 r5 M4
      · refine zx_iload (zd me_X4_meet 25 rfl) 0 rfl ?_
        refine zx_if_le (tgt := 77) (zd me_X4_meet 26 rfl) (by decide) (fun c7 => ?_) (fun c7 => ?_)
        · refine zx_loc [2, 3, 4, 5, 6, 7, 1, 0] rfl ?_
          exact mt_X4_meet_b77 h0 ih i1 i2 i4 i5 i6 r3 r5 M4
        · refine zx_iload (zd me_X4_meet 27 rfl) 5 rfl ?_
          refine zx_iload (zd me_X4_meet 28 rfl) 6 rfl ?_
          refine zx_iload (zd me_X4_meet 29 rfl) 0 rfl ?_
          refine zx_iadd (zd me_X4_meet 30 rfl) ?_
          refine zx_icmp_ge (tgt := 77) (zd me_X4_meet 31 rfl) (by decide) (fun c8 => ?_) (fun c8 => ?_)
          · refine zx_loc [2, 3, 4, 5, 6, 7, 1, 0] rfl ?_
            exact mt_X4_meet_b77 h0 ih i1 i2 i4 i5 i6 r3 r5 M4
          · refine zx_iload (zd me_X4_meet 32 rfl) 6 rfl ?_
            refine zx_iload (zd me_X4_meet 33 rfl) 5 rfl ?_
            refine zx_iload (zd me_X4_meet 34 rfl) 1 rfl ?_
            refine zx_iadd (zd me_X4_meet 35 rfl) ?_
            refine zx_icmp_ge (tgt := 77) (zd me_X4_meet 36 rfl) (by decide) (fun c9 => ?_) (fun c9 => ?_)
            · refine zx_loc [2, 3, 4, 5, 6, 7, 1, 0] rfl ?_
              exact mt_X4_meet_b77 h0 ih i1 i2 i4 i5 i6 r3 r5 M4
            · refine zx_iconst (v := 1) (zd me_X4_meet 37 rfl) (by decide) ?_
              exact zx_zret (zd me_X4_meet 38 rfl) rfl rfl
def mf_X4_meet (R : zRR) (a0 : Nat) (i1 : Int32) (i2 : Int32) (i3 : Int32) (M : zMem) : Option (Int32 × zMem) :=
  mf_X4_meet_l9 R a0 zF i1 i2 (0 : Int32) i3 (0 : Int32) M
theorem mc_X4_meet (l : Launch) {T : zTT} {R : zRR} {a0 : Nat} (h0 : zi4 T R a0) (i1 : Int32) (i2 : Int32) (i3 : Int32) (M : zMem) : zMS l yX4_meet mi_X4_meet zrvI (mf_X4_meet R a0 i1 i2 i3 M) [.ref a0, .int i1, .int i2, .int i3] T R M := by
  refine zMS.of (by decide +kernel) rfl ⟨rfl, rfl⟩ (Nat.le_of_ble_eq_true rfl) (fun C ad _ => ?_)
  show zX C mi_X4_meet (zFin C zrvI ad T R) 0 0 (mf_X4_meet R a0 i1 i2 i3 M) 0 [(0, .ref a0), (1, .int i1), (2, .int i2), (3, .int i3)] [] ad T R M
  unfold mf_X4_meet
  refine zx_iconst (v := 0) (zd me_X4_meet 0 rfl) (by decide) ?_
  refine zx_istore (ls' := [(4, .int (0 : Int32)), (0, .ref a0), (1, .int i1), (2, .int i2), (3, .int i3)]) (zd me_X4_meet 1 rfl) (Nat.le_of_ble_eq_true rfl) rfl ?_
  refine zx_iload_n (i := 3) (zd me_X4_meet 2 rfl) rfl 4 rfl ?_
  refine zx_istore (ls' := [(5, .int i3), (4, .int (0 : Int32)), (0, .ref a0), (1, .int i1), (2, .int i2), (3, .int i3)]) (zd me_X4_meet 3 rfl) (Nat.le_of_ble_eq_true rfl) rfl ?_
  refine zx_iconst (v := 0) (zd me_X4_meet 4 rfl) (by decide) ?_
  refine zx_istore (ls' := [(6, .int (0 : Int32)), (5, .int i3), (4, .int (0 : Int32)), (0, .ref a0), (1, .int i1), (2, .int i2), (3, .int i3)]) (zd me_X4_meet 5 rfl) (Nat.le_of_ble_eq_true rfl) rfl ?_
  refine zx_loc [3, 4, 5, 2, 1, 0] rfl ?_
  exact mt_X4_meet_l9 h0 zF i1 i2 (0 : Int32) i3 (0 : Int32) M
def mf_X4_gapOf_l2 (R : zRR) (a0 : Nat) : Nat → Int32 → Int32 → Int32 → zMem → Option (Int32 × zMem)
  | 0, _, _, _, _ => none
  | fuel + 1, i1, i2, i3, M =>
    if (180 : Int32) < i3 then
      (some ((-1 : Int32), M))
    else
      (zcl (mf_X4_meet R a0 i1 i2 i3 M) fun r3 M2 =>
      if r3 = 0 then
        (some (i3, M2))
      else
        (mf_X4_gapOf_l2 R a0 fuel i1 i2 (i3 + 1) M2))
theorem mt_X4_gapOf_l2 {C : zCx} {ad : Nat → Nat} {T : zTT} {R : zRR} {a0 : Nat} (h0 : zi4 T R a0) : ∀ (fuel : Nat) (i1 : Int32) (i2 : Int32) (i3 : Int32) (M : zMem), zX C mi_X4_gapOf (zFin C zrvI ad T R) 0 0 (mf_X4_gapOf_l2 R a0 fuel i1 i2 i3 M) 2 [(0, .ref a0), (1, .int i1), (2, .int i2), (3, .int i3)] [] ad T R M := by
  intro fuel
  induction fuel with
  | zero => intros; exact zx_none
  | succ fuel ih =>
    intro i1 i2 i3 M
    rw [mf_X4_gapOf_l2]
    refine zx_iload_n (i := 3) (zd me_X4_gapOf 2 rfl) rfl 3 rfl ?_
    refine zx_sipush (v := 180) (zd me_X4_gapOf 3 rfl) (by decide) ?_
    refine zx_icmp_gt (tgt := 27) (zd me_X4_gapOf 4 rfl) (by decide) (fun c1 => ?_) (fun c1 => ?_)
    · refine zx_iconst (v := (-1)) (zd me_X4_gapOf 15 rfl) (by decide) ?_
      exact zx_iret (zd me_X4_gapOf 16 rfl) rfl
    · refine zx_aload_n (i := 0) (zd me_X4_gapOf 5 rfl) rfl 0 rfl ?_
      refine zx_iload_n (i := 1) (zd me_X4_gapOf 6 rfl) rfl 1 rfl ?_
      refine zx_iload_n (i := 2) (zd me_X4_gapOf 7 rfl) rfl 2 rfl ?_
      refine zx_iload_n (i := 3) (zd me_X4_gapOf 8 rfl) rfl 3 rfl ?_
      refine zx_callVI3 (zd me_X4_gapOf 9 rfl) (mc_X4_meet (zl C) h0 i1 i2 i3 M) lk_X4_51 ⟨(Nat.le_of_ble_eq_true rfl), (Nat.le_of_ble_eq_true rfl)⟩ (Nat.le_of_ble_eq_true rfl) (zi4_c h0) rfl (fun r3 M2 => ?_)
      refine zx_if_ne (tgt := 21) (zd me_X4_gapOf 10 rfl) (by decide) (fun c4 => ?_) (fun c4 => ?_)
      · refine zx_iinc (v := 1) (ls' := [(3, .int (i3 + 1)), (0, .ref a0), (1, .int i1), (2, .int i2)]) (zd me_X4_gapOf 13 rfl) (Nat.le_of_ble_eq_true rfl) 3 rfl (by decide) rfl ?_
        refine zx_goto (tgt := 2) (zd me_X4_gapOf 14 rfl) (by decide) ?_
        refine zx_loc [1, 2, 3, 0] rfl ?_
        exact ih i1 i2 (i3 + 1) M2
      · refine zx_iload_n (i := 3) (zd me_X4_gapOf 11 rfl) rfl 3 rfl ?_
        exact zx_iret (zd me_X4_gapOf 12 rfl) rfl
def mf_X4_gapOf (R : zRR) (a0 : Nat) (i1 : Int32) (i2 : Int32) (M : zMem) : Option (Int32 × zMem) :=
  mf_X4_gapOf_l2 R a0 zF i1 i2 (0 : Int32) M
theorem mc_X4_gapOf (l : Launch) {T : zTT} {R : zRR} {a0 : Nat} (h0 : zi4 T R a0) (i1 : Int32) (i2 : Int32) (M : zMem) : zMS l yX4_gapOf mi_X4_gapOf zrvI (mf_X4_gapOf R a0 i1 i2 M) [.ref a0, .int i1, .int i2] T R M := by
  refine zMS.of (by decide +kernel) rfl ⟨rfl, rfl⟩ (Nat.le_of_ble_eq_true rfl) (fun C ad _ => ?_)
  show zX C mi_X4_gapOf (zFin C zrvI ad T R) 0 0 (mf_X4_gapOf R a0 i1 i2 M) 0 [(0, .ref a0), (1, .int i1), (2, .int i2)] [] ad T R M
  unfold mf_X4_gapOf
  refine zx_iconst (v := 0) (zd me_X4_gapOf 0 rfl) (by decide) ?_
  refine zx_istore_n (i := 3) (ls' := [(3, .int (0 : Int32)), (0, .ref a0), (1, .int i1), (2, .int i2)]) (zd me_X4_gapOf 1 rfl) rfl (Nat.le_of_ble_eq_true rfl) rfl ?_
  refine zx_loc [1, 2, 3, 0] rfl ?_
  exact mt_X4_gapOf_l2 h0 zF i1 i2 (0 : Int32) M
def mf_X4_gapsOfRow_l4 (R : zRR) (a0 : Nat) : Nat → Int32 → Int32 → Int32 → zMem → Option (Int32 × zMem)
  | 0, _, _, _, _ => none
  | fuel + 1, i1, i2, i3, M =>
    if i1 ≤ (i3 + (1 : Int32)) then
      (some (i2, M))
    else
      (zald 5 i3 fun j2 =>
      zald 5 (i3 + (1 : Int32)) fun j3 =>
      zald 25 (((M.1 (zrf R a0 2) j2) * (5 : Int32)) + (M.1 (zrf R a0 2) j3)) fun j4 =>
      zlet ((i2 + (M.1 (zrf R a0 1) j4)) : Int32) fun x5 =>
      mf_X4_gapsOfRow_l4 R a0 fuel i1 x5 (i3 + 1) M)
theorem mt_X4_gapsOfRow_l4 {C : zCx} {ad : Nat → Nat} {T : zTT} {R : zRR} {a0 : Nat} (h0 : zi4 T R a0) : ∀ (fuel : Nat) (i1 : Int32) (i2 : Int32) (i3 : Int32) (M : zMem), zX C mi_X4_gapsOfRow (zFin C zrvI ad T R) 0 0 (mf_X4_gapsOfRow_l4 R a0 fuel i1 i2 i3 M) 4 [(0, .ref a0), (1, .int i1), (2, .int i2), (3, .int i3)] [] ad T R M := by
  intro fuel
  induction fuel with
  | zero => intros; exact zx_none
  | succ fuel ih =>
    intro i1 i2 i3 M
    rw [mf_X4_gapsOfRow_l4]
    refine zx_iload_n (i := 3) (zd me_X4_gapsOfRow 4 rfl) rfl 3 rfl ?_
    refine zx_iconst (v := 1) (zd me_X4_gapsOfRow 5 rfl) (by decide) ?_
    refine zx_iadd (zd me_X4_gapsOfRow 6 rfl) ?_
    refine zx_iload_n (i := 1) (zd me_X4_gapsOfRow 7 rfl) rfl 1 rfl ?_
    refine zx_icmp_ge (tgt := 42) (zd me_X4_gapsOfRow 8 rfl) (by decide) (fun c1 => ?_) (fun c1 => ?_)
    · refine zx_iload_n (i := 2) (zd me_X4_gapsOfRow 30 rfl) rfl 2 rfl ?_
      exact zx_iret (zd me_X4_gapsOfRow 31 rfl) rfl
    · refine zx_iload_n (i := 2) (zd me_X4_gapsOfRow 9 rfl) rfl 2 rfl ?_
      refine zx_aload_n (i := 0) (zd me_X4_gapsOfRow 10 rfl) rfl 0 rfl ?_
      refine zx_getR (zd me_X4_gapsOfRow 11 rfl) fl_X4_9 (zi4_c h0) rfl (zi4_r1 h0) ?_
      refine zx_aload_n (i := 0) (zd me_X4_gapsOfRow 12 rfl) rfl 0 rfl ?_
      refine zx_getR (zd me_X4_gapsOfRow 13 rfl) fl_X4_15 (zi4_c h0) rfl (zi4_r2 h0) ?_
      refine zx_iload_n (i := 3) (zd me_X4_gapsOfRow 14 rfl) rfl 3 rfl ?_
      refine zx_iald (zd me_X4_gapsOfRow 15 rfl) (zi4_t2 h0) (fun j2 hj2 => ?_)
      refine zx_iconst (v := 5) (zd me_X4_gapsOfRow 16 rfl) (by decide) ?_
      refine zx_imul (zd me_X4_gapsOfRow 17 rfl) ?_
      refine zx_aload_n (i := 0) (zd me_X4_gapsOfRow 18 rfl) rfl 0 rfl ?_
      refine zx_getR (zd me_X4_gapsOfRow 19 rfl) fl_X4_15 (zi4_c h0) rfl (zi4_r2 h0) ?_
      refine zx_iload_n (i := 3) (zd me_X4_gapsOfRow 20 rfl) rfl 3 rfl ?_
      refine zx_iconst (v := 1) (zd me_X4_gapsOfRow 21 rfl) (by decide) ?_
      refine zx_iadd (zd me_X4_gapsOfRow 22 rfl) ?_
      refine zx_iald (zd me_X4_gapsOfRow 23 rfl) (zi4_t2 h0) (fun j3 hj3 => ?_)
      refine zx_iadd (zd me_X4_gapsOfRow 24 rfl) ?_
      refine zx_iald (zd me_X4_gapsOfRow 25 rfl) (zi4_t1 h0) (fun j4 hj4 => ?_)
      refine zx_iadd (zd me_X4_gapsOfRow 26 rfl) ?_
      refine zx_leti (fun x5 => ?_)
      refine zx_istore_n (i := 2) (ls' := [(2, .int x5), (0, .ref a0), (1, .int i1), (3, .int i3)]) (zd me_X4_gapsOfRow 27 rfl) rfl (Nat.le_of_ble_eq_true rfl) rfl ?_
      refine zx_iinc (v := 1) (ls' := [(3, .int (i3 + 1)), (2, .int x5), (0, .ref a0), (1, .int i1)]) (zd me_X4_gapsOfRow 28 rfl) (Nat.le_of_ble_eq_true rfl) 3 rfl (by decide) rfl ?_
      refine zx_goto (tgt := 4) (zd me_X4_gapsOfRow 29 rfl) (by decide) ?_
      refine zx_loc [2, 3, 1, 0] rfl ?_
      exact ih i1 x5 (i3 + 1) M
def mf_X4_gapsOfRow (R : zRR) (a0 : Nat) (i1 : Int32) (M : zMem) : Option (Int32 × zMem) :=
  mf_X4_gapsOfRow_l4 R a0 zF i1 (0 : Int32) (0 : Int32) M
theorem mc_X4_gapsOfRow (l : Launch) {T : zTT} {R : zRR} {a0 : Nat} (h0 : zi4 T R a0) (i1 : Int32) (M : zMem) : zMS l yX4_gapsOfRow mi_X4_gapsOfRow zrvI (mf_X4_gapsOfRow R a0 i1 M) [.ref a0, .int i1] T R M := by
  refine zMS.of (by decide +kernel) rfl ⟨rfl, rfl⟩ (Nat.le_of_ble_eq_true rfl) (fun C ad _ => ?_)
  show zX C mi_X4_gapsOfRow (zFin C zrvI ad T R) 0 0 (mf_X4_gapsOfRow R a0 i1 M) 0 [(0, .ref a0), (1, .int i1)] [] ad T R M
  unfold mf_X4_gapsOfRow
  refine zx_iconst (v := 0) (zd me_X4_gapsOfRow 0 rfl) (by decide) ?_
  refine zx_istore_n (i := 2) (ls' := [(2, .int (0 : Int32)), (0, .ref a0), (1, .int i1)]) (zd me_X4_gapsOfRow 1 rfl) rfl (Nat.le_of_ble_eq_true rfl) rfl ?_
  refine zx_iconst (v := 0) (zd me_X4_gapsOfRow 2 rfl) (by decide) ?_
  refine zx_istore_n (i := 3) (ls' := [(3, .int (0 : Int32)), (2, .int (0 : Int32)), (0, .ref a0), (1, .int i1)]) (zd me_X4_gapsOfRow 3 rfl) rfl (Nat.le_of_ble_eq_true rfl) rfl ?_
  refine zx_loc [2, 3, 1, 0] rfl ?_
  exact mt_X4_gapsOfRow_l4 h0 zF i1 (0 : Int32) (0 : Int32) M
def mf_X4_bestChain_l24 (R : zRR) (a0 : Nat) (H10 : Int32 → Int32 → zMem → Option (Int32 × zMem)) : Nat → Int32 → Int32 → Int32 → zMem → Option (Int32 × zMem)
  | 0, _, _, _, _ => none
  | fuel + 1, i1, i2, i3, M =>
    if i1 ≤ i3 then
      (H10 i1 (i2 + 1) M)
    else
      (zcl (mf_X4_gapOf R a0 i2 i3 M) fun r13 M12 =>
      zald 25 ((i2 * (5 : Int32)) + i3) fun j14 =>
      zlet (zwI M12 (zrf R a0 1) j14 r13) fun M15 =>
      mf_X4_bestChain_l24 R a0 H10 fuel i1 i2 (i3 + 1) M15)
theorem mt_X4_bestChain_l24 {C : zCx} {ad : Nat → Nat} {T : zTT} {R : zRR} {a0 : Nat} (h0 : zi4 T R a0) {H10 : Int32 → Int32 → zMem → Option (Int32 × zMem)} (hH10 : ∀ (i1 : Int32) (i2 : Int32) (M : zMem), zX C mi_X4_bestChain (zFin C zrvI ad T R) 0 0 (H10 i1 i2 M) 10 [(0, .ref a0), (1, .int i1), (2, .int i2)] [] ad T R M) : ∀ (fuel : Nat) (i1 : Int32) (i2 : Int32) (i3 : Int32) (M : zMem), zX C mi_X4_bestChain (zFin C zrvI ad T R) 0 0 (mf_X4_bestChain_l24 R a0 H10 fuel i1 i2 i3 M) 24 [(0, .ref a0), (1, .int i1), (2, .int i2), (3, .int i3)] [] ad T R M := by
  intro fuel
  induction fuel with
  | zero => intros; exact zx_none
  | succ fuel ih =>
    intro i1 i2 i3 M
    rw [mf_X4_bestChain_l24]
    refine zx_iload_n (i := 3) (zd me_X4_bestChain 16 rfl) rfl 3 rfl ?_
    refine zx_iload_n (i := 1) (zd me_X4_bestChain 17 rfl) rfl 1 rfl ?_
    refine zx_icmp_ge (tgt := 51) (zd me_X4_bestChain 18 rfl) (by decide) (fun c11 => ?_) (fun c11 => ?_)
    · refine zx_iinc (v := 1) (ls' := [(2, .int (i2 + 1)), (0, .ref a0), (1, .int i1), (3, .int i3)]) (zd me_X4_bestChain 33 rfl) (Nat.le_of_ble_eq_true rfl) 2 rfl (by decide) rfl ?_
      refine zx_goto (tgt := 10) (zd me_X4_bestChain 34 rfl) (by decide) ?_
      refine zx_loc [1, 2, 0] rfl ?_
      exact hH10 i1 (i2 + 1) M
    · refine zx_aload_n (i := 0) (zd me_X4_bestChain 19 rfl) rfl 0 rfl ?_
      refine zx_getR (zd me_X4_bestChain 20 rfl) fl_X4_9 (zi4_c h0) rfl (zi4_r1 h0) ?_
      refine zx_iload_n (i := 2) (zd me_X4_bestChain 21 rfl) rfl 2 rfl ?_
      refine zx_iconst (v := 5) (zd me_X4_bestChain 22 rfl) (by decide) ?_
      refine zx_imul (zd me_X4_bestChain 23 rfl) ?_
      refine zx_iload_n (i := 3) (zd me_X4_bestChain 24 rfl) rfl 3 rfl ?_
      refine zx_iadd (zd me_X4_bestChain 25 rfl) ?_
      refine zx_aload_n (i := 0) (zd me_X4_bestChain 26 rfl) rfl 0 rfl ?_
      refine zx_iload_n (i := 2) (zd me_X4_bestChain 27 rfl) rfl 2 rfl ?_
      refine zx_iload_n (i := 3) (zd me_X4_bestChain 28 rfl) rfl 3 rfl ?_
      refine zx_callVI2 (zd me_X4_bestChain 29 rfl) (mc_X4_gapOf (zl C) h0 i2 i3 M) lk_X4_55 ⟨(Nat.le_of_ble_eq_true rfl), (Nat.le_of_ble_eq_true rfl)⟩ (Nat.le_of_ble_eq_true rfl) (zi4_c h0) rfl (fun r13 M12 => ?_)
      refine zx_iast (zd me_X4_bestChain 30 rfl) (zi4_t1 h0) (fun M15 => ?_)
      refine zx_iinc (v := 1) (ls' := [(3, .int (i3 + 1)), (0, .ref a0), (1, .int i1), (2, .int i2)]) (zd me_X4_bestChain 31 rfl) (Nat.le_of_ble_eq_true rfl) 3 rfl (by decide) rfl ?_
      refine zx_goto (tgt := 24) (zd me_X4_bestChain 32 rfl) (by decide) ?_
      refine zx_loc [1, 2, 3, 0] rfl ?_
      exact ih i1 i2 (i3 + 1) M15
def mf_X4_bestChain_b110 (R : zRR) (a0 : Nat) (H64 : Int32 → Int32 → Int32 → Int32 → zMem → Option (Int32 × zMem)) (i1 : Int32) (i2 : Int32) (i4 : Int32) (M : zMem) : Option (Int32 × zMem) :=
  zcl (mf_X11_makeNextRow R (zrf R a0 2) 5 i1 M) fun r19 M18 =>
  H64 i1 i2 r19 (i4 + 1) M18
theorem mt_X4_bestChain_b110 {C : zCx} {ad : Nat → Nat} {T : zTT} {R : zRR} {a0 : Nat} (h0 : zi4 T R a0) {H64 : Int32 → Int32 → Int32 → Int32 → zMem → Option (Int32 × zMem)} (hH64 : ∀ (i1 : Int32) (i2 : Int32) (i3 : Int32) (i4 : Int32) (M : zMem), zX C mi_X4_bestChain (zFin C zrvI ad T R) 0 0 (H64 i1 i2 i3 i4 M) 64 [(0, .ref a0), (1, .int i1), (2, .int i2), (3, .int i3), (4, .int i4)] [] ad T R M) (i1 : Int32) (i2 : Int32) (i4 : Int32) (M : zMem) : zX C mi_X4_bestChain (zFin C zrvI ad T R) 0 0 (mf_X4_bestChain_b110 R a0 H64 i1 i2 i4 M) 110 [(0, .ref a0), (1, .int i1), (2, .int i2), (4, .int i4)] [] ad T R M := by
  unfold mf_X4_bestChain_b110
  refine zx_aload_n (i := 0) (zd me_X4_bestChain 66 rfl) rfl 0 rfl ?_
  refine zx_getR (zd me_X4_bestChain 67 rfl) fl_X4_15 (zi4_c h0) rfl (zi4_r2 h0) ?_
  refine zx_iload_n (i := 1) (zd me_X4_bestChain 68 rfl) rfl 1 rfl ?_
  refine zx_callSI2 (zd me_X4_bestChain 69 rfl) (mc_X11_makeNextRow (zl C) (zi4_t2 h0) i1 M) lk_X4_67 ⟨(Nat.le_of_ble_eq_true rfl), (Nat.le_of_ble_eq_true rfl)⟩ (Nat.le_of_ble_eq_true rfl) (fun r19 M18 => ?_)
  refine zx_istore_n (i := 3) (ls' := [(3, .int r19), (0, .ref a0), (1, .int i1), (2, .int i2), (4, .int i4)]) (zd me_X4_bestChain 70 rfl) rfl (Nat.le_of_ble_eq_true rfl) rfl ?_
  refine zx_iinc (v := 1) (ls' := [(4, .int (i4 + 1)), (3, .int r19), (0, .ref a0), (1, .int i1), (2, .int i2)]) (zd me_X4_bestChain 71 rfl) (Nat.le_of_ble_eq_true rfl) 4 rfl (by decide) rfl ?_
  refine zx_goto (tgt := 64) (zd me_X4_bestChain 72 rfl) (by decide) ?_
  refine zx_loc [2, 3, 4, 1, 0] rfl ?_
  exact hH64 i1 i2 r19 (i4 + 1) M18
def mf_X4_bestChain_b93 (R : zRR) (a0 : Nat) (H64 : Int32 → Int32 → Int32 → Int32 → zMem → Option (Int32 × zMem)) (i1 : Int32) (i4 : Int32) (i5 : Int32) (M : zMem) : Option (Int32 × zMem) :=
  zlet (zrowI M (zrf R a0 3) (va_cpy (M.1 (zrf R a0 2)) (M.1 (zrf R a0 3)) (0 : Int32).toNatClampNeg (0 : Int32).toNatClampNeg (5 : Int32).toNatClampNeg)) fun M17 =>
  mf_X4_bestChain_b110 R a0 H64 i1 i5 i4 M17
theorem mt_X4_bestChain_b93 {C : zCx} {ad : Nat → Nat} {T : zTT} {R : zRR} {a0 : Nat} (h0 : zi4 T R a0) {H64 : Int32 → Int32 → Int32 → Int32 → zMem → Option (Int32 × zMem)} (hH64 : ∀ (i1 : Int32) (i2 : Int32) (i3 : Int32) (i4 : Int32) (M : zMem), zX C mi_X4_bestChain (zFin C zrvI ad T R) 0 0 (H64 i1 i2 i3 i4 M) 64 [(0, .ref a0), (1, .int i1), (2, .int i2), (3, .int i3), (4, .int i4)] [] ad T R M) (i1 : Int32) (i4 : Int32) (i5 : Int32) (M : zMem) : zX C mi_X4_bestChain (zFin C zrvI ad T R) 0 0 (mf_X4_bestChain_b93 R a0 H64 i1 i4 i5 M) 93 [(0, .ref a0), (1, .int i1), (4, .int i4), (5, .int i5)] [] ad T R M := by
  unfold mf_X4_bestChain_b93
  refine zx_iload (zd me_X4_bestChain 56 rfl) 3 rfl ?_
  refine zx_istore_n (i := 2) (ls' := [(2, .int i5), (0, .ref a0), (1, .int i1), (4, .int i4), (5, .int i5)]) (zd me_X4_bestChain 57 rfl) rfl (Nat.le_of_ble_eq_true rfl) rfl ?_
  refine zx_aload_n (i := 0) (zd me_X4_bestChain 58 rfl) rfl 1 rfl ?_
  refine zx_getR (zd me_X4_bestChain 59 rfl) fl_X4_15 (zi4_c h0) rfl (zi4_r2 h0) ?_
  refine zx_iconst (v := 0) (zd me_X4_bestChain 60 rfl) (by decide) ?_
  refine zx_aload_n (i := 0) (zd me_X4_bestChain 61 rfl) rfl 1 rfl ?_
  refine zx_getR (zd me_X4_bestChain 62 rfl) fl_X4_18 (zi4_c h0) rfl (zi4_r3 h0) ?_
  refine zx_iconst (v := 0) (zd me_X4_bestChain 63 rfl) (by decide) ?_
  refine zx_iconst (v := 5) (zd me_X4_bestChain 64 rfl) (by decide) ?_
  refine zx_copyI (zd me_X4_bestChain 65 rfl) lk_X4_61 ⟨(Nat.le_of_ble_eq_true rfl), (Nat.le_of_ble_eq_true rfl)⟩ (zi4_t2 h0) (zi4_t3 h0) ⟨by decide, by decide, by decide, by decide, by decide⟩ (fun M17 => ?_)
  refine zx_loc [1, 2, 0, 3] rfl ?_
  exact mt_X4_bestChain_b110 h0 hH64 i1 i5 i4 M17
def mf_X4_bestChain_b125 (R : zRR) (a0 : Nat) (i1 : Int32) (i2 : Int32) (M : zMem) : Option (Int32 × zMem) :=
  zlet (zwI M a0 4 i1) fun M16 =>
  some (i2, M16)
theorem mt_X4_bestChain_b125 {C : zCx} {ad : Nat → Nat} {T : zTT} {R : zRR} {a0 : Nat} (h0 : zi4 T R a0) (i1 : Int32) (i2 : Int32) (M : zMem) : zX C mi_X4_bestChain (zFin C zrvI ad T R) 0 0 (mf_X4_bestChain_b125 R a0 i1 i2 M) 125 [(0, .ref a0), (1, .int i1), (2, .int i2)] [] ad T R M := by
  unfold mf_X4_bestChain_b125
  refine zx_aload_n (i := 0) (zd me_X4_bestChain 73 rfl) rfl 0 rfl ?_
  refine zx_iload_n (i := 1) (zd me_X4_bestChain 74 rfl) rfl 1 rfl ?_
  refine zx_putI (zd me_X4_bestChain 75 rfl) fp_X4_71 (zi4_c h0) rfl (fun M16 _ => ?_)
  refine zx_iload_n (i := 2) (zd me_X4_bestChain 76 rfl) rfl 2 rfl ?_
  exact zx_iret (zd me_X4_bestChain 77 rfl) rfl
def mf_X4_bestChain_l64 (R : zRR) (a0 : Nat) : Nat → Int32 → Int32 → Int32 → Int32 → zMem → Option (Int32 × zMem)
  | 0, _, _, _, _, _ => none
  | fuel + 1, i1, i2, i3, i4, M =>
    if (120 : Int32) ≤ i4 then
      (mf_X4_bestChain_b125 R a0 i1 i2 M)
    else
      (if i3 = 0 then
        (mf_X4_bestChain_b125 R a0 i1 i2 M)
      else
        (zcl (mf_X4_gapsOfRow R a0 i1 M) fun r8 M7 =>
        if i2 = (-1 : Int32) then
          (mf_X4_bestChain_b93 R a0 (mf_X4_bestChain_l64 R a0 fuel) i1 i4 r8 M7)
        else
          (if i2 ≤ r8 then
            (mf_X4_bestChain_b110 R a0 (mf_X4_bestChain_l64 R a0 fuel) i1 i2 i4 M7)
          else
            (mf_X4_bestChain_b93 R a0 (mf_X4_bestChain_l64 R a0 fuel) i1 i4 r8 M7))))
theorem mt_X4_bestChain_l64 {C : zCx} {ad : Nat → Nat} {T : zTT} {R : zRR} {a0 : Nat} (h0 : zi4 T R a0) : ∀ (fuel : Nat) (i1 : Int32) (i2 : Int32) (i3 : Int32) (i4 : Int32) (M : zMem), zX C mi_X4_bestChain (zFin C zrvI ad T R) 0 0 (mf_X4_bestChain_l64 R a0 fuel i1 i2 i3 i4 M) 64 [(0, .ref a0), (1, .int i1), (2, .int i2), (3, .int i3), (4, .int i4)] [] ad T R M := by
  intro fuel
  induction fuel with
  | zero => intros; exact zx_none
  | succ fuel ih =>
    intro i1 i2 i3 i4 M
    rw [mf_X4_bestChain_l64]
    refine zx_iload (zd me_X4_bestChain 41 rfl) 4 rfl ?_
    refine zx_bipush (v := 120) (zd me_X4_bestChain 42 rfl) (by decide) ?_
    refine zx_icmp_ge (tgt := 125) (zd me_X4_bestChain 43 rfl) (by decide) (fun c5 => ?_) (fun c5 => ?_)
    · refine zx_loc [0, 1, 2] rfl ?_
      exact mt_X4_bestChain_b125 h0 i1 i2 M
    · refine zx_iload_n (i := 3) (zd me_X4_bestChain 44 rfl) rfl 3 rfl ?_
      refine zx_if_eq (tgt := 125) (zd me_X4_bestChain 45 rfl) (by decide) (fun c6 => ?_) (fun c6 => ?_)
      · refine zx_loc [0, 1, 2] rfl ?_
        exact mt_X4_bestChain_b125 h0 i1 i2 M
      · refine zx_aload_n (i := 0) (zd me_X4_bestChain 46 rfl) rfl 0 rfl ?_
        refine zx_iload_n (i := 1) (zd me_X4_bestChain 47 rfl) rfl 1 rfl ?_
        refine zx_callVI1 (zd me_X4_bestChain 48 rfl) (mc_X4_gapsOfRow (zl C) h0 i1 M) lk_X4_58 ⟨(Nat.le_of_ble_eq_true rfl), (Nat.le_of_ble_eq_true rfl)⟩ (Nat.le_of_ble_eq_true rfl) (zi4_c h0) rfl (fun r8 M7 => ?_)
        refine zx_istore (ls' := [(5, .int r8), (0, .ref a0), (1, .int i1), (2, .int i2), (3, .int i3), (4, .int i4)]) (zd me_X4_bestChain 49 rfl) (Nat.le_of_ble_eq_true rfl) rfl ?_
        refine zx_iload_n (i := 2) (zd me_X4_bestChain 50 rfl) rfl 3 rfl ?_
        refine zx_iconst (v := (-1)) (zd me_X4_bestChain 51 rfl) (by decide) ?_
        refine zx_icmp_eq (tgt := 93) (zd me_X4_bestChain 52 rfl) (by decide) (fun c9 => ?_) (fun c9 => ?_)
        · refine zx_loc [1, 2, 5, 0] rfl ?_
          exact mt_X4_bestChain_b93 h0 ih i1 i4 r8 M7
        · refine zx_iload (zd me_X4_bestChain 53 rfl) 0 rfl ?_
          refine zx_iload_n (i := 2) (zd me_X4_bestChain 54 rfl) rfl 3 rfl ?_
          refine zx_icmp_ge (tgt := 110) (zd me_X4_bestChain 55 rfl) (by decide) (fun c10 => ?_) (fun c10 => ?_)
          · refine zx_loc [1, 2, 3, 5] rfl ?_
            exact mt_X4_bestChain_b110 h0 ih i1 i2 i4 M7
          · refine zx_loc [1, 2, 5, 0] rfl ?_
            exact mt_X4_bestChain_b93 h0 ih i1 i4 r8 M7
def mf_X4_bestChain_l10 (R : zRR) (a0 : Nat) : Nat → Int32 → Int32 → zMem → Option (Int32 × zMem)
  | 0, _, _, _ => none
  | fuel + 1, i1, i2, M =>
    if i1 ≤ i2 then
      (mf_X4_bestChain_l64 R a0 zF i1 (-1 : Int32) (1 : Int32) (0 : Int32) M)
    else
      (zald 5 i2 fun j3 =>
      zlet (zwI M (zrf R a0 2) j3 i2) fun M4 =>
      mf_X4_bestChain_l24 R a0 (mf_X4_bestChain_l10 R a0 fuel) zF i1 i2 (0 : Int32) M4)
theorem mt_X4_bestChain_l10 {C : zCx} {ad : Nat → Nat} {T : zTT} {R : zRR} {a0 : Nat} (h0 : zi4 T R a0) : ∀ (fuel : Nat) (i1 : Int32) (i2 : Int32) (M : zMem), zX C mi_X4_bestChain (zFin C zrvI ad T R) 0 0 (mf_X4_bestChain_l10 R a0 fuel i1 i2 M) 10 [(0, .ref a0), (1, .int i1), (2, .int i2)] [] ad T R M := by
  intro fuel
  induction fuel with
  | zero => intros; exact zx_none
  | succ fuel ih =>
    intro i1 i2 M
    rw [mf_X4_bestChain_l10]
    refine zx_iload_n (i := 2) (zd me_X4_bestChain 6 rfl) rfl 2 rfl ?_
    refine zx_iload_n (i := 1) (zd me_X4_bestChain 7 rfl) rfl 1 rfl ?_
    refine zx_icmp_ge (tgt := 57) (zd me_X4_bestChain 8 rfl) (by decide) (fun c2 => ?_) (fun c2 => ?_)
    · refine zx_iconst (v := (-1)) (zd me_X4_bestChain 35 rfl) (by decide) ?_
      refine zx_istore_n (i := 2) (ls' := [(2, .int (-1 : Int32)), (0, .ref a0), (1, .int i1)]) (zd me_X4_bestChain 36 rfl) rfl (Nat.le_of_ble_eq_true rfl) rfl ?_
      refine zx_iconst (v := 1) (zd me_X4_bestChain 37 rfl) (by decide) ?_
      refine zx_istore_n (i := 3) (ls' := [(3, .int (1 : Int32)), (2, .int (-1 : Int32)), (0, .ref a0), (1, .int i1)]) (zd me_X4_bestChain 38 rfl) rfl (Nat.le_of_ble_eq_true rfl) rfl ?_
      refine zx_iconst (v := 0) (zd me_X4_bestChain 39 rfl) (by decide) ?_
      refine zx_istore (ls' := [(4, .int (0 : Int32)), (3, .int (1 : Int32)), (2, .int (-1 : Int32)), (0, .ref a0), (1, .int i1)]) (zd me_X4_bestChain 40 rfl) (Nat.le_of_ble_eq_true rfl) rfl ?_
      refine zx_loc [3, 4, 2, 1, 0] rfl ?_
      exact mt_X4_bestChain_l64 h0 zF i1 (-1 : Int32) (1 : Int32) (0 : Int32) M
    · refine zx_aload_n (i := 0) (zd me_X4_bestChain 9 rfl) rfl 0 rfl ?_
      refine zx_getR (zd me_X4_bestChain 10 rfl) fl_X4_15 (zi4_c h0) rfl (zi4_r2 h0) ?_
      refine zx_iload_n (i := 2) (zd me_X4_bestChain 11 rfl) rfl 2 rfl ?_
      refine zx_iload_n (i := 2) (zd me_X4_bestChain 12 rfl) rfl 2 rfl ?_
      refine zx_iast (zd me_X4_bestChain 13 rfl) (zi4_t2 h0) (fun M4 => ?_)
      refine zx_iconst (v := 0) (zd me_X4_bestChain 14 rfl) (by decide) ?_
      refine zx_istore_n (i := 3) (ls' := [(3, .int (0 : Int32)), (0, .ref a0), (1, .int i1), (2, .int i2)]) (zd me_X4_bestChain 15 rfl) rfl (Nat.le_of_ble_eq_true rfl) rfl ?_
      refine zx_loc [1, 2, 3, 0] rfl ?_
      exact mt_X4_bestChain_l24 h0 ih zF i1 i2 (0 : Int32) M4
def mf_X4_bestChain (R : zRR) (a0 : Nat) (M : zMem) : Option (Int32 × zMem) :=
  zlet ((M.1 (zrf R a0 0) 1) : Int32) fun x1 =>
  mf_X4_bestChain_l10 R a0 zF x1 (0 : Int32) M
theorem mc_X4_bestChain (l : Launch) {T : zTT} {R : zRR} {a0 : Nat} (h0 : zi4 T R a0) (M : zMem) : zMS l yX4_bestChain mi_X4_bestChain zrvI (mf_X4_bestChain R a0 M) [.ref a0] T R M := by
  refine zMS.of (by decide +kernel) rfl ⟨rfl, rfl⟩ (Nat.le_of_ble_eq_true rfl) (fun C ad _ => ?_)
  show zX C mi_X4_bestChain (zFin C zrvI ad T R) 0 0 (mf_X4_bestChain R a0 M) 0 [(0, .ref a0)] [] ad T R M
  unfold mf_X4_bestChain
  refine zx_aload_n (i := 0) (zd me_X4_bestChain 0 rfl) rfl 0 rfl ?_
  refine zx_getR (zd me_X4_bestChain 1 rfl) fl_X4_25 (zi4_c h0) rfl (zi4_r0 h0) ?_
  refine zx_getI (zd me_X4_bestChain 2 rfl) fl_X4_42 (zi7_c (zi4_t0 h0)) rfl ?_
  refine zx_leti (fun x1 => ?_)
  refine zx_istore_n (i := 1) (ls' := [(1, .int x1), (0, .ref a0)]) (zd me_X4_bestChain 3 rfl) rfl (Nat.le_of_ble_eq_true rfl) rfl ?_
  refine zx_iconst (v := 0) (zd me_X4_bestChain 4 rfl) (by decide) ?_
  refine zx_istore_n (i := 2) (ls' := [(2, .int (0 : Int32)), (1, .int x1), (0, .ref a0)]) (zd me_X4_bestChain 5 rfl) rfl (Nat.le_of_ble_eq_true rfl) rfl ?_
  refine zx_loc [2, 1, 0] rfl ?_
  exact mt_X4_bestChain_l10 h0 zF x1 (0 : Int32) M
def mf_X4_sheetsThatAsk_b46 (R : zRR) (a0 : Nat) (H5 : Int32 → Int32 → Int32 → Int32 → zMem → Option (Int32 × zMem)) (i1 : Int32) (i2 : Int32) (i3 : Int32) (i4 : Int32) (M : zMem) : Option (Int32 × zMem) :=
  H5 i1 i2 i3 (i4 + 1) M
theorem mt_X4_sheetsThatAsk_b46 {C : zCx} {ad : Nat → Nat} {T : zTT} {R : zRR} {a0 : Nat} (h0 : zi4 T R a0) {H5 : Int32 → Int32 → Int32 → Int32 → zMem → Option (Int32 × zMem)} (hH5 : ∀ (i1 : Int32) (i2 : Int32) (i3 : Int32) (i4 : Int32) (M : zMem), zX C mi_X4_sheetsThatAsk (zFin C zrvI ad T R) 0 0 (H5 i1 i2 i3 i4 M) 5 [(0, .ref a0), (1, .int i1), (2, .int i2), (3, .int i3), (4, .int i4)] [] ad T R M) (i1 : Int32) (i2 : Int32) (i3 : Int32) (i4 : Int32) (M : zMem) : zX C mi_X4_sheetsThatAsk (zFin C zrvI ad T R) 0 0 (mf_X4_sheetsThatAsk_b46 R a0 H5 i1 i2 i3 i4 M) 46 [(0, .ref a0), (1, .int i1), (2, .int i2), (3, .int i3), (4, .int i4)] [] ad T R M := by
  unfold mf_X4_sheetsThatAsk_b46
  refine zx_iinc (v := 1) (ls' := [(4, .int (i4 + 1)), (0, .ref a0), (1, .int i1), (2, .int i2), (3, .int i3)]) (zd me_X4_sheetsThatAsk 26 rfl) (Nat.le_of_ble_eq_true rfl) 4 rfl (by decide) rfl ?_
  refine zx_goto (tgt := 5) (zd me_X4_sheetsThatAsk 27 rfl) (by decide) ?_
  refine zx_loc [1, 2, 3, 4, 0] rfl ?_
  exact hH5 i1 i2 i3 (i4 + 1) M
def mf_X4_sheetsThatAsk_l5 (R : zRR) (a0 : Nat) : Nat → Int32 → Int32 → Int32 → Int32 → zMem → Option (Int32 × zMem)
  | 0, _, _, _, _, _ => none
  | fuel + 1, i1, i2, i3, i4, M =>
    if (M.1 (zrf R a0 0) 2) ≤ i4 then
      (some (i3, M))
    else
      (zald 8 i4 fun j2 =>
      zcl (mf_X7_asked R (zrf R a0 0) (M.1 (zrf R (zrf R a0 0) 8) j2) i1 M) fun r4 M3 =>
      if r4 = i2 then
        (zlet ((i3 ||| ((1 : Int32) <<< (i4 &&& 31))) : Int32) fun x6 =>
        mf_X4_sheetsThatAsk_b46 R a0 (mf_X4_sheetsThatAsk_l5 R a0 fuel) i1 i2 x6 i4 M3)
      else
        (mf_X4_sheetsThatAsk_b46 R a0 (mf_X4_sheetsThatAsk_l5 R a0 fuel) i1 i2 i3 i4 M3))
theorem mt_X4_sheetsThatAsk_l5 {C : zCx} {ad : Nat → Nat} {T : zTT} {R : zRR} {a0 : Nat} (h0 : zi4 T R a0) : ∀ (fuel : Nat) (i1 : Int32) (i2 : Int32) (i3 : Int32) (i4 : Int32) (M : zMem), zX C mi_X4_sheetsThatAsk (zFin C zrvI ad T R) 0 0 (mf_X4_sheetsThatAsk_l5 R a0 fuel i1 i2 i3 i4 M) 5 [(0, .ref a0), (1, .int i1), (2, .int i2), (3, .int i3), (4, .int i4)] [] ad T R M := by
  intro fuel
  induction fuel with
  | zero => intros; exact zx_none
  | succ fuel ih =>
    intro i1 i2 i3 i4 M
    rw [mf_X4_sheetsThatAsk_l5]
    refine zx_iload (zd me_X4_sheetsThatAsk 4 rfl) 4 rfl ?_
    refine zx_aload_n (i := 0) (zd me_X4_sheetsThatAsk 5 rfl) rfl 0 rfl ?_
    refine zx_getR (zd me_X4_sheetsThatAsk 6 rfl) fl_X4_25 (zi4_c h0) rfl (zi4_r0 h0) ?_
    refine zx_getI (zd me_X4_sheetsThatAsk 7 rfl) fl_X4_79 (zi7_c (zi4_t0 h0)) rfl ?_
    refine zx_icmp_ge (tgt := 52) (zd me_X4_sheetsThatAsk 8 rfl) (by decide) (fun c1 => ?_) (fun c1 => ?_)
    · refine zx_iload_n (i := 3) (zd me_X4_sheetsThatAsk 28 rfl) rfl 3 rfl ?_
      exact zx_iret (zd me_X4_sheetsThatAsk 29 rfl) rfl
    · refine zx_aload_n (i := 0) (zd me_X4_sheetsThatAsk 9 rfl) rfl 0 rfl ?_
      refine zx_getR (zd me_X4_sheetsThatAsk 10 rfl) fl_X4_25 (zi4_c h0) rfl (zi4_r0 h0) ?_
      refine zx_aload_n (i := 0) (zd me_X4_sheetsThatAsk 11 rfl) rfl 0 rfl ?_
      refine zx_getR (zd me_X4_sheetsThatAsk 12 rfl) fl_X4_25 (zi4_c h0) rfl (zi4_r0 h0) ?_
      refine zx_getR (zd me_X4_sheetsThatAsk 13 rfl) fl_X4_91 (zi7_c (zi4_t0 h0)) rfl (zi7_r8 (zi4_t0 h0)) ?_
      refine zx_iload (zd me_X4_sheetsThatAsk 14 rfl) 4 rfl ?_
      refine zx_iald (zd me_X4_sheetsThatAsk 15 rfl) (zi7_t8 (zi4_t0 h0)) (fun j2 hj2 => ?_)
      refine zx_iload_n (i := 1) (zd me_X4_sheetsThatAsk 16 rfl) rfl 1 rfl ?_
      refine zx_callVI2 (zd me_X4_sheetsThatAsk 17 rfl) (mc_X7_asked (zl C) (zi4_t0 h0) (M.1 (zrf R (zrf R a0 0) 8) j2) i1 M) lk_X4_38 ⟨(Nat.le_of_ble_eq_true rfl), (Nat.le_of_ble_eq_true rfl)⟩ (Nat.le_of_ble_eq_true rfl) (zi7_c (zi4_t0 h0)) rfl (fun r4 M3 => ?_)
      refine zx_iload_n (i := 2) (zd me_X4_sheetsThatAsk 18 rfl) rfl 2 rfl ?_
      refine zx_icmp_ne (tgt := 46) (zd me_X4_sheetsThatAsk 19 rfl) (by decide) (fun c5 => ?_) (fun c5 => ?_)
      · exact mt_X4_sheetsThatAsk_b46 h0 ih i1 i2 i3 i4 M3
      · refine zx_iload_n (i := 3) (zd me_X4_sheetsThatAsk 20 rfl) rfl 3 rfl ?_
        refine zx_iconst (v := 1) (zd me_X4_sheetsThatAsk 21 rfl) (by decide) ?_
        refine zx_iload (zd me_X4_sheetsThatAsk 22 rfl) 4 rfl ?_
        refine zx_ishl (zd me_X4_sheetsThatAsk 23 rfl) ?_
        refine zx_ior (zd me_X4_sheetsThatAsk 24 rfl) ?_
        refine zx_leti (fun x6 => ?_)
        refine zx_istore_n (i := 3) (ls' := [(3, .int x6), (0, .ref a0), (1, .int i1), (2, .int i2), (4, .int i4)]) (zd me_X4_sheetsThatAsk 25 rfl) rfl (Nat.le_of_ble_eq_true rfl) rfl ?_
        refine zx_loc [1, 2, 3, 0, 4] rfl ?_
        exact mt_X4_sheetsThatAsk_b46 h0 ih i1 i2 x6 i4 M3
def mf_X4_sheetsThatAsk (R : zRR) (a0 : Nat) (i1 : Int32) (i2 : Int32) (M : zMem) : Option (Int32 × zMem) :=
  mf_X4_sheetsThatAsk_l5 R a0 zF i1 i2 (0 : Int32) (0 : Int32) M
theorem mc_X4_sheetsThatAsk (l : Launch) {T : zTT} {R : zRR} {a0 : Nat} (h0 : zi4 T R a0) (i1 : Int32) (i2 : Int32) (M : zMem) : zMS l yX4_sheetsThatAsk mi_X4_sheetsThatAsk zrvI (mf_X4_sheetsThatAsk R a0 i1 i2 M) [.ref a0, .int i1, .int i2] T R M := by
  refine zMS.of (by decide +kernel) rfl ⟨rfl, rfl⟩ (Nat.le_of_ble_eq_true rfl) (fun C ad _ => ?_)
  show zX C mi_X4_sheetsThatAsk (zFin C zrvI ad T R) 0 0 (mf_X4_sheetsThatAsk R a0 i1 i2 M) 0 [(0, .ref a0), (1, .int i1), (2, .int i2)] [] ad T R M
  unfold mf_X4_sheetsThatAsk
  refine zx_iconst (v := 0) (zd me_X4_sheetsThatAsk 0 rfl) (by decide) ?_
  refine zx_istore_n (i := 3) (ls' := [(3, .int (0 : Int32)), (0, .ref a0), (1, .int i1), (2, .int i2)]) (zd me_X4_sheetsThatAsk 1 rfl) rfl (Nat.le_of_ble_eq_true rfl) rfl ?_
  refine zx_iconst (v := 0) (zd me_X4_sheetsThatAsk 2 rfl) (by decide) ?_
  refine zx_istore (ls' := [(4, .int (0 : Int32)), (3, .int (0 : Int32)), (0, .ref a0), (1, .int i1), (2, .int i2)]) (zd me_X4_sheetsThatAsk 3 rfl) (Nat.le_of_ble_eq_true rfl) rfl ?_
  refine zx_loc [2, 3, 4, 1, 0] rfl ?_
  exact mt_X4_sheetsThatAsk_l5 h0 zF i1 i2 (0 : Int32) (0 : Int32) M
def mf_X4_sheetsByTape_l39 (R : zRR) (a0 : Nat) (a1 : Nat) : Nat → Int32 → Int32 → Int32 → zMem → Option (Int32 × zMem)
  | 0, _, _, _, _ => none
  | fuel + 1, i2, i3, i4, M =>
    if i2 ≤ (i4 + (1 : Int32)) then
      (some (i3, M))
    else
      (zald 940 i4 fun j7 =>
      zcl (mf_X7_hasBath R (zrf R a0 0) (M.1 (zrf R a1 0) j7) M) fun r9 M8 =>
      if r9 = 0 then
        (some ((-1 : Int32), M8))
      else
        (zald 940 i4 fun j11 =>
        zald 940 (i4 + (1 : Int32)) fun j12 =>
        zcl (mf_X4_sheetsThatAsk R a0 (M8.1 (zrf R a1 0) j11) (M8.1 (zrf R a1 0) j12) M8) fun r14 M13 =>
        zlet ((i3 &&& r14) : Int32) fun x15 =>
        mf_X4_sheetsByTape_l39 R a0 a1 fuel i2 x15 (i4 + 2) M13))
theorem mt_X4_sheetsByTape_l39 {C : zCx} {ad : Nat → Nat} {T : zTT} {R : zRR} {a0 : Nat} {a1 : Nat} (h0 : zi4 T R a0) (h1 : zi10 T R a1) : ∀ (fuel : Nat) (i2 : Int32) (i3 : Int32) (i4 : Int32) (M : zMem), zX C mi_X4_sheetsByTape (zFin C zrvI ad T R) 0 0 (mf_X4_sheetsByTape_l39 R a0 a1 fuel i2 i3 i4 M) 39 [(0, .ref a0), (1, .ref a1), (2, .int i2), (3, .int i3), (4, .int i4)] [] ad T R M := by
  intro fuel
  induction fuel with
  | zero => intros; exact zx_none
  | succ fuel ih =>
    intro i2 i3 i4 M
    rw [mf_X4_sheetsByTape_l39]
    refine zx_iload (zd me_X4_sheetsByTape 25 rfl) 4 rfl ?_
    refine zx_iconst (v := 1) (zd me_X4_sheetsByTape 26 rfl) (by decide) ?_
    refine zx_iadd (zd me_X4_sheetsByTape 27 rfl) ?_
    refine zx_iload_n (i := 2) (zd me_X4_sheetsByTape 28 rfl) rfl 2 rfl ?_
    refine zx_icmp_ge (tgt := 95) (zd me_X4_sheetsByTape 29 rfl) (by decide) (fun c6 => ?_) (fun c6 => ?_)
    · refine zx_iload_n (i := 3) (zd me_X4_sheetsByTape 57 rfl) rfl 3 rfl ?_
      exact zx_iret (zd me_X4_sheetsByTape 58 rfl) rfl
    · refine zx_aload_n (i := 0) (zd me_X4_sheetsByTape 30 rfl) rfl 0 rfl ?_
      refine zx_getR (zd me_X4_sheetsByTape 31 rfl) fl_X4_25 (zi4_c h0) rfl (zi4_r0 h0) ?_
      refine zx_aload_n (i := 1) (zd me_X4_sheetsByTape 32 rfl) rfl 1 rfl ?_
      refine zx_getR (zd me_X4_sheetsByTape 33 rfl) fl_X4_82 (zi10_c h1) rfl (zi10_r0 h1) ?_
      refine zx_iload (zd me_X4_sheetsByTape 34 rfl) 4 rfl ?_
      refine zx_iald (zd me_X4_sheetsByTape 35 rfl) (zi10_t0 h1) (fun j7 hj7 => ?_)
      refine zx_callVI1 (zd me_X4_sheetsByTape 36 rfl) (mc_X7_hasBath (zl C) (zi4_t0 h0) (M.1 (zrf R a1 0) j7) M) lk_X4_85 ⟨(Nat.le_of_ble_eq_true rfl), (Nat.le_of_ble_eq_true rfl)⟩ (Nat.le_of_ble_eq_true rfl) (zi7_c (zi4_t0 h0)) rfl (fun r9 M8 => ?_)
      refine zx_if_ne (tgt := 66) (zd me_X4_sheetsByTape 37 rfl) (by decide) (fun c10 => ?_) (fun c10 => ?_)
      · refine zx_iload_n (i := 3) (zd me_X4_sheetsByTape 40 rfl) rfl 3 rfl ?_
        refine zx_aload_n (i := 0) (zd me_X4_sheetsByTape 41 rfl) rfl 0 rfl ?_
        refine zx_aload_n (i := 1) (zd me_X4_sheetsByTape 42 rfl) rfl 1 rfl ?_
        refine zx_getR (zd me_X4_sheetsByTape 43 rfl) fl_X4_82 (zi10_c h1) rfl (zi10_r0 h1) ?_
        refine zx_iload (zd me_X4_sheetsByTape 44 rfl) 4 rfl ?_
        refine zx_iald (zd me_X4_sheetsByTape 45 rfl) (zi10_t0 h1) (fun j11 hj11 => ?_)
        refine zx_aload_n (i := 1) (zd me_X4_sheetsByTape 46 rfl) rfl 1 rfl ?_
        refine zx_getR (zd me_X4_sheetsByTape 47 rfl) fl_X4_82 (zi10_c h1) rfl (zi10_r0 h1) ?_
        refine zx_iload (zd me_X4_sheetsByTape 48 rfl) 4 rfl ?_
        refine zx_iconst (v := 1) (zd me_X4_sheetsByTape 49 rfl) (by decide) ?_
        refine zx_iadd (zd me_X4_sheetsByTape 50 rfl) ?_
        refine zx_iald (zd me_X4_sheetsByTape 51 rfl) (zi10_t0 h1) (fun j12 hj12 => ?_)
        refine zx_callVI2 (zd me_X4_sheetsByTape 52 rfl) (mc_X4_sheetsThatAsk (zl C) h0 (M8.1 (zrf R a1 0) j11) (M8.1 (zrf R a1 0) j12) M8) lk_X4_88 ⟨(Nat.le_of_ble_eq_true rfl), (Nat.le_of_ble_eq_true rfl)⟩ (Nat.le_of_ble_eq_true rfl) (zi4_c h0) rfl (fun r14 M13 => ?_)
        refine zx_iand (zd me_X4_sheetsByTape 53 rfl) ?_
        refine zx_leti (fun x15 => ?_)
        refine zx_istore_n (i := 3) (ls' := [(3, .int x15), (0, .ref a0), (1, .ref a1), (2, .int i2), (4, .int i4)]) (zd me_X4_sheetsByTape 54 rfl) rfl (Nat.le_of_ble_eq_true rfl) rfl ?_
        refine zx_iinc (v := 2) (ls' := [(4, .int (i4 + 2)), (3, .int x15), (0, .ref a0), (1, .ref a1), (2, .int i2)]) (zd me_X4_sheetsByTape 55 rfl) (Nat.le_of_ble_eq_true rfl) 4 rfl (by decide) rfl ?_
        refine zx_goto (tgt := 39) (zd me_X4_sheetsByTape 56 rfl) (by decide) ?_
        refine zx_loc [2, 3, 4, 1, 0] rfl ?_
        exact ih i2 x15 (i4 + 2) M13
      · refine zx_iconst (v := (-1)) (zd me_X4_sheetsByTape 38 rfl) (by decide) ?_
        exact zx_iret (zd me_X4_sheetsByTape 39 rfl) rfl
def mf_X4_sheetsByTape (R : zRR) (a0 : Nat) (a1 : Nat) (M : zMem) : Option (Int32 × zMem) :=
  zlet ((M.1 a1 1) : Int32) fun x1 =>
  if x1 < (2 : Int32) then
    (some ((-1 : Int32), M))
  else
    (if (12 : Int32) < x1 then
      (some ((-1 : Int32), M))
    else
      (if (x1 - x1 / (2 : Int32) * (2 : Int32)) = 0 then
        (zlet ((((1 : Int32) <<< ((M.1 (zrf R a0 0) 2) &&& 31)) - (1 : Int32)) : Int32) fun x5 =>
        mf_X4_sheetsByTape_l39 R a0 a1 zF x1 x5 (0 : Int32) M)
      else
        (some ((-1 : Int32), M))))
theorem mc_X4_sheetsByTape (l : Launch) {T : zTT} {R : zRR} {a0 : Nat} {a1 : Nat} (h0 : zi4 T R a0) (h1 : zi10 T R a1) (M : zMem) : zMS l yX4_sheetsByTape mi_X4_sheetsByTape zrvI (mf_X4_sheetsByTape R a0 a1 M) [.ref a0, .ref a1] T R M := by
  refine zMS.of (by decide +kernel) rfl ⟨rfl, rfl⟩ (Nat.le_of_ble_eq_true rfl) (fun C ad _ => ?_)
  show zX C mi_X4_sheetsByTape (zFin C zrvI ad T R) 0 0 (mf_X4_sheetsByTape R a0 a1 M) 0 [(0, .ref a0), (1, .ref a1)] [] ad T R M
  unfold mf_X4_sheetsByTape
  refine zx_aload_n (i := 1) (zd me_X4_sheetsByTape 0 rfl) rfl 1 rfl ?_
  refine zx_getI (zd me_X4_sheetsByTape 1 rfl) fl_X4_74 (zi10_c h1) rfl ?_
  refine zx_leti (fun x1 => ?_)
  refine zx_istore_n (i := 2) (ls' := [(2, .int x1), (0, .ref a0), (1, .ref a1)]) (zd me_X4_sheetsByTape 2 rfl) rfl (Nat.le_of_ble_eq_true rfl) rfl ?_
  refine zx_iload_n (i := 2) (zd me_X4_sheetsByTape 3 rfl) rfl 0 rfl ?_
  refine zx_iconst (v := 2) (zd me_X4_sheetsByTape 4 rfl) (by decide) ?_
  refine zx_icmp_lt (tgt := 22) (zd me_X4_sheetsByTape 5 rfl) (by decide) (fun c2 => ?_) (fun c2 => ?_)
  · refine zx_iconst (v := (-1)) (zd me_X4_sheetsByTape 13 rfl) (by decide) ?_
    exact zx_iret (zd me_X4_sheetsByTape 14 rfl) rfl
  · refine zx_iload_n (i := 2) (zd me_X4_sheetsByTape 6 rfl) rfl 0 rfl ?_
    refine zx_bipush (v := 12) (zd me_X4_sheetsByTape 7 rfl) (by decide) ?_
    refine zx_icmp_gt (tgt := 22) (zd me_X4_sheetsByTape 8 rfl) (by decide) (fun c3 => ?_) (fun c3 => ?_)
    · refine zx_iconst (v := (-1)) (zd me_X4_sheetsByTape 13 rfl) (by decide) ?_
      exact zx_iret (zd me_X4_sheetsByTape 14 rfl) rfl
    · refine zx_iload_n (i := 2) (zd me_X4_sheetsByTape 9 rfl) rfl 0 rfl ?_
      refine zx_iconst (v := 2) (zd me_X4_sheetsByTape 10 rfl) (by decide) ?_
      refine zx_iremN (zd me_X4_sheetsByTape 11 rfl) (by decide) ?_
      refine zx_if_eq (tgt := 24) (zd me_X4_sheetsByTape 12 rfl) (by decide) (fun c4 => ?_) (fun c4 => ?_)
      · refine zx_iconst (v := 1) (zd me_X4_sheetsByTape 15 rfl) (by decide) ?_
        refine zx_aload_n (i := 0) (zd me_X4_sheetsByTape 16 rfl) rfl 1 rfl ?_
        refine zx_getR (zd me_X4_sheetsByTape 17 rfl) fl_X4_25 (zi4_c h0) rfl (zi4_r0 h0) ?_
        refine zx_getI (zd me_X4_sheetsByTape 18 rfl) fl_X4_79 (zi7_c (zi4_t0 h0)) rfl ?_
        refine zx_ishl (zd me_X4_sheetsByTape 19 rfl) ?_
        refine zx_iconst (v := 1) (zd me_X4_sheetsByTape 20 rfl) (by decide) ?_
        refine zx_isub (zd me_X4_sheetsByTape 21 rfl) ?_
        refine zx_leti (fun x5 => ?_)
        refine zx_istore_n (i := 3) (ls' := [(3, .int x5), (2, .int x1), (0, .ref a0), (1, .ref a1)]) (zd me_X4_sheetsByTape 22 rfl) rfl (Nat.le_of_ble_eq_true rfl) rfl ?_
        refine zx_iconst (v := 0) (zd me_X4_sheetsByTape 23 rfl) (by decide) ?_
        refine zx_istore (ls' := [(4, .int (0 : Int32)), (3, .int x5), (2, .int x1), (0, .ref a0), (1, .ref a1)]) (zd me_X4_sheetsByTape 24 rfl) (Nat.le_of_ble_eq_true rfl) rfl ?_
        refine zx_loc [3, 4, 2, 1, 0] rfl ?_
        exact mt_X4_sheetsByTape_l39 h0 h1 zF x1 x5 (0 : Int32) M
      · refine zx_iconst (v := (-1)) (zd me_X4_sheetsByTape 13 rfl) (by decide) ?_
        exact zx_iret (zd me_X4_sheetsByTape 14 rfl) rfl
def mf_X4_chooseQuestion_b82 (R : zRR) (a0 : Nat) (H5 : Int32 → Int32 → Int32 → zMem → Option (Unit × zMem)) (H22 : Int32 → Int32 → Int32 → Int32 → Int32 → zMem → Option (Unit × zMem)) (i1 : Int32) (i2 : Int32) (i3 : Int32) (i4 : Int32) (i5 : Int32) (M : zMem) : Option (Unit × zMem) :=
  H22 i1 i2 i3 i4 (i5 + 1) M
theorem mt_X4_chooseQuestion_b82 {C : zCx} {ad : Nat → Nat} {T : zTT} {R : zRR} {a0 : Nat} (h0 : zi4 T R a0) {H5 : Int32 → Int32 → Int32 → zMem → Option (Unit × zMem)} {H22 : Int32 → Int32 → Int32 → Int32 → Int32 → zMem → Option (Unit × zMem)} (hH5 : ∀ (i1 : Int32) (i2 : Int32) (i3 : Int32) (M : zMem), zX C mi_X4_chooseQuestion (zFin C zrvV ad T R) 0 0 (H5 i1 i2 i3 M) 5 [(0, .ref a0), (1, .int i1), (2, .int i2), (3, .int i3)] [] ad T R M) (hH22 : ∀ (i1 : Int32) (i2 : Int32) (i3 : Int32) (i4 : Int32) (i5 : Int32) (M : zMem), zX C mi_X4_chooseQuestion (zFin C zrvV ad T R) 0 0 (H22 i1 i2 i3 i4 i5 M) 22 [(0, .ref a0), (1, .int i1), (2, .int i2), (3, .int i3), (4, .int i4), (5, .int i5)] [] ad T R M) (i1 : Int32) (i2 : Int32) (i3 : Int32) (i4 : Int32) (i5 : Int32) (M : zMem) : zX C mi_X4_chooseQuestion (zFin C zrvV ad T R) 0 0 (mf_X4_chooseQuestion_b82 R a0 H5 H22 i1 i2 i3 i4 i5 M) 82 [(0, .ref a0), (1, .int i1), (2, .int i2), (3, .int i3), (4, .int i4), (5, .int i5)] [] ad T R M := by
  unfold mf_X4_chooseQuestion_b82
  refine zx_iinc (v := 1) (ls' := [(5, .int (i5 + 1)), (0, .ref a0), (1, .int i1), (2, .int i2), (3, .int i3), (4, .int i4)]) (zd me_X4_chooseQuestion 44 rfl) (Nat.le_of_ble_eq_true rfl) 5 rfl (by decide) rfl ?_
  refine zx_goto (tgt := 22) (zd me_X4_chooseQuestion 45 rfl) (by decide) ?_
  refine zx_loc [1, 2, 3, 4, 5, 0] rfl ?_
  exact hH22 i1 i2 i3 i4 (i5 + 1) M
def mf_X4_chooseQuestion_b102 (R : zRR) (a0 : Nat) (H5 : Int32 → Int32 → Int32 → zMem → Option (Unit × zMem)) (i1 : Int32) (i2 : Int32) (i3 : Int32) (M : zMem) : Option (Unit × zMem) :=
  H5 i1 i2 (i3 + 1) M
theorem mt_X4_chooseQuestion_b102 {C : zCx} {ad : Nat → Nat} {T : zTT} {R : zRR} {a0 : Nat} (h0 : zi4 T R a0) {H5 : Int32 → Int32 → Int32 → zMem → Option (Unit × zMem)} (hH5 : ∀ (i1 : Int32) (i2 : Int32) (i3 : Int32) (M : zMem), zX C mi_X4_chooseQuestion (zFin C zrvV ad T R) 0 0 (H5 i1 i2 i3 M) 5 [(0, .ref a0), (1, .int i1), (2, .int i2), (3, .int i3)] [] ad T R M) (i1 : Int32) (i2 : Int32) (i3 : Int32) (M : zMem) : zX C mi_X4_chooseQuestion (zFin C zrvV ad T R) 0 0 (mf_X4_chooseQuestion_b102 R a0 H5 i1 i2 i3 M) 102 [(0, .ref a0), (1, .int i1), (2, .int i2), (3, .int i3)] [] ad T R M := by
  unfold mf_X4_chooseQuestion_b102
  refine zx_iinc (v := 1) (ls' := [(3, .int (i3 + 1)), (0, .ref a0), (1, .int i1), (2, .int i2)]) (zd me_X4_chooseQuestion 54 rfl) (Nat.le_of_ble_eq_true rfl) 3 rfl (by decide) rfl ?_
  refine zx_goto (tgt := 5) (zd me_X4_chooseQuestion 55 rfl) (by decide) ?_
  refine zx_loc [1, 2, 3, 0] rfl ?_
  exact hH5 i1 i2 (i3 + 1) M
def mf_X4_chooseQuestion_l22 (R : zRR) (a0 : Nat) (H5 : Int32 → Int32 → Int32 → zMem → Option (Unit × zMem)) : Nat → Int32 → Int32 → Int32 → Int32 → Int32 → zMem → Option (Unit × zMem)
  | 0, _, _, _, _, _, _ => none
  | fuel + 1, i1, i2, i3, i4, i5, M =>
    if (M.1 (zrf R a0 0) 2) ≤ i5 then
      (if i2 ≤ i4 then
        (mf_X4_chooseQuestion_b102 R a0 H5 i1 i2 i3 M)
      else
        (zlet (zwI M a0 5 i3) fun M4 =>
        mf_X4_chooseQuestion_b102 R a0 H5 i1 i4 i3 M4))
    else
      (if ((i1 >>> (i5 &&& 31)) &&& (1 : Int32)) = 0 then
        (mf_X4_chooseQuestion_b82 R a0 H5 (mf_X4_chooseQuestion_l22 R a0 H5 fuel) i1 i2 i3 i4 i5 M)
      else
        (zald 8 i5 fun j6 =>
        zcl (mf_X7_asked R (zrf R a0 0) (M.1 (zrf R (zrf R a0 0) 8) j6) i3 M) fun r8 M7 =>
        zcl (mf_X4_sheetsThatAsk R a0 i3 r8 M7) fun r10 M9 =>
        zlet ((r10 &&& i1) : Int32) fun x11 =>
        zcl (mf_J6_bitCount_0f7a4 R x11 M9) fun r13 M12 =>
        zlet ((if i4 < r13 then r13 else i4) : Int32) fun x14 =>
        mf_X4_chooseQuestion_b82 R a0 H5 (mf_X4_chooseQuestion_l22 R a0 H5 fuel) i1 i2 i3 x14 i5 M12))
theorem mt_X4_chooseQuestion_l22 {C : zCx} {ad : Nat → Nat} {T : zTT} {R : zRR} {a0 : Nat} (h0 : zi4 T R a0) {H5 : Int32 → Int32 → Int32 → zMem → Option (Unit × zMem)} (hH5 : ∀ (i1 : Int32) (i2 : Int32) (i3 : Int32) (M : zMem), zX C mi_X4_chooseQuestion (zFin C zrvV ad T R) 0 0 (H5 i1 i2 i3 M) 5 [(0, .ref a0), (1, .int i1), (2, .int i2), (3, .int i3)] [] ad T R M) : ∀ (fuel : Nat) (i1 : Int32) (i2 : Int32) (i3 : Int32) (i4 : Int32) (i5 : Int32) (M : zMem), zX C mi_X4_chooseQuestion (zFin C zrvV ad T R) 0 0 (mf_X4_chooseQuestion_l22 R a0 H5 fuel i1 i2 i3 i4 i5 M) 22 [(0, .ref a0), (1, .int i1), (2, .int i2), (3, .int i3), (4, .int i4), (5, .int i5)] [] ad T R M := by
  intro fuel
  induction fuel with
  | zero => intros; exact zx_none
  | succ fuel ih =>
    intro i1 i2 i3 i4 i5 M
    rw [mf_X4_chooseQuestion_l22]
    refine zx_iload (zd me_X4_chooseQuestion 13 rfl) 5 rfl ?_
    refine zx_aload_n (i := 0) (zd me_X4_chooseQuestion 14 rfl) rfl 0 rfl ?_
    refine zx_getR (zd me_X4_chooseQuestion 15 rfl) fl_X4_25 (zi4_c h0) rfl (zi4_r0 h0) ?_
    refine zx_getI (zd me_X4_chooseQuestion 16 rfl) fl_X4_79 (zi7_c (zi4_t0 h0)) rfl ?_
    refine zx_icmp_ge (tgt := 88) (zd me_X4_chooseQuestion 17 rfl) (by decide) (fun c2 => ?_) (fun c2 => ?_)
    · refine zx_iload (zd me_X4_chooseQuestion 46 rfl) 4 rfl ?_
      refine zx_iload_n (i := 2) (zd me_X4_chooseQuestion 47 rfl) rfl 2 rfl ?_
      refine zx_icmp_ge (tgt := 102) (zd me_X4_chooseQuestion 48 rfl) (by decide) (fun c3 => ?_) (fun c3 => ?_)
      · refine zx_loc [0, 1, 2, 3] rfl ?_
        exact mt_X4_chooseQuestion_b102 h0 hH5 i1 i2 i3 M
      · refine zx_iload (zd me_X4_chooseQuestion 49 rfl) 4 rfl ?_
        refine zx_istore_n (i := 2) (ls' := [(2, .int i4), (0, .ref a0), (1, .int i1), (3, .int i3), (4, .int i4), (5, .int i5)]) (zd me_X4_chooseQuestion 50 rfl) rfl (Nat.le_of_ble_eq_true rfl) rfl ?_
        refine zx_aload_n (i := 0) (zd me_X4_chooseQuestion 51 rfl) rfl 1 rfl ?_
        refine zx_iload_n (i := 3) (zd me_X4_chooseQuestion 52 rfl) rfl 3 rfl ?_
        refine zx_putI (zd me_X4_chooseQuestion 53 rfl) fp_X4_21 (zi4_c h0) rfl (fun M4 _ => ?_)
        refine zx_loc [1, 2, 0, 3] rfl ?_
        exact mt_X4_chooseQuestion_b102 h0 hH5 i1 i4 i3 M4
    · refine zx_iload_n (i := 1) (zd me_X4_chooseQuestion 18 rfl) rfl 1 rfl ?_
      refine zx_iload (zd me_X4_chooseQuestion 19 rfl) 5 rfl ?_
      refine zx_ishr (zd me_X4_chooseQuestion 20 rfl) ?_
      refine zx_iconst (v := 1) (zd me_X4_chooseQuestion 21 rfl) (by decide) ?_
      refine zx_iand (zd me_X4_chooseQuestion 22 rfl) ?_
      refine zx_if_eq (tgt := 82) (zd me_X4_chooseQuestion 23 rfl) (by decide) (fun c5 => ?_) (fun c5 => ?_)
      · exact mt_X4_chooseQuestion_b82 h0 hH5 ih i1 i2 i3 i4 i5 M
      · refine zx_aload_n (i := 0) (zd me_X4_chooseQuestion 24 rfl) rfl 0 rfl ?_
        refine zx_iload_n (i := 3) (zd me_X4_chooseQuestion 25 rfl) rfl 3 rfl ?_
        refine zx_aload_n (i := 0) (zd me_X4_chooseQuestion 26 rfl) rfl 0 rfl ?_
        refine zx_getR (zd me_X4_chooseQuestion 27 rfl) fl_X4_25 (zi4_c h0) rfl (zi4_r0 h0) ?_
        refine zx_aload_n (i := 0) (zd me_X4_chooseQuestion 28 rfl) rfl 0 rfl ?_
        refine zx_getR (zd me_X4_chooseQuestion 29 rfl) fl_X4_25 (zi4_c h0) rfl (zi4_r0 h0) ?_
        refine zx_getR (zd me_X4_chooseQuestion 30 rfl) fl_X4_91 (zi7_c (zi4_t0 h0)) rfl (zi7_r8 (zi4_t0 h0)) ?_
        refine zx_iload (zd me_X4_chooseQuestion 31 rfl) 5 rfl ?_
        refine zx_iald (zd me_X4_chooseQuestion 32 rfl) (zi7_t8 (zi4_t0 h0)) (fun j6 hj6 => ?_)
        refine zx_iload_n (i := 3) (zd me_X4_chooseQuestion 33 rfl) rfl 3 rfl ?_
        refine zx_callVI2 (zd me_X4_chooseQuestion 34 rfl) (mc_X7_asked (zl C) (zi4_t0 h0) (M.1 (zrf R (zrf R a0 0) 8) j6) i3 M) lk_X4_38 ⟨(Nat.le_of_ble_eq_true rfl), (Nat.le_of_ble_eq_true rfl)⟩ (Nat.le_of_ble_eq_true rfl) (zi7_c (zi4_t0 h0)) rfl (fun r8 M7 => ?_)
        refine zx_callVI2 (zd me_X4_chooseQuestion 35 rfl) (mc_X4_sheetsThatAsk (zl C) h0 i3 r8 M7) lk_X4_88 ⟨(Nat.le_of_ble_eq_true rfl), (Nat.le_of_ble_eq_true rfl)⟩ (Nat.le_of_ble_eq_true rfl) (zi4_c h0) rfl (fun r10 M9 => ?_)
        refine zx_iload_n (i := 1) (zd me_X4_chooseQuestion 36 rfl) rfl 1 rfl ?_
        refine zx_iand (zd me_X4_chooseQuestion 37 rfl) ?_
        refine zx_leti (fun x11 => ?_)
        refine zx_istore (ls' := [(6, .int x11), (0, .ref a0), (1, .int i1), (2, .int i2), (3, .int i3), (4, .int i4), (5, .int i5)]) (zd me_X4_chooseQuestion 38 rfl) (Nat.le_of_ble_eq_true rfl) rfl ?_
        refine zx_iload (zd me_X4_chooseQuestion 39 rfl) 5 rfl ?_
        refine zx_iload (zd me_X4_chooseQuestion 40 rfl) 0 rfl ?_
        refine zx_callSI1 (zd me_X4_chooseQuestion 41 rfl) (mc_J6_bitCount_0f7a4 (zl C) x11 M9) lk_X4_94 ⟨(Nat.le_of_ble_eq_true rfl), (Nat.le_of_ble_eq_true rfl)⟩ (Nat.le_of_ble_eq_true rfl) (fun r13 M12 => ?_)
        refine zx_mmax (zd me_X4_chooseQuestion 42 rfl) lk_X4_99 ⟨(Nat.le_of_ble_eq_true rfl), (Nat.le_of_ble_eq_true rfl)⟩ ?_
        refine zx_leti (fun x14 => ?_)
        refine zx_istore (ls' := [(4, .int x14), (6, .int x11), (0, .ref a0), (1, .int i1), (2, .int i2), (3, .int i3), (5, .int i5)]) (zd me_X4_chooseQuestion 43 rfl) (Nat.le_of_ble_eq_true rfl) rfl ?_
        refine zx_loc [2, 3, 4, 5, 0, 6] rfl ?_
        exact mt_X4_chooseQuestion_b82 h0 hH5 ih i1 i2 i3 x14 i5 M12
def mf_X4_chooseQuestion_l5 (R : zRR) (a0 : Nat) : Nat → Int32 → Int32 → Int32 → zMem → Option (Unit × zMem)
  | 0, _, _, _, _ => none
  | fuel + 1, i1, i2, i3, M =>
    if (M.1 (zrf R a0 0) 0) ≤ i3 then
      (some ((), M))
    else
      (mf_X4_chooseQuestion_l22 R a0 (mf_X4_chooseQuestion_l5 R a0 fuel) zF i1 i2 i3 (0 : Int32) (0 : Int32) M)
theorem mt_X4_chooseQuestion_l5 {C : zCx} {ad : Nat → Nat} {T : zTT} {R : zRR} {a0 : Nat} (h0 : zi4 T R a0) : ∀ (fuel : Nat) (i1 : Int32) (i2 : Int32) (i3 : Int32) (M : zMem), zX C mi_X4_chooseQuestion (zFin C zrvV ad T R) 0 0 (mf_X4_chooseQuestion_l5 R a0 fuel i1 i2 i3 M) 5 [(0, .ref a0), (1, .int i1), (2, .int i2), (3, .int i3)] [] ad T R M := by
  intro fuel
  induction fuel with
  | zero => intros; exact zx_none
  | succ fuel ih =>
    intro i1 i2 i3 M
    rw [mf_X4_chooseQuestion_l5]
    refine zx_iload_n (i := 3) (zd me_X4_chooseQuestion 4 rfl) rfl 3 rfl ?_
    refine zx_aload_n (i := 0) (zd me_X4_chooseQuestion 5 rfl) rfl 0 rfl ?_
    refine zx_getR (zd me_X4_chooseQuestion 6 rfl) fl_X4_25 (zi4_c h0) rfl (zi4_r0 h0) ?_
    refine zx_getI (zd me_X4_chooseQuestion 7 rfl) fl_X4_35 (zi7_c (zi4_t0 h0)) rfl ?_
    refine zx_icmp_ge (tgt := 108) (zd me_X4_chooseQuestion 8 rfl) (by decide) (fun c1 => ?_) (fun c1 => ?_)
    · exact zx_vret (zd me_X4_chooseQuestion 56 rfl) rfl
    · refine zx_iconst (v := 0) (zd me_X4_chooseQuestion 9 rfl) (by decide) ?_
      refine zx_istore (ls' := [(4, .int (0 : Int32)), (0, .ref a0), (1, .int i1), (2, .int i2), (3, .int i3)]) (zd me_X4_chooseQuestion 10 rfl) (Nat.le_of_ble_eq_true rfl) rfl ?_
      refine zx_iconst (v := 0) (zd me_X4_chooseQuestion 11 rfl) (by decide) ?_
      refine zx_istore (ls' := [(5, .int (0 : Int32)), (4, .int (0 : Int32)), (0, .ref a0), (1, .int i1), (2, .int i2), (3, .int i3)]) (zd me_X4_chooseQuestion 12 rfl) (Nat.le_of_ble_eq_true rfl) rfl ?_
      refine zx_loc [2, 3, 4, 5, 1, 0] rfl ?_
      exact mt_X4_chooseQuestion_l22 h0 ih zF i1 i2 i3 (0 : Int32) (0 : Int32) M
def mf_X4_chooseQuestion (R : zRR) (a0 : Nat) (i1 : Int32) (M : zMem) : Option (Unit × zMem) :=
  mf_X4_chooseQuestion_l5 R a0 zF i1 (9 : Int32) (0 : Int32) M
theorem mc_X4_chooseQuestion (l : Launch) {T : zTT} {R : zRR} {a0 : Nat} (h0 : zi4 T R a0) (i1 : Int32) (M : zMem) : zMS l yX4_chooseQuestion mi_X4_chooseQuestion zrvV (mf_X4_chooseQuestion R a0 i1 M) [.ref a0, .int i1] T R M := by
  refine zMS.of (by decide +kernel) rfl ⟨rfl, rfl⟩ (Nat.le_of_ble_eq_true rfl) (fun C ad _ => ?_)
  show zX C mi_X4_chooseQuestion (zFin C zrvV ad T R) 0 0 (mf_X4_chooseQuestion R a0 i1 M) 0 [(0, .ref a0), (1, .int i1)] [] ad T R M
  unfold mf_X4_chooseQuestion
  refine zx_bipush (v := 9) (zd me_X4_chooseQuestion 0 rfl) (by decide) ?_
  refine zx_istore_n (i := 2) (ls' := [(2, .int (9 : Int32)), (0, .ref a0), (1, .int i1)]) (zd me_X4_chooseQuestion 1 rfl) rfl (Nat.le_of_ble_eq_true rfl) rfl ?_
  refine zx_iconst (v := 0) (zd me_X4_chooseQuestion 2 rfl) (by decide) ?_
  refine zx_istore_n (i := 3) (ls' := [(3, .int (0 : Int32)), (2, .int (9 : Int32)), (0, .ref a0), (1, .int i1)]) (zd me_X4_chooseQuestion 3 rfl) rfl (Nat.le_of_ble_eq_true rfl) rfl ?_
  refine zx_loc [2, 3, 1, 0] rfl ?_
  exact mt_X4_chooseQuestion_l5 h0 zF i1 (9 : Int32) (0 : Int32) M
def mf_X6_whenDone_l13 (R : zRR) (a0 : Nat) : Nat → Int32 → Int32 → zMem → Option (Int32 × zMem)
  | 0, _, _, _ => none
  | fuel + 1, i1, i2, M =>
    if (300 : Int32) < i2 then
      (some ((-1 : Int32), M))
    else
      (zcl (mf_X3_howIs R (zrf R a0 1) i1 M) fun r5 M4 =>
      if r5 = (2 : Int32) then
        (some (i2, M4))
      else
        (zcl (mf_X3_howIs R (zrf R a0 1) i1 M4) fun r8 M7 =>
        if r8 = (1 : Int32) then
          (zcl (mf_X3_pass R (zrf R a0 1) (1 : Int32) M7) fun _ M10 =>
          mf_X6_whenDone_l13 R a0 fuel i1 (i2 + 1) M10)
        else
          (some ((-1 : Int32), M7))))
theorem mt_X6_whenDone_l13 {C : zCx} {ad : Nat → Nat} {T : zTT} {R : zRR} {a0 : Nat} (h0 : zi6 T R a0) : ∀ (fuel : Nat) (i1 : Int32) (i2 : Int32) (M : zMem), zX C mi_X6_whenDone (zFin C zrvI ad T R) 0 0 (mf_X6_whenDone_l13 R a0 fuel i1 i2 M) 13 [(0, .ref a0), (1, .int i1), (2, .int i2)] [] ad T R M := by
  intro fuel
  induction fuel with
  | zero => intros; exact zx_none
  | succ fuel ih =>
    intro i1 i2 M
    rw [mf_X6_whenDone_l13]
    refine zx_iload_n (i := 2) (zd me_X6_whenDone 7 rfl) rfl 2 rfl ?_
    refine zx_sipush (v := 300) (zd me_X6_whenDone 8 rfl) (by decide) ?_
    refine zx_icmp_gt (tgt := 62) (zd me_X6_whenDone 9 rfl) (by decide) (fun c3 => ?_) (fun c3 => ?_)
    · refine zx_iconst (v := (-1)) (zd me_X6_whenDone 32 rfl) (by decide) ?_
      exact zx_iret (zd me_X6_whenDone 33 rfl) rfl
    · refine zx_aload_n (i := 0) (zd me_X6_whenDone 10 rfl) rfl 0 rfl ?_
      refine zx_getR (zd me_X6_whenDone 11 rfl) fl_X6_28 (zi6_c h0) rfl (zi6_r1 h0) ?_
      refine zx_iload_n (i := 1) (zd me_X6_whenDone 12 rfl) rfl 1 rfl ?_
      refine zx_callVI1 (zd me_X6_whenDone 13 rfl) (mc_X3_howIs (zl C) (zi6_t1 h0) i1 M) lk_X6_49 ⟨(Nat.le_of_ble_eq_true rfl), (Nat.le_of_ble_eq_true rfl)⟩ (Nat.le_of_ble_eq_true rfl) (zi3_c (zi6_t1 h0)) rfl (fun r5 M4 => ?_)
      refine zx_iconst (v := 2) (zd me_X6_whenDone 14 rfl) (by decide) ?_
      refine zx_icmp_ne (tgt := 34) (zd me_X6_whenDone 15 rfl) (by decide) (fun c6 => ?_) (fun c6 => ?_)
      · refine zx_aload_n (i := 0) (zd me_X6_whenDone 18 rfl) rfl 0 rfl ?_
        refine zx_getR (zd me_X6_whenDone 19 rfl) fl_X6_28 (zi6_c h0) rfl (zi6_r1 h0) ?_
        refine zx_iload_n (i := 1) (zd me_X6_whenDone 20 rfl) rfl 1 rfl ?_
        refine zx_callVI1 (zd me_X6_whenDone 21 rfl) (mc_X3_howIs (zl C) (zi6_t1 h0) i1 M4) lk_X6_49 ⟨(Nat.le_of_ble_eq_true rfl), (Nat.le_of_ble_eq_true rfl)⟩ (Nat.le_of_ble_eq_true rfl) (zi3_c (zi6_t1 h0)) rfl (fun r8 M7 => ?_)
        refine zx_iconst (v := 1) (zd me_X6_whenDone 22 rfl) (by decide) ?_
        refine zx_icmp_eq (tgt := 48) (zd me_X6_whenDone 23 rfl) (by decide) (fun c9 => ?_) (fun c9 => ?_)
        · refine zx_aload_n (i := 0) (zd me_X6_whenDone 26 rfl) rfl 0 rfl ?_
          refine zx_getR (zd me_X6_whenDone 27 rfl) fl_X6_28 (zi6_c h0) rfl (zi6_r1 h0) ?_
          refine zx_iconst (v := 1) (zd me_X6_whenDone 28 rfl) (by decide) ?_
          refine zx_callVV1 (zd me_X6_whenDone 29 rfl) (mc_X3_pass (zl C) (zi6_t1 h0) (1 : Int32) M7) lk_X6_53 ⟨(Nat.le_of_ble_eq_true rfl), (Nat.le_of_ble_eq_true rfl)⟩ (Nat.le_of_ble_eq_true rfl) (zi3_c (zi6_t1 h0)) rfl (fun r11 M10 => ?_)
          refine zx_iinc (v := 1) (ls' := [(2, .int (i2 + 1)), (0, .ref a0), (1, .int i1)]) (zd me_X6_whenDone 30 rfl) (Nat.le_of_ble_eq_true rfl) 2 rfl (by decide) rfl ?_
          refine zx_goto (tgt := 13) (zd me_X6_whenDone 31 rfl) (by decide) ?_
          refine zx_loc [1, 2, 0] rfl ?_
          exact ih i1 (i2 + 1) M10
        · refine zx_iconst (v := (-1)) (zd me_X6_whenDone 24 rfl) (by decide) ?_
          exact zx_iret (zd me_X6_whenDone 25 rfl) rfl
      · refine zx_iload_n (i := 2) (zd me_X6_whenDone 16 rfl) rfl 2 rfl ?_
        exact zx_iret (zd me_X6_whenDone 17 rfl) rfl
def mf_X6_whenDone (R : zRR) (a0 : Nat) (i1 : Int32) (M : zMem) : Option (Int32 × zMem) :=
  zcl (mf_X3_copyFrom R (zrf R a0 1) (zrf R a0 0) M) fun _ M1 =>
  mf_X6_whenDone_l13 R a0 zF i1 (0 : Int32) M1
theorem mc_X6_whenDone (l : Launch) {T : zTT} {R : zRR} {a0 : Nat} (h0 : zi6 T R a0) (i1 : Int32) (M : zMem) : zMS l yX6_whenDone mi_X6_whenDone zrvI (mf_X6_whenDone R a0 i1 M) [.ref a0, .int i1] T R M := by
  refine zMS.of (by decide +kernel) rfl ⟨rfl, rfl⟩ (Nat.le_of_ble_eq_true rfl) (fun C ad _ => ?_)
  show zX C mi_X6_whenDone (zFin C zrvI ad T R) 0 0 (mf_X6_whenDone R a0 i1 M) 0 [(0, .ref a0), (1, .int i1)] [] ad T R M
  unfold mf_X6_whenDone
  refine zx_aload_n (i := 0) (zd me_X6_whenDone 0 rfl) rfl 0 rfl ?_
  refine zx_getR (zd me_X6_whenDone 1 rfl) fl_X6_28 (zi6_c h0) rfl (zi6_r1 h0) ?_
  refine zx_aload_n (i := 0) (zd me_X6_whenDone 2 rfl) rfl 0 rfl ?_
  refine zx_getR (zd me_X6_whenDone 3 rfl) fl_X6_24 (zi6_c h0) rfl (zi6_r0 h0) ?_
  refine zx_callVV1 (zd me_X6_whenDone 4 rfl) (mc_X3_copyFrom (zl C) (zi6_t1 h0) (zi6_t0 h0) M) lk_X6_45 ⟨(Nat.le_of_ble_eq_true rfl), (Nat.le_of_ble_eq_true rfl)⟩ (Nat.le_of_ble_eq_true rfl) (zi3_c (zi6_t1 h0)) rfl (fun r2 M1 => ?_)
  refine zx_iconst (v := 0) (zd me_X6_whenDone 5 rfl) (by decide) ?_
  refine zx_istore_n (i := 2) (ls' := [(2, .int (0 : Int32)), (0, .ref a0), (1, .int i1)]) (zd me_X6_whenDone 6 rfl) rfl (Nat.le_of_ble_eq_true rfl) rfl ?_
  refine zx_loc [1, 2, 0] rfl ?_
  exact mt_X6_whenDone_l13 h0 zF i1 (0 : Int32) M1
def mf_X6_soonest_b106 (R : zRR) (a0 : Nat) (a1 : Nat) (H28 : Int32 → Int32 → zMem → Option (Int32 × zMem)) (i2 : Int32) (i3 : Int32) (M : zMem) : Option (Int32 × zMem) :=
  zcl (mf_X3_isBusy R (zrf R a0 2) M) fun r25 M24 =>
  if r25 = 0 then
    (some ((-1 : Int32), M24))
  else
    (zcl (mf_X3_pass R (zrf R a0 2) (1 : Int32) M24) fun _ M27 =>
    zcl (mf_X3_pass R (zrf R a0 3) (1 : Int32) M27) fun _ M29 =>
    H28 i2 (i3 + 1) M29)
theorem mt_X6_soonest_b106 {C : zCx} {ad : Nat → Nat} {T : zTT} {R : zRR} {a0 : Nat} {a1 : Nat} (h0 : zi6 T R a0) (h1 : zi3 T R a1) {H28 : Int32 → Int32 → zMem → Option (Int32 × zMem)} (hH28 : ∀ (i2 : Int32) (i3 : Int32) (M : zMem), zX C mi_X6_soonest (zFin C zrvI ad T R) 0 0 (H28 i2 i3 M) 28 [(0, .ref a0), (2, .int i2), (3, .int i3)] [] ad T R M) (i2 : Int32) (i3 : Int32) (M : zMem) : zX C mi_X6_soonest (zFin C zrvI ad T R) 0 0 (mf_X6_soonest_b106 R a0 a1 H28 i2 i3 M) 106 [(0, .ref a0), (2, .int i2), (3, .int i3)] [] ad T R M := by
  unfold mf_X6_soonest_b106
  refine zx_aload_n (i := 0) (zd me_X6_soonest 53 rfl) rfl 0 rfl ?_
  refine zx_getR (zd me_X6_soonest 54 rfl) fl_X6_36 (zi6_c h0) rfl (zi6_r2 h0) ?_
  refine zx_callVI0 (zd me_X6_soonest 55 rfl) (mc_X3_isBusy (zl C) (zi6_t2 h0) M) lk_X6_63 ⟨(Nat.le_of_ble_eq_true rfl), (Nat.le_of_ble_eq_true rfl)⟩ (Nat.le_of_ble_eq_true rfl) (zi3_c (zi6_t2 h0)) rfl (fun r25 M24 => ?_)
  refine zx_if_ne (tgt := 118) (zd me_X6_soonest 56 rfl) (by decide) (fun c26 => ?_) (fun c26 => ?_)
  · refine zx_aload_n (i := 0) (zd me_X6_soonest 59 rfl) rfl 0 rfl ?_
    refine zx_getR (zd me_X6_soonest 60 rfl) fl_X6_36 (zi6_c h0) rfl (zi6_r2 h0) ?_
    refine zx_iconst (v := 1) (zd me_X6_soonest 61 rfl) (by decide) ?_
    refine zx_callVV1 (zd me_X6_soonest 62 rfl) (mc_X3_pass (zl C) (zi6_t2 h0) (1 : Int32) M24) lk_X6_53 ⟨(Nat.le_of_ble_eq_true rfl), (Nat.le_of_ble_eq_true rfl)⟩ (Nat.le_of_ble_eq_true rfl) (zi3_c (zi6_t2 h0)) rfl (fun r28 M27 => ?_)
    refine zx_aload_n (i := 0) (zd me_X6_soonest 63 rfl) rfl 0 rfl ?_
    refine zx_getR (zd me_X6_soonest 64 rfl) fl_X6_39 (zi6_c h0) rfl (zi6_r3 h0) ?_
    refine zx_iconst (v := 1) (zd me_X6_soonest 65 rfl) (by decide) ?_
    refine zx_callVV1 (zd me_X6_soonest 66 rfl) (mc_X3_pass (zl C) (zi6_t3 h0) (1 : Int32) M27) lk_X6_53 ⟨(Nat.le_of_ble_eq_true rfl), (Nat.le_of_ble_eq_true rfl)⟩ (Nat.le_of_ble_eq_true rfl) (zi3_c (zi6_t3 h0)) rfl (fun r30 M29 => ?_)
    refine zx_iinc (v := 1) (ls' := [(3, .int (i3 + 1)), (0, .ref a0), (2, .int i2)]) (zd me_X6_soonest 67 rfl) (Nat.le_of_ble_eq_true rfl) 2 rfl (by decide) rfl ?_
    refine zx_goto (tgt := 28) (zd me_X6_soonest 68 rfl) (by decide) ?_
    refine zx_loc [1, 2, 0] rfl ?_
    exact hH28 i2 (i3 + 1) M29
  · refine zx_iconst (v := (-1)) (zd me_X6_soonest 57 rfl) (by decide) ?_
    exact zx_iret (zd me_X6_soonest 58 rfl) rfl
def mf_X6_soonest_l28 (R : zRR) (a0 : Nat) (a1 : Nat) : Nat → Int32 → Int32 → zMem → Option (Int32 × zMem)
  | 0, _, _, _ => none
  | fuel + 1, i2, i3, M =>
    if (60 : Int32) < i3 then
      (some ((-1 : Int32), M))
    else
      (zcl (mf_X3_copyFrom R (zrf R a0 1) (zrf R a0 2) M) fun _ M8 =>
      zcl (mf_X3_startSheet R (zrf R a0 1) i2 M8) fun r11 M10 =>
      if r11 = 0 then
        (zcl (mf_X3_pass R (zrf R a0 1) (200 : Int32) M10) fun _ M13 =>
        zcl (mf_X3_allThatAre R (zrf R a0 1) (3 : Int32) M13) fun r16 M15 =>
        zcl (mf_X3_allThatAre R (zrf R a0 3) (3 : Int32) M15) fun r18 M17 =>
        zlet ((r16 &&& (r18 ^^^ (-1 : Int32))) : Int32) fun x19 =>
        zcl (mf_X3_howIs R (zrf R a0 1) i2 M17) fun r21 M20 =>
        if r21 = (2 : Int32) then
          (if x19 = 0 then
            (some (i3, M20))
          else
            (mf_X6_soonest_b106 R a0 a1 (mf_X6_soonest_l28 R a0 a1 fuel) i2 i3 M20))
        else
          (mf_X6_soonest_b106 R a0 a1 (mf_X6_soonest_l28 R a0 a1 fuel) i2 i3 M20))
      else
        (mf_X6_soonest_b106 R a0 a1 (mf_X6_soonest_l28 R a0 a1 fuel) i2 i3 M10))
theorem mt_X6_soonest_l28 {C : zCx} {ad : Nat → Nat} {T : zTT} {R : zRR} {a0 : Nat} {a1 : Nat} (h0 : zi6 T R a0) (h1 : zi3 T R a1) : ∀ (fuel : Nat) (i2 : Int32) (i3 : Int32) (M : zMem), zX C mi_X6_soonest (zFin C zrvI ad T R) 0 0 (mf_X6_soonest_l28 R a0 a1 fuel i2 i3 M) 28 [(0, .ref a0), (2, .int i2), (3, .int i3)] [] ad T R M := by
  intro fuel
  induction fuel with
  | zero => intros; exact zx_none
  | succ fuel ih =>
    intro i2 i3 M
    rw [mf_X6_soonest_l28]
    refine zx_iload_n (i := 3) (zd me_X6_soonest 14 rfl) rfl 2 rfl ?_
    refine zx_bipush (v := 60) (zd me_X6_soonest 15 rfl) (by decide) ?_
    refine zx_icmp_gt (tgt := 140) (zd me_X6_soonest 16 rfl) (by decide) (fun c7 => ?_) (fun c7 => ?_)
    · refine zx_iconst (v := (-1)) (zd me_X6_soonest 69 rfl) (by decide) ?_
      exact zx_iret (zd me_X6_soonest 70 rfl) rfl
    · refine zx_aload_n (i := 0) (zd me_X6_soonest 17 rfl) rfl 0 rfl ?_
      refine zx_getR (zd me_X6_soonest 18 rfl) fl_X6_28 (zi6_c h0) rfl (zi6_r1 h0) ?_
      refine zx_aload_n (i := 0) (zd me_X6_soonest 19 rfl) rfl 0 rfl ?_
      refine zx_getR (zd me_X6_soonest 20 rfl) fl_X6_36 (zi6_c h0) rfl (zi6_r2 h0) ?_
      refine zx_callVV1 (zd me_X6_soonest 21 rfl) (mc_X3_copyFrom (zl C) (zi6_t1 h0) (zi6_t2 h0) M) lk_X6_45 ⟨(Nat.le_of_ble_eq_true rfl), (Nat.le_of_ble_eq_true rfl)⟩ (Nat.le_of_ble_eq_true rfl) (zi3_c (zi6_t1 h0)) rfl (fun r9 M8 => ?_)
      refine zx_aload_n (i := 0) (zd me_X6_soonest 22 rfl) rfl 0 rfl ?_
      refine zx_getR (zd me_X6_soonest 23 rfl) fl_X6_28 (zi6_c h0) rfl (zi6_r1 h0) ?_
      refine zx_iload_n (i := 2) (zd me_X6_soonest 24 rfl) rfl 1 rfl ?_
      refine zx_callVI1 (zd me_X6_soonest 25 rfl) (mc_X3_startSheet (zl C) (zi6_t1 h0) i2 M8) lk_X6_57 ⟨(Nat.le_of_ble_eq_true rfl), (Nat.le_of_ble_eq_true rfl)⟩ (Nat.le_of_ble_eq_true rfl) (zi3_c (zi6_t1 h0)) rfl (fun r11 M10 => ?_)
      refine zx_if_ne (tgt := 106) (zd me_X6_soonest 26 rfl) (by decide) (fun c12 => ?_) (fun c12 => ?_)
      · exact mt_X6_soonest_b106 h0 h1 ih i2 i3 M10
      · refine zx_aload_n (i := 0) (zd me_X6_soonest 27 rfl) rfl 0 rfl ?_
        refine zx_getR (zd me_X6_soonest 28 rfl) fl_X6_28 (zi6_c h0) rfl (zi6_r1 h0) ?_
        refine zx_sipush (v := 200) (zd me_X6_soonest 29 rfl) (by decide) ?_
        refine zx_callVV1 (zd me_X6_soonest 30 rfl) (mc_X3_pass (zl C) (zi6_t1 h0) (200 : Int32) M10) lk_X6_53 ⟨(Nat.le_of_ble_eq_true rfl), (Nat.le_of_ble_eq_true rfl)⟩ (Nat.le_of_ble_eq_true rfl) (zi3_c (zi6_t1 h0)) rfl (fun r14 M13 => ?_)
        refine zx_aload_n (i := 0) (zd me_X6_soonest 31 rfl) rfl 0 rfl ?_
        refine zx_getR (zd me_X6_soonest 32 rfl) fl_X6_28 (zi6_c h0) rfl (zi6_r1 h0) ?_
        refine zx_iconst (v := 3) (zd me_X6_soonest 33 rfl) (by decide) ?_
        refine zx_callVI1 (zd me_X6_soonest 34 rfl) (mc_X3_allThatAre (zl C) (zi6_t1 h0) (3 : Int32) M13) lk_X6_60 ⟨(Nat.le_of_ble_eq_true rfl), (Nat.le_of_ble_eq_true rfl)⟩ (Nat.le_of_ble_eq_true rfl) (zi3_c (zi6_t1 h0)) rfl (fun r16 M15 => ?_)
        refine zx_aload_n (i := 0) (zd me_X6_soonest 35 rfl) rfl 0 rfl ?_
        refine zx_getR (zd me_X6_soonest 36 rfl) fl_X6_39 (zi6_c h0) rfl (zi6_r3 h0) ?_
        refine zx_iconst (v := 3) (zd me_X6_soonest 37 rfl) (by decide) ?_
        refine zx_callVI1 (zd me_X6_soonest 38 rfl) (mc_X3_allThatAre (zl C) (zi6_t3 h0) (3 : Int32) M15) lk_X6_60 ⟨(Nat.le_of_ble_eq_true rfl), (Nat.le_of_ble_eq_true rfl)⟩ (Nat.le_of_ble_eq_true rfl) (zi3_c (zi6_t3 h0)) rfl (fun r18 M17 => ?_)
        refine zx_iconst (v := (-1)) (zd me_X6_soonest 39 rfl) (by decide) ?_
        refine zx_ixor (zd me_X6_soonest 40 rfl) ?_
        refine zx_iand (zd me_X6_soonest 41 rfl) ?_
        refine zx_leti (fun x19 => ?_)
        refine zx_istore (ls' := [(4, .int x19), (0, .ref a0), (2, .int i2), (3, .int i3)]) (zd me_X6_soonest 42 rfl) (Nat.le_of_ble_eq_true rfl) rfl ?_
        refine zx_aload_n (i := 0) (zd me_X6_soonest 43 rfl) rfl 1 rfl ?_
        refine zx_getR (zd me_X6_soonest 44 rfl) fl_X6_28 (zi6_c h0) rfl (zi6_r1 h0) ?_
        refine zx_iload_n (i := 2) (zd me_X6_soonest 45 rfl) rfl 2 rfl ?_
        refine zx_callVI1 (zd me_X6_soonest 46 rfl) (mc_X3_howIs (zl C) (zi6_t1 h0) i2 M17) lk_X6_49 ⟨(Nat.le_of_ble_eq_true rfl), (Nat.le_of_ble_eq_true rfl)⟩ (Nat.le_of_ble_eq_true rfl) (zi3_c (zi6_t1 h0)) rfl (fun r21 M20 => ?_)
        refine zx_iconst (v := 2) (zd me_X6_soonest 47 rfl) (by decide) ?_
        refine zx_icmp_ne (tgt := 106) (zd me_X6_soonest 48 rfl) (by decide) (fun c22 => ?_) (fun c22 => ?_)
        · refine zx_loc [1, 2, 3] rfl ?_
          exact mt_X6_soonest_b106 h0 h1 ih i2 i3 M20
        · refine zx_iload (zd me_X6_soonest 49 rfl) 0 rfl ?_
          refine zx_if_ne (tgt := 106) (zd me_X6_soonest 50 rfl) (by decide) (fun c23 => ?_) (fun c23 => ?_)
          · refine zx_loc [1, 2, 3] rfl ?_
            exact mt_X6_soonest_b106 h0 h1 ih i2 i3 M20
          · refine zx_iload_n (i := 3) (zd me_X6_soonest 51 rfl) rfl 3 rfl ?_
            exact zx_iret (zd me_X6_soonest 52 rfl) rfl
def mf_X6_soonest (R : zRR) (a0 : Nat) (a1 : Nat) (i2 : Int32) (M : zMem) : Option (Int32 × zMem) :=
  zcl (mf_X3_copyFrom R (zrf R a0 2) a1 M) fun _ M1 =>
  zcl (mf_X3_copyFrom R (zrf R a0 3) a1 M1) fun _ M3 =>
  zcl (mf_X3_pass R (zrf R a0 3) (200 : Int32) M3) fun _ M5 =>
  mf_X6_soonest_l28 R a0 a1 zF i2 (0 : Int32) M5
theorem mc_X6_soonest (l : Launch) {T : zTT} {R : zRR} {a0 : Nat} {a1 : Nat} (h0 : zi6 T R a0) (h1 : zi3 T R a1) (i2 : Int32) (M : zMem) : zMS l yX6_soonest mi_X6_soonest zrvI (mf_X6_soonest R a0 a1 i2 M) [.ref a0, .ref a1, .int i2] T R M := by
  refine zMS.of (by decide +kernel) rfl ⟨rfl, rfl⟩ (Nat.le_of_ble_eq_true rfl) (fun C ad _ => ?_)
  show zX C mi_X6_soonest (zFin C zrvI ad T R) 0 0 (mf_X6_soonest R a0 a1 i2 M) 0 [(0, .ref a0), (1, .ref a1), (2, .int i2)] [] ad T R M
  unfold mf_X6_soonest
  refine zx_aload_n (i := 0) (zd me_X6_soonest 0 rfl) rfl 0 rfl ?_
  refine zx_getR (zd me_X6_soonest 1 rfl) fl_X6_36 (zi6_c h0) rfl (zi6_r2 h0) ?_
  refine zx_aload_n (i := 1) (zd me_X6_soonest 2 rfl) rfl 1 rfl ?_
  refine zx_callVV1 (zd me_X6_soonest 3 rfl) (mc_X3_copyFrom (zl C) (zi6_t2 h0) h1 M) lk_X6_45 ⟨(Nat.le_of_ble_eq_true rfl), (Nat.le_of_ble_eq_true rfl)⟩ (Nat.le_of_ble_eq_true rfl) (zi3_c (zi6_t2 h0)) rfl (fun r2 M1 => ?_)
  refine zx_aload_n (i := 0) (zd me_X6_soonest 4 rfl) rfl 0 rfl ?_
  refine zx_getR (zd me_X6_soonest 5 rfl) fl_X6_39 (zi6_c h0) rfl (zi6_r3 h0) ?_
  refine zx_aload_n (i := 1) (zd me_X6_soonest 6 rfl) rfl 1 rfl ?_
  refine zx_callVV1 (zd me_X6_soonest 7 rfl) (mc_X3_copyFrom (zl C) (zi6_t3 h0) h1 M1) lk_X6_45 ⟨(Nat.le_of_ble_eq_true rfl), (Nat.le_of_ble_eq_true rfl)⟩ (Nat.le_of_ble_eq_true rfl) (zi3_c (zi6_t3 h0)) rfl (fun r4 M3 => ?_)
  refine zx_aload_n (i := 0) (zd me_X6_soonest 8 rfl) rfl 0 rfl ?_
  refine zx_getR (zd me_X6_soonest 9 rfl) fl_X6_39 (zi6_c h0) rfl (zi6_r3 h0) ?_
  refine zx_sipush (v := 200) (zd me_X6_soonest 10 rfl) (by decide) ?_
  refine zx_callVV1 (zd me_X6_soonest 11 rfl) (mc_X3_pass (zl C) (zi6_t3 h0) (200 : Int32) M3) lk_X6_53 ⟨(Nat.le_of_ble_eq_true rfl), (Nat.le_of_ble_eq_true rfl)⟩ (Nat.le_of_ble_eq_true rfl) (zi3_c (zi6_t3 h0)) rfl (fun r6 M5 => ?_)
  refine zx_iconst (v := 0) (zd me_X6_soonest 12 rfl) (by decide) ?_
  refine zx_istore_n (i := 3) (ls' := [(3, .int (0 : Int32)), (0, .ref a0), (1, .ref a1), (2, .int i2)]) (zd me_X6_soonest 13 rfl) rfl (Nat.le_of_ble_eq_true rfl) rfl ?_
  refine zx_loc [1, 3, 0] rfl ?_
  exact mt_X6_soonest_l28 h0 h1 zF i2 (0 : Int32) M5
def mf_X6_readRow_b111 (R : zRR) (a0 : Nat) (a1 : Nat) (H20 : Int32 → zMem → Option (Int32 × zMem)) (i2 : Int32) (i3 : Int32) (i4 : Int32) (M : zMem) : Option (Int32 × zMem) :=
  zald 3 i4 fun j19 =>
  zlet (zwI M (zrf R a0 5) j19 i3) fun M20 =>
  H20 (i2 + 1) M20
theorem mt_X6_readRow_b111 {C : zCx} {ad : Nat → Nat} {T : zTT} {R : zRR} {a0 : Nat} {a1 : Nat} (h0 : zi6 T R a0) (h1 : zi10 T R a1) {H20 : Int32 → zMem → Option (Int32 × zMem)} (hH20 : ∀ (i2 : Int32) (M : zMem), zX C mi_X6_readRow (zFin C zrvI ad T R) 0 0 (H20 i2 M) 20 [(0, .ref a0), (1, .ref a1), (2, .int i2)] [] ad T R M) (i2 : Int32) (i3 : Int32) (i4 : Int32) (M : zMem) : zX C mi_X6_readRow (zFin C zrvI ad T R) 0 0 (mf_X6_readRow_b111 R a0 a1 H20 i2 i3 i4 M) 111 [(0, .ref a0), (1, .ref a1), (2, .int i2), (3, .int i3), (4, .int i4)] [] ad T R M := by
  unfold mf_X6_readRow_b111
  refine zx_aload_n (i := 0) (zd me_X6_readRow 64 rfl) rfl 0 rfl ?_
  refine zx_getR (zd me_X6_readRow 65 rfl) fl_X6_11 (zi6_c h0) rfl (zi6_r5 h0) ?_
  refine zx_iload (zd me_X6_readRow 66 rfl) 4 rfl ?_
  refine zx_iload_n (i := 3) (zd me_X6_readRow 67 rfl) rfl 3 rfl ?_
  refine zx_iast (zd me_X6_readRow 68 rfl) (zi6_t5 h0) (fun M20 => ?_)
  refine zx_iinc (v := 1) (ls' := [(2, .int (i2 + 1)), (0, .ref a0), (1, .ref a1), (3, .int i3), (4, .int i4)]) (zd me_X6_readRow 69 rfl) (Nat.le_of_ble_eq_true rfl) 2 rfl (by decide) rfl ?_
  refine zx_goto (tgt := 20) (zd me_X6_readRow 70 rfl) (by decide) ?_
  refine zx_loc [1, 2, 0] rfl ?_
  exact hH20 (i2 + 1) M20
def mf_X6_readRow_b91 (R : zRR) (a0 : Nat) (a1 : Nat) (H20 : Int32 → zMem → Option (Int32 × zMem)) (i2 : Int32) (i3 : Int32) (i4 : Int32) (M : zMem) : Option (Int32 × zMem) :=
  if i4 ≤ 0 then
    (mf_X6_readRow_b111 R a0 a1 H20 i2 i3 i4 M)
  else
    (zald 3 (i4 - (1 : Int32)) fun j17 =>
    if (M.1 (zrf R a0 5) j17) = i3 then
      (some ((0 : Int32), M))
    else
      (mf_X6_readRow_b111 R a0 a1 H20 i2 i3 i4 M))
theorem mt_X6_readRow_b91 {C : zCx} {ad : Nat → Nat} {T : zTT} {R : zRR} {a0 : Nat} {a1 : Nat} (h0 : zi6 T R a0) (h1 : zi10 T R a1) {H20 : Int32 → zMem → Option (Int32 × zMem)} (hH20 : ∀ (i2 : Int32) (M : zMem), zX C mi_X6_readRow (zFin C zrvI ad T R) 0 0 (H20 i2 M) 20 [(0, .ref a0), (1, .ref a1), (2, .int i2)] [] ad T R M) (i2 : Int32) (i3 : Int32) (i4 : Int32) (M : zMem) : zX C mi_X6_readRow (zFin C zrvI ad T R) 0 0 (mf_X6_readRow_b91 R a0 a1 H20 i2 i3 i4 M) 91 [(0, .ref a0), (1, .ref a1), (2, .int i2), (3, .int i3), (4, .int i4)] [] ad T R M := by
  unfold mf_X6_readRow_b91
  refine zx_iload (zd me_X6_readRow 52 rfl) 4 rfl ?_
  refine zx_if_le (tgt := 111) (zd me_X6_readRow 53 rfl) (by decide) (fun c16 => ?_) (fun c16 => ?_)
  · exact mt_X6_readRow_b111 h0 h1 hH20 i2 i3 i4 M
  · refine zx_aload_n (i := 0) (zd me_X6_readRow 54 rfl) rfl 0 rfl ?_
    refine zx_getR (zd me_X6_readRow 55 rfl) fl_X6_11 (zi6_c h0) rfl (zi6_r5 h0) ?_
    refine zx_iload (zd me_X6_readRow 56 rfl) 4 rfl ?_
    refine zx_iconst (v := 1) (zd me_X6_readRow 57 rfl) (by decide) ?_
    refine zx_isub (zd me_X6_readRow 58 rfl) ?_
    refine zx_iald (zd me_X6_readRow 59 rfl) (zi6_t5 h0) (fun j17 hj17 => ?_)
    refine zx_iload_n (i := 3) (zd me_X6_readRow 60 rfl) rfl 3 rfl ?_
    refine zx_icmp_ne (tgt := 111) (zd me_X6_readRow 61 rfl) (by decide) (fun c18 => ?_) (fun c18 => ?_)
    · exact mt_X6_readRow_b111 h0 h1 hH20 i2 i3 i4 M
    · refine zx_iconst (v := 0) (zd me_X6_readRow 62 rfl) (by decide) ?_
      exact zx_zret (zd me_X6_readRow 63 rfl) rfl rfl
def mf_X6_readRow_l51 (R : zRR) (a0 : Nat) (a1 : Nat) (H20 : Int32 → zMem → Option (Int32 × zMem)) : Nat → Int32 → Int32 → Int32 → zMem → Option (Int32 × zMem)
  | 0, _, _, _, _ => none
  | fuel + 1, i2, i3, i4, M =>
    if i4 ≤ 0 then
      (mf_X6_readRow_b91 R a0 a1 H20 i2 i3 i4 M)
    else
      (zald 3 (i4 - (1 : Int32)) fun j11 =>
      if (M.1 (zrf R a0 5) j11) ≤ i3 then
        (mf_X6_readRow_b91 R a0 a1 H20 i2 i3 i4 M)
      else
        (zald 3 (i4 - (1 : Int32)) fun j13 =>
        zald 3 i4 fun j14 =>
        zlet (zwI M (zrf R a0 5) j14 (M.1 (zrf R a0 5) j13)) fun M15 =>
        mf_X6_readRow_l51 R a0 a1 H20 fuel i2 i3 (i4 + (-1)) M15))
theorem mt_X6_readRow_l51 {C : zCx} {ad : Nat → Nat} {T : zTT} {R : zRR} {a0 : Nat} {a1 : Nat} (h0 : zi6 T R a0) (h1 : zi10 T R a1) {H20 : Int32 → zMem → Option (Int32 × zMem)} (hH20 : ∀ (i2 : Int32) (M : zMem), zX C mi_X6_readRow (zFin C zrvI ad T R) 0 0 (H20 i2 M) 20 [(0, .ref a0), (1, .ref a1), (2, .int i2)] [] ad T R M) : ∀ (fuel : Nat) (i2 : Int32) (i3 : Int32) (i4 : Int32) (M : zMem), zX C mi_X6_readRow (zFin C zrvI ad T R) 0 0 (mf_X6_readRow_l51 R a0 a1 H20 fuel i2 i3 i4 M) 51 [(0, .ref a0), (1, .ref a1), (2, .int i2), (3, .int i3), (4, .int i4)] [] ad T R M := by
  intro fuel
  induction fuel with
  | zero => intros; exact zx_none
  | succ fuel ih =>
    intro i2 i3 i4 M
    rw [mf_X6_readRow_l51]
    refine zx_iload (zd me_X6_readRow 30 rfl) 4 rfl ?_
    refine zx_if_le (tgt := 91) (zd me_X6_readRow 31 rfl) (by decide) (fun c10 => ?_) (fun c10 => ?_)
    · exact mt_X6_readRow_b91 h0 h1 hH20 i2 i3 i4 M
    · refine zx_aload_n (i := 0) (zd me_X6_readRow 32 rfl) rfl 0 rfl ?_
      refine zx_getR (zd me_X6_readRow 33 rfl) fl_X6_11 (zi6_c h0) rfl (zi6_r5 h0) ?_
      refine zx_iload (zd me_X6_readRow 34 rfl) 4 rfl ?_
      refine zx_iconst (v := 1) (zd me_X6_readRow 35 rfl) (by decide) ?_
      refine zx_isub (zd me_X6_readRow 36 rfl) ?_
      refine zx_iald (zd me_X6_readRow 37 rfl) (zi6_t5 h0) (fun j11 hj11 => ?_)
      refine zx_iload_n (i := 3) (zd me_X6_readRow 38 rfl) rfl 3 rfl ?_
      refine zx_icmp_le (tgt := 91) (zd me_X6_readRow 39 rfl) (by decide) (fun c12 => ?_) (fun c12 => ?_)
      · exact mt_X6_readRow_b91 h0 h1 hH20 i2 i3 i4 M
      · refine zx_aload_n (i := 0) (zd me_X6_readRow 40 rfl) rfl 0 rfl ?_
        refine zx_getR (zd me_X6_readRow 41 rfl) fl_X6_11 (zi6_c h0) rfl (zi6_r5 h0) ?_
        refine zx_iload (zd me_X6_readRow 42 rfl) 4 rfl ?_
        refine zx_aload_n (i := 0) (zd me_X6_readRow 43 rfl) rfl 0 rfl ?_
        refine zx_getR (zd me_X6_readRow 44 rfl) fl_X6_11 (zi6_c h0) rfl (zi6_r5 h0) ?_
        refine zx_iload (zd me_X6_readRow 45 rfl) 4 rfl ?_
        refine zx_iconst (v := 1) (zd me_X6_readRow 46 rfl) (by decide) ?_
        refine zx_isub (zd me_X6_readRow 47 rfl) ?_
        refine zx_iald (zd me_X6_readRow 48 rfl) (zi6_t5 h0) (fun j13 hj13 => ?_)
        refine zx_iast (zd me_X6_readRow 49 rfl) (zi6_t5 h0) (fun M15 => ?_)
        refine zx_iinc (v := (-1)) (ls' := [(4, .int (i4 + (-1))), (0, .ref a0), (1, .ref a1), (2, .int i2), (3, .int i3)]) (zd me_X6_readRow 50 rfl) (Nat.le_of_ble_eq_true rfl) 4 rfl (by decide) rfl ?_
        refine zx_goto (tgt := 51) (zd me_X6_readRow 51 rfl) (by decide) ?_
        refine zx_loc [1, 2, 3, 4, 0] rfl ?_
        exact ih i2 i3 (i4 + (-1)) M15
def mf_X6_readRow_l20 (R : zRR) (a0 : Nat) (a1 : Nat) : Nat → Int32 → zMem → Option (Int32 × zMem)
  | 0, _, _ => none
  | fuel + 1, i2, M =>
    if (M.1 a1 1) ≤ i2 then
      (zlet (zwI M a0 7 (M.1 a1 1)) fun M4 =>
      some ((1 : Int32), M4))
    else
      (zald 940 i2 fun j5 =>
      zlet ((M.1 (zrf R a1 0) j5) : Int32) fun x6 =>
      zcl (mf_X3_howIs R (zrf R a0 0) x6 M) fun r8 M7 =>
      if r8 = 0 then
        (mf_X6_readRow_l51 R a0 a1 (mf_X6_readRow_l20 R a0 a1 fuel) zF i2 x6 i2 M7)
      else
        (some ((0 : Int32), M7)))
theorem mt_X6_readRow_l20 {C : zCx} {ad : Nat → Nat} {T : zTT} {R : zRR} {a0 : Nat} {a1 : Nat} (h0 : zi6 T R a0) (h1 : zi10 T R a1) : ∀ (fuel : Nat) (i2 : Int32) (M : zMem), zX C mi_X6_readRow (zFin C zrvI ad T R) 0 0 (mf_X6_readRow_l20 R a0 a1 fuel i2 M) 20 [(0, .ref a0), (1, .ref a1), (2, .int i2)] [] ad T R M := by
  intro fuel
  induction fuel with
  | zero => intros; exact zx_none
  | succ fuel ih =>
    intro i2 M
    rw [mf_X6_readRow_l20]
    refine zx_iload_n (i := 2) (zd me_X6_readRow 12 rfl) rfl 2 rfl ?_
    refine zx_aload_n (i := 1) (zd me_X6_readRow 13 rfl) rfl 1 rfl ?_
    refine zx_getI (zd me_X6_readRow 14 rfl) fl_X6_67 (zi10_c h1) rfl ?_
    refine zx_icmp_ge (tgt := 125) (zd me_X6_readRow 15 rfl) (by decide) (fun c3 => ?_) (fun c3 => ?_)
    · refine zx_aload_n (i := 0) (zd me_X6_readRow 71 rfl) rfl 0 rfl ?_
      refine zx_aload_n (i := 1) (zd me_X6_readRow 72 rfl) rfl 1 rfl ?_
      refine zx_getI (zd me_X6_readRow 73 rfl) fl_X6_67 (zi10_c h1) rfl ?_
      refine zx_putI (zd me_X6_readRow 74 rfl) fp_X6_76 (zi6_c h0) rfl (fun M4 _ => ?_)
      refine zx_iconst (v := 1) (zd me_X6_readRow 75 rfl) (by decide) ?_
      exact zx_zret (zd me_X6_readRow 76 rfl) rfl rfl
    · refine zx_aload_n (i := 1) (zd me_X6_readRow 16 rfl) rfl 1 rfl ?_
      refine zx_getR (zd me_X6_readRow 17 rfl) fl_X6_73 (zi10_c h1) rfl (zi10_r0 h1) ?_
      refine zx_iload_n (i := 2) (zd me_X6_readRow 18 rfl) rfl 2 rfl ?_
      refine zx_iald (zd me_X6_readRow 19 rfl) (zi10_t0 h1) (fun j5 hj5 => ?_)
      refine zx_leti (fun x6 => ?_)
      refine zx_istore_n (i := 3) (ls' := [(3, .int x6), (0, .ref a0), (1, .ref a1), (2, .int i2)]) (zd me_X6_readRow 20 rfl) rfl (Nat.le_of_ble_eq_true rfl) rfl ?_
      refine zx_aload_n (i := 0) (zd me_X6_readRow 21 rfl) rfl 1 rfl ?_
      refine zx_getR (zd me_X6_readRow 22 rfl) fl_X6_24 (zi6_c h0) rfl (zi6_r0 h0) ?_
      refine zx_iload_n (i := 3) (zd me_X6_readRow 23 rfl) rfl 0 rfl ?_
      refine zx_callVI1 (zd me_X6_readRow 24 rfl) (mc_X3_howIs (zl C) (zi6_t0 h0) x6 M) lk_X6_49 ⟨(Nat.le_of_ble_eq_true rfl), (Nat.le_of_ble_eq_true rfl)⟩ (Nat.le_of_ble_eq_true rfl) (zi3_c (zi6_t0 h0)) rfl (fun r8 M7 => ?_)
      refine zx_if_eq (tgt := 48) (zd me_X6_readRow 25 rfl) (by decide) (fun c9 => ?_) (fun c9 => ?_)
      · refine zx_iload_n (i := 2) (zd me_X6_readRow 28 rfl) rfl 3 rfl ?_
        refine zx_istore (ls' := [(4, .int i2), (3, .int x6), (0, .ref a0), (1, .ref a1), (2, .int i2)]) (zd me_X6_readRow 29 rfl) (Nat.le_of_ble_eq_true rfl) rfl ?_
        refine zx_loc [2, 3, 4, 1, 0] rfl ?_
        exact mt_X6_readRow_l51 h0 h1 ih zF i2 x6 i2 M7
      · refine zx_iconst (v := 0) (zd me_X6_readRow 26 rfl) (by decide) ?_
        exact zx_zret (zd me_X6_readRow 27 rfl) rfl rfl
def mf_X6_readRow (R : zRR) (a0 : Nat) (a1 : Nat) (M : zMem) : Option (Int32 × zMem) :=
  if (M.1 a1 1) < (1 : Int32) then
    (some ((0 : Int32), M))
  else
    (if (M.1 a1 1) ≤ (3 : Int32) then
      (mf_X6_readRow_l20 R a0 a1 zF (0 : Int32) M)
    else
      (some ((0 : Int32), M)))
theorem mc_X6_readRow (l : Launch) {T : zTT} {R : zRR} {a0 : Nat} {a1 : Nat} (h0 : zi6 T R a0) (h1 : zi10 T R a1) (M : zMem) : zMS l yX6_readRow mi_X6_readRow zrvI (mf_X6_readRow R a0 a1 M) [.ref a0, .ref a1] T R M := by
  refine zMS.of (by decide +kernel) rfl ⟨rfl, rfl⟩ (Nat.le_of_ble_eq_true rfl) (fun C ad _ => ?_)
  show zX C mi_X6_readRow (zFin C zrvI ad T R) 0 0 (mf_X6_readRow R a0 a1 M) 0 [(0, .ref a0), (1, .ref a1)] [] ad T R M
  unfold mf_X6_readRow
  refine zx_aload_n (i := 1) (zd me_X6_readRow 0 rfl) rfl 1 rfl ?_
  refine zx_getI (zd me_X6_readRow 1 rfl) fl_X6_67 (zi10_c h1) rfl ?_
  refine zx_iconst (v := 1) (zd me_X6_readRow 2 rfl) (by decide) ?_
  refine zx_icmp_lt (tgt := 16) (zd me_X6_readRow 3 rfl) (by decide) (fun c1 => ?_) (fun c1 => ?_)
  · refine zx_iconst (v := 0) (zd me_X6_readRow 8 rfl) (by decide) ?_
    exact zx_zret (zd me_X6_readRow 9 rfl) rfl rfl
  · refine zx_aload_n (i := 1) (zd me_X6_readRow 4 rfl) rfl 1 rfl ?_
    refine zx_getI (zd me_X6_readRow 5 rfl) fl_X6_67 (zi10_c h1) rfl ?_
    refine zx_iconst (v := 3) (zd me_X6_readRow 6 rfl) (by decide) ?_
    refine zx_icmp_le (tgt := 18) (zd me_X6_readRow 7 rfl) (by decide) (fun c2 => ?_) (fun c2 => ?_)
    · refine zx_iconst (v := 0) (zd me_X6_readRow 10 rfl) (by decide) ?_
      refine zx_istore_n (i := 2) (ls' := [(2, .int (0 : Int32)), (0, .ref a0), (1, .ref a1)]) (zd me_X6_readRow 11 rfl) rfl (Nat.le_of_ble_eq_true rfl) rfl ?_
      refine zx_loc [1, 2, 0] rfl ?_
      exact mt_X6_readRow_l20 h0 h1 zF (0 : Int32) M
    · refine zx_iconst (v := 0) (zd me_X6_readRow 8 rfl) (by decide) ?_
      exact zx_zret (zd me_X6_readRow 9 rfl) rfl rfl
def mf_X6_endOfRow_l108 (R : zRR) (a0 : Nat) : Nat → Int32 → Int32 → Int32 → zMem → Option (Int32 × zMem)
  | 0, _, _, _, _ => none
  | fuel + 1, i1, i2, i3, M =>
    if (200 : Int32) < i3 then
      (some ((-1 : Int32), M))
    else
      (zcl (mf_X3_allThatAre R (zrf R a0 4) (2 : Int32) M) fun r21 M20 =>
      if (r21 &&& i2) = i2 then
        (some ((i1 + i3), M20))
      else
        (zcl (mf_X3_pass R (zrf R a0 4) (1 : Int32) M20) fun _ M23 =>
        mf_X6_endOfRow_l108 R a0 fuel i1 i2 (i3 + 1) M23))
theorem mt_X6_endOfRow_l108 {C : zCx} {ad : Nat → Nat} {T : zTT} {R : zRR} {a0 : Nat} (h0 : zi6 T R a0) : ∀ (fuel : Nat) (i1 : Int32) (i2 : Int32) (i3 : Int32) (M : zMem), zX C mi_X6_endOfRow (zFin C zrvI ad T R) 0 0 (mf_X6_endOfRow_l108 R a0 fuel i1 i2 i3 M) 108 [(0, .ref a0), (1, .int i1), (2, .int i2), (3, .int i3)] [] ad T R M := by
  intro fuel
  induction fuel with
  | zero => intros; exact zx_none
  | succ fuel ih =>
    intro i1 i2 i3 M
    rw [mf_X6_endOfRow_l108]
    refine zx_iload_n (i := 3) (zd me_X6_endOfRow 66 rfl) rfl 3 rfl ?_
    refine zx_sipush (v := 200) (zd me_X6_endOfRow 67 rfl) (by decide) ?_
    refine zx_icmp_gt (tgt := 147) (zd me_X6_endOfRow 68 rfl) (by decide) (fun c19 => ?_) (fun c19 => ?_)
    · refine zx_iconst (v := (-1)) (zd me_X6_endOfRow 87 rfl) (by decide) ?_
      exact zx_iret (zd me_X6_endOfRow 88 rfl) rfl
    · refine zx_aload_n (i := 0) (zd me_X6_endOfRow 69 rfl) rfl 0 rfl ?_
      refine zx_getR (zd me_X6_endOfRow 70 rfl) fl_X6_42 (zi6_c h0) rfl (zi6_r4 h0) ?_
      refine zx_iconst (v := 2) (zd me_X6_endOfRow 71 rfl) (by decide) ?_
      refine zx_callVI1 (zd me_X6_endOfRow 72 rfl) (mc_X3_allThatAre (zl C) (zi6_t4 h0) (2 : Int32) M) lk_X6_60 ⟨(Nat.le_of_ble_eq_true rfl), (Nat.le_of_ble_eq_true rfl)⟩ (Nat.le_of_ble_eq_true rfl) (zi3_c (zi6_t4 h0)) rfl (fun r21 M20 => ?_)
      refine zx_iload_n (i := 2) (zd me_X6_endOfRow 73 rfl) rfl 2 rfl ?_
      refine zx_iand (zd me_X6_endOfRow 74 rfl) ?_
      refine zx_iload_n (i := 2) (zd me_X6_endOfRow 75 rfl) rfl 2 rfl ?_
      refine zx_icmp_ne (tgt := 133) (zd me_X6_endOfRow 76 rfl) (by decide) (fun c22 => ?_) (fun c22 => ?_)
      · refine zx_aload_n (i := 0) (zd me_X6_endOfRow 81 rfl) rfl 0 rfl ?_
        refine zx_getR (zd me_X6_endOfRow 82 rfl) fl_X6_42 (zi6_c h0) rfl (zi6_r4 h0) ?_
        refine zx_iconst (v := 1) (zd me_X6_endOfRow 83 rfl) (by decide) ?_
        refine zx_callVV1 (zd me_X6_endOfRow 84 rfl) (mc_X3_pass (zl C) (zi6_t4 h0) (1 : Int32) M20) lk_X6_53 ⟨(Nat.le_of_ble_eq_true rfl), (Nat.le_of_ble_eq_true rfl)⟩ (Nat.le_of_ble_eq_true rfl) (zi3_c (zi6_t4 h0)) rfl (fun r24 M23 => ?_)
        refine zx_iinc (v := 1) (ls' := [(3, .int (i3 + 1)), (0, .ref a0), (1, .int i1), (2, .int i2)]) (zd me_X6_endOfRow 85 rfl) (Nat.le_of_ble_eq_true rfl) 3 rfl (by decide) rfl ?_
        refine zx_goto (tgt := 108) (zd me_X6_endOfRow 86 rfl) (by decide) ?_
        refine zx_loc [1, 2, 3, 0] rfl ?_
        exact ih i1 i2 (i3 + 1) M23
      · refine zx_iload_n (i := 1) (zd me_X6_endOfRow 77 rfl) rfl 1 rfl ?_
        refine zx_iload_n (i := 3) (zd me_X6_endOfRow 78 rfl) rfl 3 rfl ?_
        refine zx_iadd (zd me_X6_endOfRow 79 rfl) ?_
        exact zx_iret (zd me_X6_endOfRow 80 rfl) rfl
def mf_X6_endOfRow_b106 (R : zRR) (a0 : Nat) (i1 : Int32) (i2 : Int32) (M : zMem) : Option (Int32 × zMem) :=
  mf_X6_endOfRow_l108 R a0 zF i1 i2 (0 : Int32) M
theorem mt_X6_endOfRow_b106 {C : zCx} {ad : Nat → Nat} {T : zTT} {R : zRR} {a0 : Nat} (h0 : zi6 T R a0) (i1 : Int32) (i2 : Int32) (M : zMem) : zX C mi_X6_endOfRow (zFin C zrvI ad T R) 0 0 (mf_X6_endOfRow_b106 R a0 i1 i2 M) 106 [(0, .ref a0), (1, .int i1), (2, .int i2)] [] ad T R M := by
  unfold mf_X6_endOfRow_b106
  refine zx_iconst (v := 0) (zd me_X6_endOfRow 64 rfl) (by decide) ?_
  refine zx_istore_n (i := 3) (ls' := [(3, .int (0 : Int32)), (0, .ref a0), (1, .int i1), (2, .int i2)]) (zd me_X6_endOfRow 65 rfl) rfl (Nat.le_of_ble_eq_true rfl) rfl ?_
  refine zx_loc [1, 2, 3, 0] rfl ?_
  exact mt_X6_endOfRow_l108 h0 zF i1 i2 (0 : Int32) M
def mf_X6_endOfRow_l17 (R : zRR) (a0 : Nat) : Nat → Int32 → Int32 → Int32 → zMem → Option (Int32 × zMem)
  | 0, _, _, _, _ => none
  | fuel + 1, i1, i2, i3, M =>
    if (M.1 a0 7) ≤ i3 then
      (mf_X6_endOfRow_b106 R a0 i1 i2 M)
    else
      (if (3 : Int32) ≤ i3 then
        (mf_X6_endOfRow_b106 R a0 i1 i2 M)
      else
        (zald 3 i3 fun j5 =>
        zcl (mf_X6_soonest R a0 (zrf R a0 4) (M.1 (zrf R a0 5) j5) M) fun r7 M6 =>
        if r7 = (-1 : Int32) then
          (some ((-1 : Int32), M6))
        else
          (zcl (mf_X3_pass R (zrf R a0 4) r7 M6) fun _ M9 =>
          zald 3 i3 fun j11 =>
          zcl (mf_X3_startSheet R (zrf R a0 4) (M9.1 (zrf R a0 5) j11) M9) fun r13 M12 =>
          zlet ((i1 + r7) : Int32) fun x14 =>
          zald 3 i3 fun j15 =>
          zlet (zwI M12 (zrf R a0 6) j15 x14) fun M16 =>
          zald 3 i3 fun j17 =>
          zlet ((i2 ||| ((1 : Int32) <<< ((M16.1 (zrf R a0 5) j17) &&& 31))) : Int32) fun x18 =>
          mf_X6_endOfRow_l17 R a0 fuel x14 x18 (i3 + 1) M16)))
theorem mt_X6_endOfRow_l17 {C : zCx} {ad : Nat → Nat} {T : zTT} {R : zRR} {a0 : Nat} (h0 : zi6 T R a0) : ∀ (fuel : Nat) (i1 : Int32) (i2 : Int32) (i3 : Int32) (M : zMem), zX C mi_X6_endOfRow (zFin C zrvI ad T R) 0 0 (mf_X6_endOfRow_l17 R a0 fuel i1 i2 i3 M) 17 [(0, .ref a0), (1, .int i1), (2, .int i2), (3, .int i3)] [] ad T R M := by
  intro fuel
  induction fuel with
  | zero => intros; exact zx_none
  | succ fuel ih =>
    intro i1 i2 i3 M
    rw [mf_X6_endOfRow_l17]
    refine zx_iload_n (i := 3) (zd me_X6_endOfRow 11 rfl) rfl 3 rfl ?_
    refine zx_aload_n (i := 0) (zd me_X6_endOfRow 12 rfl) rfl 0 rfl ?_
    refine zx_getI (zd me_X6_endOfRow 13 rfl) fl_X6_76 (zi6_c h0) rfl ?_
    refine zx_icmp_ge (tgt := 106) (zd me_X6_endOfRow 14 rfl) (by decide) (fun c3 => ?_) (fun c3 => ?_)
    · refine zx_loc [0, 1, 2] rfl ?_
      exact mt_X6_endOfRow_b106 h0 i1 i2 M
    · refine zx_iload_n (i := 3) (zd me_X6_endOfRow 15 rfl) rfl 3 rfl ?_
      refine zx_iconst (v := 3) (zd me_X6_endOfRow 16 rfl) (by decide) ?_
      refine zx_icmp_ge (tgt := 106) (zd me_X6_endOfRow 17 rfl) (by decide) (fun c4 => ?_) (fun c4 => ?_)
      · refine zx_loc [0, 1, 2] rfl ?_
        exact mt_X6_endOfRow_b106 h0 i1 i2 M
      · refine zx_aload_n (i := 0) (zd me_X6_endOfRow 18 rfl) rfl 0 rfl ?_
        refine zx_aload_n (i := 0) (zd me_X6_endOfRow 19 rfl) rfl 0 rfl ?_
        refine zx_getR (zd me_X6_endOfRow 20 rfl) fl_X6_42 (zi6_c h0) rfl (zi6_r4 h0) ?_
        refine zx_aload_n (i := 0) (zd me_X6_endOfRow 21 rfl) rfl 0 rfl ?_
        refine zx_getR (zd me_X6_endOfRow 22 rfl) fl_X6_11 (zi6_c h0) rfl (zi6_r5 h0) ?_
        refine zx_iload_n (i := 3) (zd me_X6_endOfRow 23 rfl) rfl 3 rfl ?_
        refine zx_iald (zd me_X6_endOfRow 24 rfl) (zi6_t5 h0) (fun j5 hj5 => ?_)
        refine zx_callVI2 (zd me_X6_endOfRow 25 rfl) (mc_X6_soonest (zl C) h0 (zi6_t4 h0) (M.1 (zrf R a0 5) j5) M) lk_X6_96 ⟨(Nat.le_of_ble_eq_true rfl), (Nat.le_of_ble_eq_true rfl)⟩ (Nat.le_of_ble_eq_true rfl) (zi6_c h0) rfl (fun r7 M6 => ?_)
        refine zx_istore (ls' := [(4, .int r7), (0, .ref a0), (1, .int i1), (2, .int i2), (3, .int i3)]) (zd me_X6_endOfRow 26 rfl) (Nat.le_of_ble_eq_true rfl) rfl ?_
        refine zx_iload (zd me_X6_endOfRow 27 rfl) 0 rfl ?_
        refine zx_iconst (v := (-1)) (zd me_X6_endOfRow 28 rfl) (by decide) ?_
        refine zx_icmp_ne (tgt := 54) (zd me_X6_endOfRow 29 rfl) (by decide) (fun c8 => ?_) (fun c8 => ?_)
        · refine zx_aload_n (i := 0) (zd me_X6_endOfRow 32 rfl) rfl 1 rfl ?_
          refine zx_getR (zd me_X6_endOfRow 33 rfl) fl_X6_42 (zi6_c h0) rfl (zi6_r4 h0) ?_
          refine zx_iload (zd me_X6_endOfRow 34 rfl) 0 rfl ?_
          refine zx_callVV1 (zd me_X6_endOfRow 35 rfl) (mc_X3_pass (zl C) (zi6_t4 h0) r7 M6) lk_X6_53 ⟨(Nat.le_of_ble_eq_true rfl), (Nat.le_of_ble_eq_true rfl)⟩ (Nat.le_of_ble_eq_true rfl) (zi3_c (zi6_t4 h0)) rfl (fun r10 M9 => ?_)
          refine zx_aload_n (i := 0) (zd me_X6_endOfRow 36 rfl) rfl 1 rfl ?_
          refine zx_getR (zd me_X6_endOfRow 37 rfl) fl_X6_42 (zi6_c h0) rfl (zi6_r4 h0) ?_
          refine zx_aload_n (i := 0) (zd me_X6_endOfRow 38 rfl) rfl 1 rfl ?_
          refine zx_getR (zd me_X6_endOfRow 39 rfl) fl_X6_11 (zi6_c h0) rfl (zi6_r5 h0) ?_
          refine zx_iload_n (i := 3) (zd me_X6_endOfRow 40 rfl) rfl 4 rfl ?_
          refine zx_iald (zd me_X6_endOfRow 41 rfl) (zi6_t5 h0) (fun j11 hj11 => ?_)
          refine zx_callVI1 (zd me_X6_endOfRow 42 rfl) (mc_X3_startSheet (zl C) (zi6_t4 h0) (M9.1 (zrf R a0 5) j11) M9) lk_X6_57 ⟨(Nat.le_of_ble_eq_true rfl), (Nat.le_of_ble_eq_true rfl)⟩ (Nat.le_of_ble_eq_true rfl) (zi3_c (zi6_t4 h0)) rfl (fun r13 M12 => ?_)
          refine zx_pop (zd me_X6_endOfRow 43 rfl) rfl ?_
          refine zx_iload_n (i := 1) (zd me_X6_endOfRow 44 rfl) rfl 2 rfl ?_
          refine zx_iload (zd me_X6_endOfRow 45 rfl) 0 rfl ?_
          refine zx_iadd (zd me_X6_endOfRow 46 rfl) ?_
          refine zx_leti (fun x14 => ?_)
          refine zx_istore_n (i := 1) (ls' := [(1, .int x14), (4, .int r7), (0, .ref a0), (2, .int i2), (3, .int i3)]) (zd me_X6_endOfRow 47 rfl) rfl (Nat.le_of_ble_eq_true rfl) rfl ?_
          refine zx_aload_n (i := 0) (zd me_X6_endOfRow 48 rfl) rfl 2 rfl ?_
          refine zx_getR (zd me_X6_endOfRow 49 rfl) fl_X6_15 (zi6_c h0) rfl (zi6_r6 h0) ?_
          refine zx_iload_n (i := 3) (zd me_X6_endOfRow 50 rfl) rfl 4 rfl ?_
          refine zx_iload_n (i := 1) (zd me_X6_endOfRow 51 rfl) rfl 0 rfl ?_
          refine zx_iast (zd me_X6_endOfRow 52 rfl) (zi6_t6 h0) (fun M16 => ?_)
          refine zx_iload_n (i := 2) (zd me_X6_endOfRow 53 rfl) rfl 3 rfl ?_
          refine zx_iconst (v := 1) (zd me_X6_endOfRow 54 rfl) (by decide) ?_
          refine zx_aload_n (i := 0) (zd me_X6_endOfRow 55 rfl) rfl 2 rfl ?_
          refine zx_getR (zd me_X6_endOfRow 56 rfl) fl_X6_11 (zi6_c h0) rfl (zi6_r5 h0) ?_
          refine zx_iload_n (i := 3) (zd me_X6_endOfRow 57 rfl) rfl 4 rfl ?_
          refine zx_iald (zd me_X6_endOfRow 58 rfl) (zi6_t5 h0) (fun j17 hj17 => ?_)
          refine zx_ishl (zd me_X6_endOfRow 59 rfl) ?_
          refine zx_ior (zd me_X6_endOfRow 60 rfl) ?_
          refine zx_leti (fun x18 => ?_)
          refine zx_istore_n (i := 2) (ls' := [(2, .int x18), (1, .int x14), (4, .int r7), (0, .ref a0), (3, .int i3)]) (zd me_X6_endOfRow 61 rfl) rfl (Nat.le_of_ble_eq_true rfl) rfl ?_
          refine zx_iinc (v := 1) (ls' := [(3, .int (i3 + 1)), (2, .int x18), (1, .int x14), (4, .int r7), (0, .ref a0)]) (zd me_X6_endOfRow 62 rfl) (Nat.le_of_ble_eq_true rfl) 4 rfl (by decide) rfl ?_
          refine zx_goto (tgt := 17) (zd me_X6_endOfRow 63 rfl) (by decide) ?_
          refine zx_loc [4, 2, 1, 0] rfl ?_
          exact ih x14 x18 (i3 + 1) M16
        · refine zx_iconst (v := (-1)) (zd me_X6_endOfRow 30 rfl) (by decide) ?_
          exact zx_iret (zd me_X6_endOfRow 31 rfl) rfl
def mf_X6_endOfRow (R : zRR) (a0 : Nat) (M : zMem) : Option (Int32 × zMem) :=
  zcl (mf_X3_copyFrom R (zrf R a0 4) (zrf R a0 0) M) fun _ M1 =>
  mf_X6_endOfRow_l17 R a0 zF (0 : Int32) (0 : Int32) (0 : Int32) M1
theorem mc_X6_endOfRow (l : Launch) {T : zTT} {R : zRR} {a0 : Nat} (h0 : zi6 T R a0) (M : zMem) : zMS l yX6_endOfRow mi_X6_endOfRow zrvI (mf_X6_endOfRow R a0 M) [.ref a0] T R M := by
  refine zMS.of (by decide +kernel) rfl ⟨rfl, rfl⟩ (Nat.le_of_ble_eq_true rfl) (fun C ad _ => ?_)
  show zX C mi_X6_endOfRow (zFin C zrvI ad T R) 0 0 (mf_X6_endOfRow R a0 M) 0 [(0, .ref a0)] [] ad T R M
  unfold mf_X6_endOfRow
  refine zx_iconst (v := 0) (zd me_X6_endOfRow 0 rfl) (by decide) ?_
  refine zx_istore_n (i := 1) (ls' := [(1, .int (0 : Int32)), (0, .ref a0)]) (zd me_X6_endOfRow 1 rfl) rfl (Nat.le_of_ble_eq_true rfl) rfl ?_
  refine zx_iconst (v := 0) (zd me_X6_endOfRow 2 rfl) (by decide) ?_
  refine zx_istore_n (i := 2) (ls' := [(2, .int (0 : Int32)), (1, .int (0 : Int32)), (0, .ref a0)]) (zd me_X6_endOfRow 3 rfl) rfl (Nat.le_of_ble_eq_true rfl) rfl ?_
  refine zx_aload_n (i := 0) (zd me_X6_endOfRow 4 rfl) rfl 2 rfl ?_
  refine zx_getR (zd me_X6_endOfRow 5 rfl) fl_X6_42 (zi6_c h0) rfl (zi6_r4 h0) ?_
  refine zx_aload_n (i := 0) (zd me_X6_endOfRow 6 rfl) rfl 2 rfl ?_
  refine zx_getR (zd me_X6_endOfRow 7 rfl) fl_X6_24 (zi6_c h0) rfl (zi6_r0 h0) ?_
  refine zx_callVV1 (zd me_X6_endOfRow 8 rfl) (mc_X3_copyFrom (zl C) (zi6_t4 h0) (zi6_t0 h0) M) lk_X6_45 ⟨(Nat.le_of_ble_eq_true rfl), (Nat.le_of_ble_eq_true rfl)⟩ (Nat.le_of_ble_eq_true rfl) (zi3_c (zi6_t4 h0)) rfl (fun r2 M1 => ?_)
  refine zx_iconst (v := 0) (zd me_X6_endOfRow 9 rfl) (by decide) ?_
  refine zx_istore_n (i := 3) (ls' := [(3, .int (0 : Int32)), (2, .int (0 : Int32)), (1, .int (0 : Int32)), (0, .ref a0)]) (zd me_X6_endOfRow 10 rfl) rfl (Nat.le_of_ble_eq_true rfl) rfl ?_
  refine zx_loc [3, 2, 1, 0] rfl ?_
  exact mt_X6_endOfRow_l17 h0 zF (0 : Int32) (0 : Int32) (0 : Int32) M1
def mf_X6_bestOrder_b78 (R : zRR) (a0 : Nat) (H6 : Int32 → Int32 → Int32 → zMem → Option (Int32 × zMem)) (i1 : Int32) (i3 : Int32) (M : zMem) : Option (Int32 × zMem) :=
  zcl (mf_X11_makeNextRow R (zrf R a0 5) 3 (M.1 a0 7) M) fun r9 M8 =>
  H6 i1 r9 (i3 + 1) M8
theorem mt_X6_bestOrder_b78 {C : zCx} {ad : Nat → Nat} {T : zTT} {R : zRR} {a0 : Nat} (h0 : zi6 T R a0) {H6 : Int32 → Int32 → Int32 → zMem → Option (Int32 × zMem)} (hH6 : ∀ (i1 : Int32) (i2 : Int32) (i3 : Int32) (M : zMem), zX C mi_X6_bestOrder (zFin C zrvI ad T R) 0 0 (H6 i1 i2 i3 M) 6 [(0, .ref a0), (1, .int i1), (2, .int i2), (3, .int i3)] [] ad T R M) (i1 : Int32) (i3 : Int32) (M : zMem) : zX C mi_X6_bestOrder (zFin C zrvI ad T R) 0 0 (mf_X6_bestOrder_b78 R a0 H6 i1 i3 M) 78 [(0, .ref a0), (1, .int i1), (3, .int i3)] [] ad T R M := by
  unfold mf_X6_bestOrder_b78
  refine zx_aload_n (i := 0) (zd me_X6_bestOrder 45 rfl) rfl 0 rfl ?_
  refine zx_getR (zd me_X6_bestOrder 46 rfl) fl_X6_11 (zi6_c h0) rfl (zi6_r5 h0) ?_
  refine zx_aload_n (i := 0) (zd me_X6_bestOrder 47 rfl) rfl 0 rfl ?_
  refine zx_getI (zd me_X6_bestOrder 48 rfl) fl_X6_76 (zi6_c h0) rfl ?_
  refine zx_callSI2 (zd me_X6_bestOrder 49 rfl) (mc_X11_makeNextRow (zl C) (zi6_t5 h0) (M.1 a0 7) M) lk_X6_92 ⟨(Nat.le_of_ble_eq_true rfl), (Nat.le_of_ble_eq_true rfl)⟩ (Nat.le_of_ble_eq_true rfl) (fun r9 M8 => ?_)
  refine zx_istore_n (i := 2) (ls' := [(2, .int r9), (0, .ref a0), (1, .int i1), (3, .int i3)]) (zd me_X6_bestOrder 50 rfl) rfl (Nat.le_of_ble_eq_true rfl) rfl ?_
  refine zx_iinc (v := 1) (ls' := [(3, .int (i3 + 1)), (2, .int r9), (0, .ref a0), (1, .int i1)]) (zd me_X6_bestOrder 51 rfl) (Nat.le_of_ble_eq_true rfl) 3 rfl (by decide) rfl ?_
  refine zx_goto (tgt := 6) (zd me_X6_bestOrder 52 rfl) (by decide) ?_
  refine zx_loc [2, 3, 1, 0] rfl ?_
  exact hH6 i1 r9 (i3 + 1) M8
def mf_X6_bestOrder_b39 (R : zRR) (a0 : Nat) (H6 : Int32 → Int32 → Int32 → zMem → Option (Int32 × zMem)) (i3 : Int32) (i4 : Int32) (M : zMem) : Option (Int32 × zMem) :=
  zlet (zwI M a0 10 (M.1 a0 7)) fun M10 =>
  zlet (zrowI M10 (zrf R a0 8) (va_cpy (M10.1 (zrf R a0 5)) (M10.1 (zrf R a0 8)) (0 : Int32).toNatClampNeg (0 : Int32).toNatClampNeg (3 : Int32).toNatClampNeg)) fun M11 =>
  zlet (zrowI M11 (zrf R a0 9) (va_cpy (M11.1 (zrf R a0 6)) (M11.1 (zrf R a0 9)) (0 : Int32).toNatClampNeg (0 : Int32).toNatClampNeg (3 : Int32).toNatClampNeg)) fun M12 =>
  mf_X6_bestOrder_b78 R a0 H6 i4 i3 M12
theorem mt_X6_bestOrder_b39 {C : zCx} {ad : Nat → Nat} {T : zTT} {R : zRR} {a0 : Nat} (h0 : zi6 T R a0) {H6 : Int32 → Int32 → Int32 → zMem → Option (Int32 × zMem)} (hH6 : ∀ (i1 : Int32) (i2 : Int32) (i3 : Int32) (M : zMem), zX C mi_X6_bestOrder (zFin C zrvI ad T R) 0 0 (H6 i1 i2 i3 M) 6 [(0, .ref a0), (1, .int i1), (2, .int i2), (3, .int i3)] [] ad T R M) (i3 : Int32) (i4 : Int32) (M : zMem) : zX C mi_X6_bestOrder (zFin C zrvI ad T R) 0 0 (mf_X6_bestOrder_b39 R a0 H6 i3 i4 M) 39 [(0, .ref a0), (3, .int i3), (4, .int i4)] [] ad T R M := by
  unfold mf_X6_bestOrder_b39
  refine zx_iload (zd me_X6_bestOrder 23 rfl) 2 rfl ?_
  refine zx_istore_n (i := 1) (ls' := [(1, .int i4), (0, .ref a0), (3, .int i3), (4, .int i4)]) (zd me_X6_bestOrder 24 rfl) rfl (Nat.le_of_ble_eq_true rfl) rfl ?_
  refine zx_aload_n (i := 0) (zd me_X6_bestOrder 25 rfl) rfl 1 rfl ?_
  refine zx_aload_n (i := 0) (zd me_X6_bestOrder 26 rfl) rfl 1 rfl ?_
  refine zx_getI (zd me_X6_bestOrder 27 rfl) fl_X6_76 (zi6_c h0) rfl ?_
  refine zx_putI (zd me_X6_bestOrder 28 rfl) fp_X6_83 (zi6_c h0) rfl (fun M10 _ => ?_)
  refine zx_aload_n (i := 0) (zd me_X6_bestOrder 29 rfl) rfl 1 rfl ?_
  refine zx_getR (zd me_X6_bestOrder 30 rfl) fl_X6_11 (zi6_c h0) rfl (zi6_r5 h0) ?_
  refine zx_iconst (v := 0) (zd me_X6_bestOrder 31 rfl) (by decide) ?_
  refine zx_aload_n (i := 0) (zd me_X6_bestOrder 32 rfl) rfl 1 rfl ?_
  refine zx_getR (zd me_X6_bestOrder 33 rfl) fl_X6_18 (zi6_c h0) rfl (zi6_r8 h0) ?_
  refine zx_iconst (v := 0) (zd me_X6_bestOrder 34 rfl) (by decide) ?_
  refine zx_iconst (v := 3) (zd me_X6_bestOrder 35 rfl) (by decide) ?_
  refine zx_copyI (zd me_X6_bestOrder 36 rfl) lk_X6_86 ⟨(Nat.le_of_ble_eq_true rfl), (Nat.le_of_ble_eq_true rfl)⟩ (zi6_t5 h0) (zi6_t8 h0) ⟨by decide, by decide, by decide, by decide, by decide⟩ (fun M11 => ?_)
  refine zx_aload_n (i := 0) (zd me_X6_bestOrder 37 rfl) rfl 1 rfl ?_
  refine zx_getR (zd me_X6_bestOrder 38 rfl) fl_X6_15 (zi6_c h0) rfl (zi6_r6 h0) ?_
  refine zx_iconst (v := 0) (zd me_X6_bestOrder 39 rfl) (by decide) ?_
  refine zx_aload_n (i := 0) (zd me_X6_bestOrder 40 rfl) rfl 1 rfl ?_
  refine zx_getR (zd me_X6_bestOrder 41 rfl) fl_X6_21 (zi6_c h0) rfl (zi6_r9 h0) ?_
  refine zx_iconst (v := 0) (zd me_X6_bestOrder 42 rfl) (by decide) ?_
  refine zx_iconst (v := 3) (zd me_X6_bestOrder 43 rfl) (by decide) ?_
  refine zx_copyI (zd me_X6_bestOrder 44 rfl) lk_X6_86 ⟨(Nat.le_of_ble_eq_true rfl), (Nat.le_of_ble_eq_true rfl)⟩ (zi6_t6 h0) (zi6_t9 h0) ⟨by decide, by decide, by decide, by decide, by decide⟩ (fun M12 => ?_)
  refine zx_loc [1, 0, 2] rfl ?_
  exact mt_X6_bestOrder_b78 h0 hH6 i4 i3 M12
def mf_X6_bestOrder_l6 (R : zRR) (a0 : Nat) : Nat → Int32 → Int32 → Int32 → zMem → Option (Int32 × zMem)
  | 0, _, _, _, _ => none
  | fuel + 1, i1, i2, i3, M =>
    if (6 : Int32) ≤ i3 then
      (some (i1, M))
    else
      (if i2 = 0 then
        (some (i1, M))
      else
        (zcl (mf_X6_endOfRow R a0 M) fun r4 M3 =>
        if r4 = (-1 : Int32) then
          (mf_X6_bestOrder_b78 R a0 (mf_X6_bestOrder_l6 R a0 fuel) i1 i3 M3)
        else
          (if i1 = (-1 : Int32) then
            (mf_X6_bestOrder_b39 R a0 (mf_X6_bestOrder_l6 R a0 fuel) i3 r4 M3)
          else
            (if i1 ≤ r4 then
              (mf_X6_bestOrder_b78 R a0 (mf_X6_bestOrder_l6 R a0 fuel) i1 i3 M3)
            else
              (mf_X6_bestOrder_b39 R a0 (mf_X6_bestOrder_l6 R a0 fuel) i3 r4 M3)))))
theorem mt_X6_bestOrder_l6 {C : zCx} {ad : Nat → Nat} {T : zTT} {R : zRR} {a0 : Nat} (h0 : zi6 T R a0) : ∀ (fuel : Nat) (i1 : Int32) (i2 : Int32) (i3 : Int32) (M : zMem), zX C mi_X6_bestOrder (zFin C zrvI ad T R) 0 0 (mf_X6_bestOrder_l6 R a0 fuel i1 i2 i3 M) 6 [(0, .ref a0), (1, .int i1), (2, .int i2), (3, .int i3)] [] ad T R M := by
  intro fuel
  induction fuel with
  | zero => intros; exact zx_none
  | succ fuel ih =>
    intro i1 i2 i3 M
    rw [mf_X6_bestOrder_l6]
    refine zx_iload_n (i := 3) (zd me_X6_bestOrder 6 rfl) rfl 3 rfl ?_
    refine zx_bipush (v := 6) (zd me_X6_bestOrder 7 rfl) (by decide) ?_
    refine zx_icmp_ge (tgt := 96) (zd me_X6_bestOrder 8 rfl) (by decide) (fun c1 => ?_) (fun c1 => ?_)
    · refine zx_iload_n (i := 1) (zd me_X6_bestOrder 53 rfl) rfl 1 rfl ?_
      exact zx_iret (zd me_X6_bestOrder 54 rfl) rfl
    · refine zx_iload_n (i := 2) (zd me_X6_bestOrder 9 rfl) rfl 2 rfl ?_
      refine zx_if_eq (tgt := 96) (zd me_X6_bestOrder 10 rfl) (by decide) (fun c2 => ?_) (fun c2 => ?_)
      · refine zx_iload_n (i := 1) (zd me_X6_bestOrder 53 rfl) rfl 1 rfl ?_
        exact zx_iret (zd me_X6_bestOrder 54 rfl) rfl
      · refine zx_aload_n (i := 0) (zd me_X6_bestOrder 11 rfl) rfl 0 rfl ?_
        refine zx_callVI0 (zd me_X6_bestOrder 12 rfl) (mc_X6_endOfRow (zl C) h0 M) lk_X6_79 ⟨(Nat.le_of_ble_eq_true rfl), (Nat.le_of_ble_eq_true rfl)⟩ (Nat.le_of_ble_eq_true rfl) (zi6_c h0) rfl (fun r4 M3 => ?_)
        refine zx_istore (ls' := [(4, .int r4), (0, .ref a0), (1, .int i1), (2, .int i2), (3, .int i3)]) (zd me_X6_bestOrder 13 rfl) (Nat.le_of_ble_eq_true rfl) rfl ?_
        refine zx_iload (zd me_X6_bestOrder 14 rfl) 0 rfl ?_
        refine zx_iconst (v := (-1)) (zd me_X6_bestOrder 15 rfl) (by decide) ?_
        refine zx_icmp_eq (tgt := 78) (zd me_X6_bestOrder 16 rfl) (by decide) (fun c5 => ?_) (fun c5 => ?_)
        · refine zx_loc [1, 2, 4] rfl ?_
          exact mt_X6_bestOrder_b78 h0 ih i1 i3 M3
        · refine zx_iload_n (i := 1) (zd me_X6_bestOrder 17 rfl) rfl 2 rfl ?_
          refine zx_iconst (v := (-1)) (zd me_X6_bestOrder 18 rfl) (by decide) ?_
          refine zx_icmp_eq (tgt := 39) (zd me_X6_bestOrder 19 rfl) (by decide) (fun c6 => ?_) (fun c6 => ?_)
          · refine zx_loc [1, 4, 0] rfl ?_
            exact mt_X6_bestOrder_b39 h0 ih i3 r4 M3
          · refine zx_iload (zd me_X6_bestOrder 20 rfl) 0 rfl ?_
            refine zx_iload_n (i := 1) (zd me_X6_bestOrder 21 rfl) rfl 2 rfl ?_
            refine zx_icmp_ge (tgt := 78) (zd me_X6_bestOrder 22 rfl) (by decide) (fun c7 => ?_) (fun c7 => ?_)
            · refine zx_loc [1, 2, 4] rfl ?_
              exact mt_X6_bestOrder_b78 h0 ih i1 i3 M3
            · refine zx_loc [1, 4, 0] rfl ?_
              exact mt_X6_bestOrder_b39 h0 ih i3 r4 M3
def mf_X6_bestOrder (R : zRR) (a0 : Nat) (M : zMem) : Option (Int32 × zMem) :=
  mf_X6_bestOrder_l6 R a0 zF (-1 : Int32) (1 : Int32) (0 : Int32) M
theorem mc_X6_bestOrder (l : Launch) {T : zTT} {R : zRR} {a0 : Nat} (h0 : zi6 T R a0) (M : zMem) : zMS l yX6_bestOrder mi_X6_bestOrder zrvI (mf_X6_bestOrder R a0 M) [.ref a0] T R M := by
  refine zMS.of (by decide +kernel) rfl ⟨rfl, rfl⟩ (Nat.le_of_ble_eq_true rfl) (fun C ad _ => ?_)
  show zX C mi_X6_bestOrder (zFin C zrvI ad T R) 0 0 (mf_X6_bestOrder R a0 M) 0 [(0, .ref a0)] [] ad T R M
  unfold mf_X6_bestOrder
  refine zx_iconst (v := (-1)) (zd me_X6_bestOrder 0 rfl) (by decide) ?_
  refine zx_istore_n (i := 1) (ls' := [(1, .int (-1 : Int32)), (0, .ref a0)]) (zd me_X6_bestOrder 1 rfl) rfl (Nat.le_of_ble_eq_true rfl) rfl ?_
  refine zx_iconst (v := 1) (zd me_X6_bestOrder 2 rfl) (by decide) ?_
  refine zx_istore_n (i := 2) (ls' := [(2, .int (1 : Int32)), (1, .int (-1 : Int32)), (0, .ref a0)]) (zd me_X6_bestOrder 3 rfl) rfl (Nat.le_of_ble_eq_true rfl) rfl ?_
  refine zx_iconst (v := 0) (zd me_X6_bestOrder 4 rfl) (by decide) ?_
  refine zx_istore_n (i := 3) (ls' := [(3, .int (0 : Int32)), (2, .int (1 : Int32)), (1, .int (-1 : Int32)), (0, .ref a0)]) (zd me_X6_bestOrder 5 rfl) rfl (Nat.le_of_ble_eq_true rfl) rfl ?_
  refine zx_loc [3, 2, 1, 0] rfl ?_
  exact mt_X6_bestOrder_l6 h0 zF (-1 : Int32) (1 : Int32) (0 : Int32) M
