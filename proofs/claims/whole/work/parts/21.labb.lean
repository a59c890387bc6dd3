def mf_X3_jammedBath_b70 (R : zRR) (a0 : Nat) (H9 : Int32 → Int32 → Int32 → Int32 → zMem → Option (Int32 × zMem)) (i1 : Int32) (i2 : Int32) (i3 : Int32) (i4 : Int32) (M : zMem) : Option (Int32 × zMem) :=
  H9 i1 i2 i3 (i4 + 1) M
theorem mt_X3_jammedBath_b70 {C : zCx} {ad : Nat → Nat} {T : zTT} {R : zRR} {a0 : Nat} (h0 : zi3 T R a0) {H9 : Int32 → Int32 → Int32 → Int32 → zMem → Option (Int32 × zMem)} (hH9 : ∀ (i1 : Int32) (i2 : Int32) (i3 : Int32) (i4 : Int32) (M : zMem), zX C mi_X3_jammedBath (zFin C zrvI ad T R) 0 0 (H9 i1 i2 i3 i4 M) 9 [(0, .ref a0), (1, .int i1), (2, .int i2), (3, .int i3), (4, .int i4)] [] ad T R M) (i1 : Int32) (i2 : Int32) (i3 : Int32) (i4 : Int32) (M : zMem) : zX C mi_X3_jammedBath (zFin C zrvI ad T R) 0 0 (mf_X3_jammedBath_b70 R a0 H9 i1 i2 i3 i4 M) 70 [(0, .ref a0), (1, .int i1), (2, .int i2), (3, .int i3), (4, .int i4)] [] ad T R M := by
  unfold mf_X3_jammedBath_b70
  refine zx_iinc (v := 1) (ls' := [(4, .int (i4 + 1)), (0, .ref a0), (1, .int i1), (2, .int i2), (3, .int i3)]) (zd me_X3_jammedBath 41 rfl) (Nat.le_of_ble_eq_true rfl) 4 rfl (by decide) rfl ?_
  refine zx_goto (tgt := 9) (zd me_X3_jammedBath 42 rfl) (by decide) ?_
  refine zx_loc [1, 2, 3, 4, 0] rfl ?_
  exact hH9 i1 i2 i3 (i4 + 1) M
def mf_X3_jammedBath_b53 (R : zRR) (a0 : Nat) (H9 : Int32 → Int32 → Int32 → Int32 → zMem → Option (Int32 × zMem)) (i4 : Int32) (i5 : Int32) (M : zMem) : Option (Int32 × zMem) :=
  zald 6 i4 fun j7 =>
  zlet ((M.1 (zrf R (zrf R a0 0) 6) j7) : Int32) fun x8 =>
  mf_X3_jammedBath_b70 R a0 H9 i4 i5 x8 i4 M
theorem mt_X3_jammedBath_b53 {C : zCx} {ad : Nat → Nat} {T : zTT} {R : zRR} {a0 : Nat} (h0 : zi3 T R a0) {H9 : Int32 → Int32 → Int32 → Int32 → zMem → Option (Int32 × zMem)} (hH9 : ∀ (i1 : Int32) (i2 : Int32) (i3 : Int32) (i4 : Int32) (M : zMem), zX C mi_X3_jammedBath (zFin C zrvI ad T R) 0 0 (H9 i1 i2 i3 i4 M) 9 [(0, .ref a0), (1, .int i1), (2, .int i2), (3, .int i3), (4, .int i4)] [] ad T R M) (i4 : Int32) (i5 : Int32) (M : zMem) : zX C mi_X3_jammedBath (zFin C zrvI ad T R) 0 0 (mf_X3_jammedBath_b53 R a0 H9 i4 i5 M) 53 [(0, .ref a0), (4, .int i4), (5, .int i5)] [] ad T R M := by
  unfold mf_X3_jammedBath_b53
  refine zx_iload (zd me_X3_jammedBath 31 rfl) 1 rfl ?_
  refine zx_istore_n (i := 1) (ls' := [(1, .int i4), (0, .ref a0), (4, .int i4), (5, .int i5)]) (zd me_X3_jammedBath 32 rfl) rfl (Nat.le_of_ble_eq_true rfl) rfl ?_
  refine zx_iload (zd me_X3_jammedBath 33 rfl) 3 rfl ?_
  refine zx_istore_n (i := 2) (ls' := [(2, .int i5), (1, .int i4), (0, .ref a0), (4, .int i4), (5, .int i5)]) (zd me_X3_jammedBath 34 rfl) rfl (Nat.le_of_ble_eq_true rfl) rfl ?_
  refine zx_aload_n (i := 0) (zd me_X3_jammedBath 35 rfl) rfl 2 rfl ?_
  refine zx_getR (zd me_X3_jammedBath 36 rfl) fl_X3_15 (zi3_c h0) rfl (zi3_r0 h0) ?_
  refine zx_getR (zd me_X3_jammedBath 37 rfl) fl_X3_50 (zi7_c (zi3_t0 h0)) rfl (zi7_r6 (zi3_t0 h0)) ?_
  refine zx_iload (zd me_X3_jammedBath 38 rfl) 3 rfl ?_
  refine zx_iald (zd me_X3_jammedBath 39 rfl) (zi7_t6 (zi3_t0 h0)) (fun j7 hj7 => ?_)
  refine zx_leti (fun x8 => ?_)
  refine zx_istore_n (i := 3) (ls' := [(3, .int x8), (2, .int i5), (1, .int i4), (0, .ref a0), (4, .int i4), (5, .int i5)]) (zd me_X3_jammedBath 40 rfl) rfl (Nat.le_of_ble_eq_true rfl) rfl ?_
  refine zx_loc [3, 2, 1, 0, 4] rfl ?_
  exact mt_X3_jammedBath_b70 h0 hH9 i4 i5 x8 i4 M
def mf_X3_jammedBath_l9 (R : zRR) (a0 : Nat) : Nat → Int32 → Int32 → Int32 → Int32 → zMem → Option (Int32 × zMem)
  | 0, _, _, _, _, _ => none
  | fuel + 1, i1, i2, i3, i4, M =>
    if (M.1 (zrf R a0 0) 0) ≤ i4 then
      (some (i1, M))
    else
      (zcl (mf_X3_askedByWaiting R a0 i4 M) fun r3 M2 =>
      if i1 = (-1 : Int32) then
        (mf_X3_jammedBath_b53 R a0 (mf_X3_jammedBath_l9 R a0 fuel) i4 r3 M2)
      else
        (zald 6 i4 fun j5 =>
        if (r3 * i3) ≤ (i2 * (M2.1 (zrf R (zrf R a0 0) 6) j5)) then
          (mf_X3_jammedBath_b70 R a0 (mf_X3_jammedBath_l9 R a0 fuel) i1 i2 i3 i4 M2)
        else
          (mf_X3_jammedBath_b53 R a0 (mf_X3_jammedBath_l9 R a0 fuel) i4 r3 M2)))
theorem mt_X3_jammedBath_l9 {C : zCx} {ad : Nat → Nat} {T : zTT} {R : zRR} {a0 : Nat} (h0 : zi3 T R a0) : ∀ (fuel : Nat) (i1 : Int32) (i2 : Int32) (i3 : Int32) (i4 : Int32) (M : zMem), zX C mi_X3_jammedBath (zFin C zrvI ad T R) 0 0 (mf_X3_jammedBath_l9 R a0 fuel i1 i2 i3 i4 M) 9 [(0, .ref a0), (1, .int i1), (2, .int i2), (3, .int i3), (4, .int i4)] [] ad T R M := by
  intro fuel
  induction fuel with
  | zero => intros; exact zx_none
  | succ fuel ih =>
    intro i1 i2 i3 i4 M
    rw [mf_X3_jammedBath_l9]
    refine zx_iload (zd me_X3_jammedBath 8 rfl) 4 rfl ?_
    refine zx_aload_n (i := 0) (zd me_X3_jammedBath 9 rfl) rfl 0 rfl ?_
    refine zx_getR (zd me_X3_jammedBath 10 rfl) fl_X3_15 (zi3_c h0) rfl (zi3_r0 h0) ?_
    refine zx_getI (zd me_X3_jammedBath 11 rfl) fl_X3_56 (zi7_c (zi3_t0 h0)) rfl ?_
    refine zx_icmp_ge (tgt := 76) (zd me_X3_jammedBath 12 rfl) (by decide) (fun c1 => ?_) (fun c1 => ?_)
    · refine zx_iload_n (i := 1) (zd me_X3_jammedBath 43 rfl) rfl 1 rfl ?_
      exact zx_iret (zd me_X3_jammedBath 44 rfl) rfl
    · refine zx_aload_n (i := 0) (zd me_X3_jammedBath 13 rfl) rfl 0 rfl ?_
      refine zx_iload (zd me_X3_jammedBath 14 rfl) 4 rfl ?_
      refine zx_callVI1 (zd me_X3_jammedBath 15 rfl) (mc_X3_askedByWaiting (zl C) h0 i4 M) lk_X3_92 ⟨(Nat.le_of_ble_eq_true rfl), (Nat.le_of_ble_eq_true rfl)⟩ (Nat.le_of_ble_eq_true rfl) (zi3_c h0) rfl (fun r3 M2 => ?_)
      refine zx_istore (ls' := [(5, .int r3), (0, .ref a0), (1, .int i1), (2, .int i2), (3, .int i3), (4, .int i4)]) (zd me_X3_jammedBath 16 rfl) (Nat.le_of_ble_eq_true rfl) rfl ?_
      refine zx_iload_n (i := 1) (zd me_X3_jammedBath 17 rfl) rfl 2 rfl ?_
      refine zx_iconst (v := (-1)) (zd me_X3_jammedBath 18 rfl) (by decide) ?_
      refine zx_icmp_eq (tgt := 53) (zd me_X3_jammedBath 19 rfl) (by decide) (fun c4 => ?_) (fun c4 => ?_)
      · refine zx_loc [1, 5, 0] rfl ?_
        exact mt_X3_jammedBath_b53 h0 ih i4 r3 M2
      · refine zx_iload (zd me_X3_jammedBath 20 rfl) 0 rfl ?_
        refine zx_iload_n (i := 3) (zd me_X3_jammedBath 21 rfl) rfl 4 rfl ?_
        refine zx_imul (zd me_X3_jammedBath 22 rfl) ?_
        refine zx_iload_n (i := 2) (zd me_X3_jammedBath 23 rfl) rfl 3 rfl ?_
        refine zx_aload_n (i := 0) (zd me_X3_jammedBath 24 rfl) rfl 1 rfl ?_
        refine zx_getR (zd me_X3_jammedBath 25 rfl) fl_X3_15 (zi3_c h0) rfl (zi3_r0 h0) ?_
        refine zx_getR (zd me_X3_jammedBath 26 rfl) fl_X3_50 (zi7_c (zi3_t0 h0)) rfl (zi7_r6 (zi3_t0 h0)) ?_
        refine zx_iload (zd me_X3_jammedBath 27 rfl) 5 rfl ?_
        refine zx_iald (zd me_X3_jammedBath 28 rfl) (zi7_t6 (zi3_t0 h0)) (fun j5 hj5 => ?_)
        refine zx_imul (zd me_X3_jammedBath 29 rfl) ?_
        refine zx_icmp_le (tgt := 70) (zd me_X3_jammedBath 30 rfl) (by decide) (fun c6 => ?_) (fun c6 => ?_)
        · refine zx_loc [1, 2, 3, 4, 5] rfl ?_
          exact mt_X3_jammedBath_b70 h0 ih i1 i2 i3 i4 M2
        · refine zx_loc [1, 5, 0] rfl ?_
          exact mt_X3_jammedBath_b53 h0 ih i4 r3 M2
def mf_X3_jammedBath (R : zRR) (a0 : Nat) (M : zMem) : Option (Int32 × zMem) :=
  mf_X3_jammedBath_l9 R a0 zF (-1 : Int32) (0 : Int32) (1 : Int32) (0 : Int32) M
theorem mc_X3_jammedBath (l : Launch) {T : zTT} {R : zRR} {a0 : Nat} (h0 : zi3 T R a0) (M : zMem) : zMS l yX3_jammedBath mi_X3_jammedBath zrvI (mf_X3_jammedBath R a0 M) [.ref a0] T R M := by
  refine zMS.of (by decide +kernel) rfl ⟨rfl, rfl⟩ (Nat.le_of_ble_eq_true rfl) (fun C ad _ => ?_)
  show zX C mi_X3_jammedBath (zFin C zrvI ad T R) 0 0 (mf_X3_jammedBath R a0 M) 0 [(0, .ref a0)] [] ad T R M
  unfold mf_X3_jammedBath
  refine zx_iconst (v := (-1)) (zd me_X3_jammedBath 0 rfl) (by decide) ?_
  refine zx_istore_n (i := 1) (ls' := [(1, .int (-1 : Int32)), (0, .ref a0)]) (zd me_X3_jammedBath 1 rfl) rfl (Nat.le_of_ble_eq_true rfl) rfl ?_
  refine zx_iconst (v := 0) (zd me_X3_jammedBath 2 rfl) (by decide) ?_
  refine zx_istore_n (i := 2) (ls' := [(2, .int (0 : Int32)), (1, .int (-1 : Int32)), (0, .ref a0)]) (zd me_X3_jammedBath 3 rfl) rfl (Nat.le_of_ble_eq_true rfl) rfl ?_
  refine zx_iconst (v := 1) (zd me_X3_jammedBath 4 rfl) (by decide) ?_
  refine zx_istore_n (i := 3) (ls' := [(3, .int (1 : Int32)), (2, .int (0 : Int32)), (1, .int (-1 : Int32)), (0, .ref a0)]) (zd me_X3_jammedBath 5 rfl) rfl (Nat.le_of_ble_eq_true rfl) rfl ?_
  refine zx_iconst (v := 0) (zd me_X3_jammedBath 6 rfl) (by decide) ?_
  refine zx_istore (ls' := [(4, .int (0 : Int32)), (3, .int (1 : Int32)), (2, .int (0 : Int32)), (1, .int (-1 : Int32)), (0, .ref a0)]) (zd me_X3_jammedBath 7 rfl) (Nat.le_of_ble_eq_true rfl) rfl ?_
  refine zx_loc [4, 3, 2, 1, 0] rfl ?_
  exact mt_X3_jammedBath_l9 h0 zF (-1 : Int32) (0 : Int32) (1 : Int32) (0 : Int32) M
def mf_X3_isBusy (R : zRR) (a0 : Nat) (M : zMem) : Option (Int32 × zMem) :=
  zcl (mf_X3_allThatAre R a0 (1 : Int32) M) fun r2 M1 =>
  if r2 = 0 then
    (some ((0 : Int32), M1))
  else
    (some ((1 : Int32), M1))
theorem mc_X3_isBusy (l : Launch) {T : zTT} {R : zRR} {a0 : Nat} (h0 : zi3 T R a0) (M : zMem) : zMS l yX3_isBusy mi_X3_isBusy zrvI (mf_X3_isBusy R a0 M) [.ref a0] T R M := by
  refine zMS.of (by decide +kernel) rfl ⟨rfl, rfl⟩ (Nat.le_of_ble_eq_true rfl) (fun C ad _ => ?_)
  show zX C mi_X3_isBusy (zFin C zrvI ad T R) 0 0 (mf_X3_isBusy R a0 M) 0 [(0, .ref a0)] [] ad T R M
  unfold mf_X3_isBusy
  refine zx_aload_n (i := 0) (zd me_X3_isBusy 0 rfl) rfl 0 rfl ?_
  refine zx_iconst (v := 1) (zd me_X3_isBusy 1 rfl) (by decide) ?_
  refine zx_callVI1 (zd me_X3_isBusy 2 rfl) (mc_X3_allThatAre (zl C) h0 (1 : Int32) M) lk_X3_115 ⟨(Nat.le_of_ble_eq_true rfl), (Nat.le_of_ble_eq_true rfl)⟩ (Nat.le_of_ble_eq_true rfl) (zi3_c h0) rfl (fun r2 M1 => ?_)
  refine zx_if_eq (tgt := 12) (zd me_X3_isBusy 3 rfl) (by decide) (fun c3 => ?_) (fun c3 => ?_)
  · refine zx_iconst (v := 0) (zd me_X3_isBusy 6 rfl) (by decide) ?_
    exact zx_zret (zd me_X3_isBusy 7 rfl) rfl rfl
  · refine zx_iconst (v := 1) (zd me_X3_isBusy 4 rfl) (by decide) ?_
    refine zx_goto (tgt := 13) (zd me_X3_isBusy 5 rfl) (by decide) ?_
    exact zx_zret (zd me_X3_isBusy 7 rfl) rfl rfl
