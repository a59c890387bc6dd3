def mf_X12_ask (R : zRR) (a0 : Nat) (M : zMem) : Option (Int32 × zMem) :=
  zlet (zwI M a0 0 (0 : Int32)) fun M1 =>
  some ((M1.1 a0 35), M1)
theorem mc_X12_ask (l : Launch) {T : zTT} {R : zRR} {a0 : Nat} (h0 : zi12 T R a0) (M : zMem) : zMS l yX12_ask mi_X12_ask zrvI (mf_X12_ask R a0 M) [.ref a0] T R M := by
  refine zMS.of (by decide +kernel) rfl ⟨rfl, rfl⟩ (Nat.le_of_ble_eq_true rfl) (fun C ad _ => ?_)
  show zX C mi_X12_ask (zFin C zrvI ad T R) 0 0 (mf_X12_ask R a0 M) 0 [(0, .ref a0)] [] ad T R M
  unfold mf_X12_ask
  refine zx_aload_n (i := 0) (zd me_X12_ask 0 rfl) rfl 0 rfl ?_
  refine zx_iconst (v := 0) (zd me_X12_ask 1 rfl) (by decide) ?_
  refine zx_putI (zd me_X12_ask 2 rfl) fp_X12_1 (zi12_c h0) rfl (fun M1 _ => ?_)
  refine zx_aload_n (i := 0) (zd me_X12_ask 3 rfl) rfl 0 rfl ?_
  refine zx_getI (zd me_X12_ask 4 rfl) fl_X12_151 (zi12_c h0) rfl ?_
  exact zx_iret (zd me_X12_ask 5 rfl) rfl
def mf_X12_unlike_l5 (R : zRR) (a0 : Nat) : Nat → Int32 → Int32 → Int32 → Int32 → zMem → Option (Int32 × zMem)
  | 0, _, _, _, _, _ => none
  | fuel + 1, i1, i2, i3, i4, M =>
    zald 354 (0 : Int32) fun j1 =>
    if (M.1 (zrf R a0 14) j1) ≤ i4 then
      (some (i3, M))
    else
      (zcl (mf_X12_asked R a0 i1 i4 M) fun r4 M3 =>
      zcl (mf_X12_asked R a0 i2 i4 M3) fun r6 M5 =>
      zcl (mf_X12_size R (r4 - r6) M5) fun r8 M7 =>
      zlet ((i3 + r8) : Int32) fun x9 =>
      mf_X12_unlike_l5 R a0 fuel i1 i2 x9 (i4 + 1) M7)
theorem mt_X12_unlike_l5 {C : zCx} {ad : Nat → Nat} {T : zTT} {R : zRR} {a0 : Nat} (h0 : zi12 T R a0) : ∀ (fuel : Nat) (i1 : Int32) (i2 : Int32) (i3 : Int32) (i4 : Int32) (M : zMem), zX C mi_X12_unlike (zFin C zrvI ad T R) 0 0 (mf_X12_unlike_l5 R a0 fuel i1 i2 i3 i4 M) 5 [(0, .ref a0), (1, .int i1), (2, .int i2), (3, .int i3), (4, .int i4)] [] ad T R M := by
  intro fuel
  induction fuel with
  | zero => intros; exact zx_none
  | succ fuel ih =>
    intro i1 i2 i3 i4 M
    rw [mf_X12_unlike_l5]
    refine zx_iload (zd me_X12_unlike 4 rfl) 4 rfl ?_
    refine zx_aload_n (i := 0) (zd me_X12_unlike 5 rfl) rfl 0 rfl ?_
    refine zx_getR (zd me_X12_unlike 6 rfl) fl_X12_98 (zi12_c h0) rfl (zi12_r14 h0) ?_
    refine zx_iconst (v := 0) (zd me_X12_unlike 7 rfl) (by decide) ?_
    refine zx_iald (zd me_X12_unlike 8 rfl) (zi12_t14 h0) (fun j1 hj1 => ?_)
    refine zx_icmp_ge (tgt := 43) (zd me_X12_unlike 9 rfl) (by decide) (fun c2 => ?_) (fun c2 => ?_)
    · refine zx_iload_n (i := 3) (zd me_X12_unlike 25 rfl) rfl 3 rfl ?_
      exact zx_iret (zd me_X12_unlike 26 rfl) rfl
    · refine zx_iload_n (i := 3) (zd me_X12_unlike 10 rfl) rfl 3 rfl ?_
      refine zx_aload_n (i := 0) (zd me_X12_unlike 11 rfl) rfl 0 rfl ?_
      refine zx_iload_n (i := 1) (zd me_X12_unlike 12 rfl) rfl 1 rfl ?_
      refine zx_iload (zd me_X12_unlike 13 rfl) 4 rfl ?_
      refine zx_callVI2 (zd me_X12_unlike 14 rfl) (mc_X12_asked (zl C) h0 i1 i4 M) lk_X12_233 ⟨(Nat.le_of_ble_eq_true rfl), (Nat.le_of_ble_eq_true rfl)⟩ (Nat.le_of_ble_eq_true rfl) (zi12_c h0) rfl (fun r4 M3 => ?_)
      refine zx_aload_n (i := 0) (zd me_X12_unlike 15 rfl) rfl 0 rfl ?_
      refine zx_iload_n (i := 2) (zd me_X12_unlike 16 rfl) rfl 2 rfl ?_
      refine zx_iload (zd me_X12_unlike 17 rfl) 4 rfl ?_
      refine zx_callVI2 (zd me_X12_unlike 18 rfl) (mc_X12_asked (zl C) h0 i2 i4 M3) lk_X12_233 ⟨(Nat.le_of_ble_eq_true rfl), (Nat.le_of_ble_eq_true rfl)⟩ (Nat.le_of_ble_eq_true rfl) (zi12_c h0) rfl (fun r6 M5 => ?_)
      refine zx_isub (zd me_X12_unlike 19 rfl) ?_
      refine zx_callSI1 (zd me_X12_unlike 20 rfl) (mc_X12_size (zl C) (r4 - r6) M5) lk_X12_365 ⟨(Nat.le_of_ble_eq_true rfl), (Nat.le_of_ble_eq_true rfl)⟩ (Nat.le_of_ble_eq_true rfl) (fun r8 M7 => ?_)
      refine zx_iadd (zd me_X12_unlike 21 rfl) ?_
      refine zx_leti (fun x9 => ?_)
      refine zx_istore_n (i := 3) (ls' := [(3, .int x9), (0, .ref a0), (1, .int i1), (2, .int i2), (4, .int i4)]) (zd me_X12_unlike 22 rfl) rfl (Nat.le_of_ble_eq_true rfl) rfl ?_
      refine zx_iinc (v := 1) (ls' := [(4, .int (i4 + 1)), (3, .int x9), (0, .ref a0), (1, .int i1), (2, .int i2)]) (zd me_X12_unlike 23 rfl) (Nat.le_of_ble_eq_true rfl) 4 rfl (by decide) rfl ?_
      refine zx_goto (tgt := 5) (zd me_X12_unlike 24 rfl) (by decide) ?_
      refine zx_loc [2, 3, 4, 1, 0] rfl ?_
      exact ih i1 i2 x9 (i4 + 1) M7
def mf_X12_unlike (R : zRR) (a0 : Nat) (i1 : Int32) (i2 : Int32) (M : zMem) : Option (Int32 × zMem) :=
  mf_X12_unlike_l5 R a0 zF i1 i2 (0 : Int32) (0 : Int32) M
theorem mc_X12_unlike (l : Launch) {T : zTT} {R : zRR} {a0 : Nat} (h0 : zi12 T R a0) (i1 : Int32) (i2 : Int32) (M : zMem) : zMS l yX12_unlike mi_X12_unlike zrvI (mf_X12_unlike R a0 i1 i2 M) [.ref a0, .int i1, .int i2] T R M := by
  refine zMS.of (by decide +kernel) rfl ⟨rfl, rfl⟩ (Nat.le_of_ble_eq_true rfl) (fun C ad _ => ?_)
  show zX C mi_X12_unlike (zFin C zrvI ad T R) 0 0 (mf_X12_unlike R a0 i1 i2 M) 0 [(0, .ref a0), (1, .int i1), (2, .int i2)] [] ad T R M
  unfold mf_X12_unlike
  refine zx_iconst (v := 0) (zd me_X12_unlike 0 rfl) (by decide) ?_
  refine zx_istore_n (i := 3) (ls' := [(3, .int (0 : Int32)), (0, .ref a0), (1, .int i1), (2, .int i2)]) (zd me_X12_unlike 1 rfl) rfl (Nat.le_of_ble_eq_true rfl) rfl ?_
  refine zx_iconst (v := 0) (zd me_X12_unlike 2 rfl) (by decide) ?_
  refine zx_istore (ls' := [(4, .int (0 : Int32)), (3, .int (0 : Int32)), (0, .ref a0), (1, .int i1), (2, .int i2)]) (zd me_X12_unlike 3 rfl) (Nat.le_of_ble_eq_true rfl) rfl ?_
  refine zx_loc [2, 3, 4, 1, 0] rfl ?_
  exact mt_X12_unlike_l5 h0 zF i1 i2 (0 : Int32) (0 : Int32) M
def mf_X12_near_b56 (R : zRR) (a0 : Nat) (H19 : Int32 → Int32 → Int32 → zMem → Option (Int32 × zMem)) (i1 : Int32) (i2 : Int32) (i3 : Int32) (M : zMem) : Option (Int32 × zMem) :=
  H19 i1 i2 (i3 + 1) M
theorem mt_X12_near_b56 {C : zCx} {ad : Nat → Nat} {T : zTT} {R : zRR} {a0 : Nat} (h0 : zi12 T R a0) {H19 : Int32 → Int32 → Int32 → zMem → Option (Int32 × zMem)} (hH19 : ∀ (i1 : Int32) (i2 : Int32) (i3 : Int32) (M : zMem), zX C mi_X12_near (zFin C zrvI ad T R) 0 0 (H19 i1 i2 i3 M) 19 [(0, .ref a0), (1, .int i1), (2, .int i2), (3, .int i3)] [] ad T R M) (i1 : Int32) (i2 : Int32) (i3 : Int32) (M : zMem) : zX C mi_X12_near (zFin C zrvI ad T R) 0 0 (mf_X12_near_b56 R a0 H19 i1 i2 i3 M) 56 [(0, .ref a0), (1, .int i1), (2, .int i2), (3, .int i3)] [] ad T R M := by
  unfold mf_X12_near_b56
  refine zx_iinc (v := 1) (ls' := [(3, .int (i3 + 1)), (0, .ref a0), (1, .int i1), (2, .int i2)]) (zd me_X12_near 36 rfl) (Nat.le_of_ble_eq_true rfl) 3 rfl (by decide) rfl ?_
  refine zx_goto (tgt := 19) (zd me_X12_near 37 rfl) (by decide) ?_
  refine zx_loc [1, 2, 3, 0] rfl ?_
  exact hH19 i1 i2 (i3 + 1) M
def mf_X12_near_b54 (R : zRR) (a0 : Nat) (H19 : Int32 → Int32 → Int32 → zMem → Option (Int32 × zMem)) (i1 : Int32) (i3 : Int32) (M : zMem) : Option (Int32 × zMem) :=
  mf_X12_near_b56 R a0 H19 i1 i3 i3 M
theorem mt_X12_near_b54 {C : zCx} {ad : Nat → Nat} {T : zTT} {R : zRR} {a0 : Nat} (h0 : zi12 T R a0) {H19 : Int32 → Int32 → Int32 → zMem → Option (Int32 × zMem)} (hH19 : ∀ (i1 : Int32) (i2 : Int32) (i3 : Int32) (M : zMem), zX C mi_X12_near (zFin C zrvI ad T R) 0 0 (H19 i1 i2 i3 M) 19 [(0, .ref a0), (1, .int i1), (2, .int i2), (3, .int i3)] [] ad T R M) (i1 : Int32) (i3 : Int32) (M : zMem) : zX C mi_X12_near (zFin C zrvI ad T R) 0 0 (mf_X12_near_b54 R a0 H19 i1 i3 M) 54 [(0, .ref a0), (1, .int i1), (3, .int i3)] [] ad T R M := by
  unfold mf_X12_near_b54
  refine zx_iload_n (i := 3) (zd me_X12_near 34 rfl) rfl 2 rfl ?_
  refine zx_istore_n (i := 2) (ls' := [(2, .int i3), (0, .ref a0), (1, .int i1), (3, .int i3)]) (zd me_X12_near 35 rfl) rfl (Nat.le_of_ble_eq_true rfl) rfl ?_
  refine zx_loc [1, 2, 0, 3] rfl ?_
  exact mt_X12_near_b56 h0 hH19 i1 i3 i3 M
def mf_X12_near_l19 (R : zRR) (a0 : Nat) : Nat → Int32 → Int32 → Int32 → zMem → Option (Int32 × zMem)
  | 0, _, _, _, _ => none
  | fuel + 1, i1, i2, i3, M =>
    zald 354 (1 : Int32) fun j5 =>
    if (M.1 (zrf R a0 14) j5) ≤ i3 then
      (some (i2, M))
    else
      (if i3 = i1 then
        (mf_X12_near_b56 R a0 (mf_X12_near_l19 R a0 fuel) i1 i2 i3 M)
      else
        (if i2 = (-1 : Int32) then
          (mf_X12_near_b54 R a0 (mf_X12_near_l19 R a0 fuel) i1 i3 M)
        else
          (zcl (mf_X12_unlike R a0 i1 i3 M) fun r10 M9 =>
          zcl (mf_X12_unlike R a0 i1 i2 M9) fun r12 M11 =>
          if r12 ≤ r10 then
            (mf_X12_near_b56 R a0 (mf_X12_near_l19 R a0 fuel) i1 i2 i3 M11)
          else
            (mf_X12_near_b54 R a0 (mf_X12_near_l19 R a0 fuel) i1 i3 M11))))
theorem mt_X12_near_l19 {C : zCx} {ad : Nat → Nat} {T : zTT} {R : zRR} {a0 : Nat} (h0 : zi12 T R a0) : ∀ (fuel : Nat) (i1 : Int32) (i2 : Int32) (i3 : Int32) (M : zMem), zX C mi_X12_near (zFin C zrvI ad T R) 0 0 (mf_X12_near_l19 R a0 fuel i1 i2 i3 M) 19 [(0, .ref a0), (1, .int i1), (2, .int i2), (3, .int i3)] [] ad T R M := by
  intro fuel
  induction fuel with
  | zero => intros; exact zx_none
  | succ fuel ih =>
    intro i1 i2 i3 M
    rw [mf_X12_near_l19]
    refine zx_iload_n (i := 3) (zd me_X12_near 13 rfl) rfl 3 rfl ?_
    refine zx_aload_n (i := 0) (zd me_X12_near 14 rfl) rfl 0 rfl ?_
    refine zx_getR (zd me_X12_near 15 rfl) fl_X12_98 (zi12_c h0) rfl (zi12_r14 h0) ?_
    refine zx_iconst (v := 1) (zd me_X12_near 16 rfl) (by decide) ?_
    refine zx_iald (zd me_X12_near 17 rfl) (zi12_t14 h0) (fun j5 hj5 => ?_)
    refine zx_icmp_ge (tgt := 62) (zd me_X12_near 18 rfl) (by decide) (fun c6 => ?_) (fun c6 => ?_)
    · refine zx_iload_n (i := 2) (zd me_X12_near 38 rfl) rfl 2 rfl ?_
      exact zx_iret (zd me_X12_near 39 rfl) rfl
    · refine zx_iload_n (i := 3) (zd me_X12_near 19 rfl) rfl 3 rfl ?_
      refine zx_iload_n (i := 1) (zd me_X12_near 20 rfl) rfl 1 rfl ?_
      refine zx_icmp_eq (tgt := 56) (zd me_X12_near 21 rfl) (by decide) (fun c7 => ?_) (fun c7 => ?_)
      · exact mt_X12_near_b56 h0 ih i1 i2 i3 M
      · refine zx_iload_n (i := 2) (zd me_X12_near 22 rfl) rfl 2 rfl ?_
        refine zx_iconst (v := (-1)) (zd me_X12_near 23 rfl) (by decide) ?_
        refine zx_icmp_eq (tgt := 54) (zd me_X12_near 24 rfl) (by decide) (fun c8 => ?_) (fun c8 => ?_)
        · refine zx_loc [0, 1, 3] rfl ?_
          exact mt_X12_near_b54 h0 ih i1 i3 M
        · refine zx_aload_n (i := 0) (zd me_X12_near 25 rfl) rfl 0 rfl ?_
          refine zx_iload_n (i := 1) (zd me_X12_near 26 rfl) rfl 1 rfl ?_
          refine zx_iload_n (i := 3) (zd me_X12_near 27 rfl) rfl 3 rfl ?_
          refine zx_callVI2 (zd me_X12_near 28 rfl) (mc_X12_unlike (zl C) h0 i1 i3 M) lk_X12_367 ⟨(Nat.le_of_ble_eq_true rfl), (Nat.le_of_ble_eq_true rfl)⟩ (Nat.le_of_ble_eq_true rfl) (zi12_c h0) rfl (fun r10 M9 => ?_)
          refine zx_aload_n (i := 0) (zd me_X12_near 29 rfl) rfl 0 rfl ?_
          refine zx_iload_n (i := 1) (zd me_X12_near 30 rfl) rfl 1 rfl ?_
          refine zx_iload_n (i := 2) (zd me_X12_near 31 rfl) rfl 2 rfl ?_
          refine zx_callVI2 (zd me_X12_near 32 rfl) (mc_X12_unlike (zl C) h0 i1 i2 M9) lk_X12_367 ⟨(Nat.le_of_ble_eq_true rfl), (Nat.le_of_ble_eq_true rfl)⟩ (Nat.le_of_ble_eq_true rfl) (zi12_c h0) rfl (fun r12 M11 => ?_)
          refine zx_icmp_ge (tgt := 56) (zd me_X12_near 33 rfl) (by decide) (fun c13 => ?_) (fun c13 => ?_)
          · exact mt_X12_near_b56 h0 ih i1 i2 i3 M11
          · refine zx_loc [0, 1, 3] rfl ?_
            exact mt_X12_near_b54 h0 ih i1 i3 M11
def mf_X12_near (R : zRR) (a0 : Nat) (i1 : Int32) (M : zMem) : Option (Int32 × zMem) :=
  zlet (zwI M a0 0 (0 : Int32)) fun M1 =>
  zcl (mf_X12_isPaper R a0 i1 M1) fun r3 M2 =>
  if r3 = 0 then
    (some ((-1 : Int32), M2))
  else
    (mf_X12_near_l19 R a0 zF i1 (-1 : Int32) (0 : Int32) M2)
theorem mc_X12_near (l : Launch) {T : zTT} {R : zRR} {a0 : Nat} (h0 : zi12 T R a0) (i1 : Int32) (M : zMem) : zMS l yX12_near mi_X12_near zrvI (mf_X12_near R a0 i1 M) [.ref a0, .int i1] T R M := by
  refine zMS.of (by decide +kernel) rfl ⟨rfl, rfl⟩ (Nat.le_of_ble_eq_true rfl) (fun C ad _ => ?_)
  show zX C mi_X12_near (zFin C zrvI ad T R) 0 0 (mf_X12_near R a0 i1 M) 0 [(0, .ref a0), (1, .int i1)] [] ad T R M
  unfold mf_X12_near
  refine zx_aload_n (i := 0) (zd me_X12_near 0 rfl) rfl 0 rfl ?_
  refine zx_iconst (v := 0) (zd me_X12_near 1 rfl) (by decide) ?_
  refine zx_putI (zd me_X12_near 2 rfl) fp_X12_1 (zi12_c h0) rfl (fun M1 _ => ?_)
  refine zx_aload_n (i := 0) (zd me_X12_near 3 rfl) rfl 0 rfl ?_
  refine zx_iload_n (i := 1) (zd me_X12_near 4 rfl) rfl 1 rfl ?_
  refine zx_callVI1 (zd me_X12_near 5 rfl) (mc_X12_isPaper (zl C) h0 i1 M1) lk_X12_258 ⟨(Nat.le_of_ble_eq_true rfl), (Nat.le_of_ble_eq_true rfl)⟩ (Nat.le_of_ble_eq_true rfl) (zi12_c h0) rfl (fun r3 M2 => ?_)
  refine zx_if_ne (tgt := 15) (zd me_X12_near 6 rfl) (by decide) (fun c4 => ?_) (fun c4 => ?_)
  · refine zx_iconst (v := (-1)) (zd me_X12_near 9 rfl) (by decide) ?_
    refine zx_istore_n (i := 2) (ls' := [(2, .int (-1 : Int32)), (0, .ref a0), (1, .int i1)]) (zd me_X12_near 10 rfl) rfl (Nat.le_of_ble_eq_true rfl) rfl ?_
    refine zx_iconst (v := 0) (zd me_X12_near 11 rfl) (by decide) ?_
    refine zx_istore_n (i := 3) (ls' := [(3, .int (0 : Int32)), (2, .int (-1 : Int32)), (0, .ref a0), (1, .int i1)]) (zd me_X12_near 12 rfl) rfl (Nat.le_of_ble_eq_true rfl) rfl ?_
    refine zx_loc [2, 3, 1, 0] rfl ?_
    exact mt_X12_near_l19 h0 zF i1 (-1 : Int32) (0 : Int32) M2
  · refine zx_iconst (v := (-1)) (zd me_X12_near 7 rfl) (by decide) ?_
    exact zx_iret (zd me_X12_near 8 rfl) rfl
def mf_X12_through_l19 (R : zRR) (a0 : Nat) : Nat → Int32 → Int32 → Int32 → zMem → Option (Int32 × zMem)
  | 0, _, _, _, _ => none
  | fuel + 1, i1, i2, i3, M =>
    zald 354 (0 : Int32) fun j5 =>
    if (M.1 (zrf R a0 14) j5) ≤ i3 then
      (some (i2, M))
    else
      (zcl (mf_X12_asked R a0 i1 i3 M) fun r8 M7 =>
      zlet ((i2 + r8) : Int32) fun x9 =>
      mf_X12_through_l19 R a0 fuel i1 x9 (i3 + 1) M7)
theorem mt_X12_through_l19 {C : zCx} {ad : Nat → Nat} {T : zTT} {R : zRR} {a0 : Nat} (h0 : zi12 T R a0) : ∀ (fuel : Nat) (i1 : Int32) (i2 : Int32) (i3 : Int32) (M : zMem), zX C mi_X12_through (zFin C zrvI ad T R) 0 0 (mf_X12_through_l19 R a0 fuel i1 i2 i3 M) 19 [(0, .ref a0), (1, .int i1), (2, .int i2), (3, .int i3)] [] ad T R M := by
  intro fuel
  induction fuel with
  | zero => intros; exact zx_none
  | succ fuel ih =>
    intro i1 i2 i3 M
    rw [mf_X12_through_l19]
    refine zx_iload_n (i := 3) (zd me_X12_through 13 rfl) rfl 3 rfl ?_
    refine zx_aload_n (i := 0) (zd me_X12_through 14 rfl) rfl 0 rfl ?_
    refine zx_getR (zd me_X12_through 15 rfl) fl_X12_98 (zi12_c h0) rfl (zi12_r14 h0) ?_
    refine zx_iconst (v := 0) (zd me_X12_through 16 rfl) (by decide) ?_
    refine zx_iald (zd me_X12_through 17 rfl) (zi12_t14 h0) (fun j5 hj5 => ?_)
    refine zx_icmp_ge (tgt := 44) (zd me_X12_through 18 rfl) (by decide) (fun c6 => ?_) (fun c6 => ?_)
    · refine zx_iload_n (i := 2) (zd me_X12_through 28 rfl) rfl 2 rfl ?_
      exact zx_iret (zd me_X12_through 29 rfl) rfl
    · refine zx_iload_n (i := 2) (zd me_X12_through 19 rfl) rfl 2 rfl ?_
      refine zx_aload_n (i := 0) (zd me_X12_through 20 rfl) rfl 0 rfl ?_
      refine zx_iload_n (i := 1) (zd me_X12_through 21 rfl) rfl 1 rfl ?_
      refine zx_iload_n (i := 3) (zd me_X12_through 22 rfl) rfl 3 rfl ?_
      refine zx_callVI2 (zd me_X12_through 23 rfl) (mc_X12_asked (zl C) h0 i1 i3 M) lk_X12_233 ⟨(Nat.le_of_ble_eq_true rfl), (Nat.le_of_ble_eq_true rfl)⟩ (Nat.le_of_ble_eq_true rfl) (zi12_c h0) rfl (fun r8 M7 => ?_)
      refine zx_iadd (zd me_X12_through 24 rfl) ?_
      refine zx_leti (fun x9 => ?_)
      refine zx_istore_n (i := 2) (ls' := [(2, .int x9), (0, .ref a0), (1, .int i1), (3, .int i3)]) (zd me_X12_through 25 rfl) rfl (Nat.le_of_ble_eq_true rfl) rfl ?_
      refine zx_iinc (v := 1) (ls' := [(3, .int (i3 + 1)), (2, .int x9), (0, .ref a0), (1, .int i1)]) (zd me_X12_through 26 rfl) (Nat.le_of_ble_eq_true rfl) 3 rfl (by decide) rfl ?_
      refine zx_goto (tgt := 19) (zd me_X12_through 27 rfl) (by decide) ?_
      refine zx_loc [2, 3, 1, 0] rfl ?_
      exact ih i1 x9 (i3 + 1) M7
def mf_X12_through (R : zRR) (a0 : Nat) (i1 : Int32) (M : zMem) : Option (Int32 × zMem) :=
  zlet (zwI M a0 0 (0 : Int32)) fun M1 =>
  zcl (mf_X12_isPaper R a0 i1 M1) fun r3 M2 =>
  if r3 = 0 then
    (some ((-1 : Int32), M2))
  else
    (mf_X12_through_l19 R a0 zF i1 (0 : Int32) (0 : Int32) M2)
theorem mc_X12_through (l : Launch) {T : zTT} {R : zRR} {a0 : Nat} (h0 : zi12 T R a0) (i1 : Int32) (M : zMem) : zMS l yX12_through mi_X12_through zrvI (mf_X12_through R a0 i1 M) [.ref a0, .int i1] T R M := by
  refine zMS.of (by decide +kernel) rfl ⟨rfl, rfl⟩ (Nat.le_of_ble_eq_true rfl) (fun C ad _ => ?_)
  show zX C mi_X12_through (zFin C zrvI ad T R) 0 0 (mf_X12_through R a0 i1 M) 0 [(0, .ref a0), (1, .int i1)] [] ad T R M
  unfold mf_X12_through
  refine zx_aload_n (i := 0) (zd me_X12_through 0 rfl) rfl 0 rfl ?_
  refine zx_iconst (v := 0) (zd me_X12_through 1 rfl) (by decide) ?_
  refine zx_putI (zd me_X12_through 2 rfl) fp_X12_1 (zi12_c h0) rfl (fun M1 _ => ?_)
  refine zx_aload_n (i := 0) (zd me_X12_through 3 rfl) rfl 0 rfl ?_
  refine zx_iload_n (i := 1) (zd me_X12_through 4 rfl) rfl 1 rfl ?_
  refine zx_callVI1 (zd me_X12_through 5 rfl) (mc_X12_isPaper (zl C) h0 i1 M1) lk_X12_258 ⟨(Nat.le_of_ble_eq_true rfl), (Nat.le_of_ble_eq_true rfl)⟩ (Nat.le_of_ble_eq_true rfl) (zi12_c h0) rfl (fun r3 M2 => ?_)
  refine zx_if_ne (tgt := 15) (zd me_X12_through 6 rfl) (by decide) (fun c4 => ?_) (fun c4 => ?_)
  · refine zx_iconst (v := 0) (zd me_X12_through 9 rfl) (by decide) ?_
    refine zx_istore_n (i := 2) (ls' := [(2, .int (0 : Int32)), (0, .ref a0), (1, .int i1)]) (zd me_X12_through 10 rfl) rfl (Nat.le_of_ble_eq_true rfl) rfl ?_
    refine zx_iconst (v := 0) (zd me_X12_through 11 rfl) (by decide) ?_
    refine zx_istore_n (i := 3) (ls' := [(3, .int (0 : Int32)), (2, .int (0 : Int32)), (0, .ref a0), (1, .int i1)]) (zd me_X12_through 12 rfl) rfl (Nat.le_of_ble_eq_true rfl) rfl ?_
    refine zx_loc [2, 3, 1, 0] rfl ?_
    exact mt_X12_through_l19 h0 zF i1 (0 : Int32) (0 : Int32) M2
  · refine zx_iconst (v := (-1)) (zd me_X12_through 7 rfl) (by decide) ?_
    exact zx_iret (zd me_X12_through 8 rfl) rfl
def mf_X12_arePast_b84 (R : zRR) (a0 : Nat) (H12 : Int32 → Int32 → Int32 → Int32 → Int32 → Int32 → zMem → Option (Int32 × zMem)) (i1 : Int32) (i2 : Int32) (i6 : Int32) (i7 : Int32) (i8 : Int32) (i9 : Int32) (M : zMem) : Option (Int32 × zMem) :=
  H12 i1 i2 i8 i9 i6 (i7 + 1) M
theorem mt_X12_arePast_b84 {C : zCx} {ad : Nat → Nat} {T : zTT} {R : zRR} {a0 : Nat} (h0 : zi12 T R a0) {H12 : Int32 → Int32 → Int32 → Int32 → Int32 → Int32 → zMem → Option (Int32 × zMem)} (hH12 : ∀ (i1 : Int32) (i2 : Int32) (i4 : Int32) (i5 : Int32) (i6 : Int32) (i7 : Int32) (M : zMem), zX C mi_X12_arePast (zFin C zrvI ad T R) 0 0 (H12 i1 i2 i4 i5 i6 i7 M) 12 [(0, .ref a0), (1, .int i1), (2, .int i2), (4, .int i4), (5, .int i5), (6, .int i6), (7, .int i7)] [] ad T R M) (i1 : Int32) (i2 : Int32) (i6 : Int32) (i7 : Int32) (i8 : Int32) (i9 : Int32) (M : zMem) : zX C mi_X12_arePast (zFin C zrvI ad T R) 0 0 (mf_X12_arePast_b84 R a0 H12 i1 i2 i6 i7 i8 i9 M) 84 [(0, .ref a0), (1, .int i1), (2, .int i2), (6, .int i6), (7, .int i7), (8, .int i8), (9, .int i9)] [] ad T R M := by
  unfold mf_X12_arePast_b84
  refine zx_iload (zd me_X12_arePast 46 rfl) 5 rfl ?_
  refine zx_istore (ls' := [(4, .int i8), (0, .ref a0), (1, .int i1), (2, .int i2), (6, .int i6), (7, .int i7), (8, .int i8), (9, .int i9)]) (zd me_X12_arePast 47 rfl) (Nat.le_of_ble_eq_true rfl) rfl ?_
  refine zx_iload (zd me_X12_arePast 48 rfl) 7 rfl ?_
  refine zx_istore (ls' := [(5, .int i9), (4, .int i8), (0, .ref a0), (1, .int i1), (2, .int i2), (6, .int i6), (7, .int i7), (8, .int i8), (9, .int i9)]) (zd me_X12_arePast 49 rfl) (Nat.le_of_ble_eq_true rfl) rfl ?_
  refine zx_iinc (v := 1) (ls' := [(7, .int (i7 + 1)), (5, .int i9), (4, .int i8), (0, .ref a0), (1, .int i1), (2, .int i2), (6, .int i6), (8, .int i8), (9, .int i9)]) (zd me_X12_arePast 50 rfl) (Nat.le_of_ble_eq_true rfl) 6 rfl (by decide) rfl ?_
  refine zx_goto (tgt := 12) (zd me_X12_arePast 51 rfl) (by decide) ?_
  refine zx_loc [3, 4, 5, 2, 1, 6, 0] rfl ?_
  exact hH12 i1 i2 i8 i9 i6 (i7 + 1) M
def mf_X12_arePast_l12 (R : zRR) (a0 : Nat) : Nat → Int32 → Int32 → Int32 → Int32 → Int32 → Int32 → zMem → Option (Int32 × zMem)
  | 0, _, _, _, _, _, _, _ => none
  | fuel + 1, i1, i2, i4, i5, i6, i7, M =>
    zald 354 (0 : Int32) fun j1 =>
    if (M.1 (zrf R a0 14) j1) ≤ i7 then
      (zchk (i6 = 0 ∨ i6 = 1) (some (i6, M)))
    else
      (zcl (mf_X12_asked R a0 i1 i7 M) fun r4 M3 =>
      zlet ((i4 + r4) : Int32) fun x5 =>
      zcl (mf_X12_asked R a0 i2 i7 M3) fun r7 M6 =>
      zlet ((i5 + r7) : Int32) fun x8 =>
      zcl (mf_X12_asked R a0 i1 i7 M6) fun r10 M9 =>
      if r10 ≤ 0 then
        (mf_X12_arePast_b84 R a0 (mf_X12_arePast_l12 R a0 fuel) i1 i2 i6 i7 x5 x8 M9)
      else
        (zcl (mf_X12_asked R a0 i2 i7 M9) fun r13 M12 =>
        if r13 ≤ 0 then
          (mf_X12_arePast_b84 R a0 (mf_X12_arePast_l12 R a0 fuel) i1 i2 i6 i7 x5 x8 M12)
        else
          (if x8 ≤ i4 then
            (mf_X12_arePast_b84 R a0 (mf_X12_arePast_l12 R a0 fuel) i1 i2 i6 i7 x5 x8 M12)
          else
            (if x5 ≤ i5 then
              (mf_X12_arePast_b84 R a0 (mf_X12_arePast_l12 R a0 fuel) i1 i2 i6 i7 x5 x8 M12)
            else
              (mf_X12_arePast_b84 R a0 (mf_X12_arePast_l12 R a0 fuel) i1 i2 (0 : Int32) i7 x5 x8 M12)))))
theorem mt_X12_arePast_l12 {C : zCx} {ad : Nat → Nat} {T : zTT} {R : zRR} {a0 : Nat} (h0 : zi12 T R a0) : ∀ (fuel : Nat) (i1 : Int32) (i2 : Int32) (i4 : Int32) (i5 : Int32) (i6 : Int32) (i7 : Int32) (M : zMem), zX C mi_X12_arePast (zFin C zrvI ad T R) 0 0 (mf_X12_arePast_l12 R a0 fuel i1 i2 i4 i5 i6 i7 M) 12 [(0, .ref a0), (1, .int i1), (2, .int i2), (4, .int i4), (5, .int i5), (6, .int i6), (7, .int i7)] [] ad T R M := by
  intro fuel
  induction fuel with
  | zero => intros; exact zx_none
  | succ fuel ih =>
    intro i1 i2 i4 i5 i6 i7 M
    rw [mf_X12_arePast_l12]
    refine zx_iload (zd me_X12_arePast 8 rfl) 6 rfl ?_
    refine zx_aload_n (i := 0) (zd me_X12_arePast 9 rfl) rfl 0 rfl ?_
    refine zx_getR (zd me_X12_arePast 10 rfl) fl_X12_98 (zi12_c h0) rfl (zi12_r14 h0) ?_
    refine zx_iconst (v := 0) (zd me_X12_arePast 11 rfl) (by decide) ?_
    refine zx_iald (zd me_X12_arePast 12 rfl) (zi12_t14 h0) (fun j1 hj1 => ?_)
    refine zx_icmp_ge (tgt := 98) (zd me_X12_arePast 13 rfl) (by decide) (fun c2 => ?_) (fun c2 => ?_)
    · refine zx_iload (zd me_X12_arePast 52 rfl) 5 rfl ?_
      exact zx_zretC (zd me_X12_arePast 53 rfl) rfl
    · refine zx_iload (zd me_X12_arePast 14 rfl) 3 rfl ?_
      refine zx_aload_n (i := 0) (zd me_X12_arePast 15 rfl) rfl 0 rfl ?_
      refine zx_iload_n (i := 1) (zd me_X12_arePast 16 rfl) rfl 1 rfl ?_
      refine zx_iload (zd me_X12_arePast 17 rfl) 6 rfl ?_
      refine zx_callVI2 (zd me_X12_arePast 18 rfl) (mc_X12_asked (zl C) h0 i1 i7 M) lk_X12_233 ⟨(Nat.le_of_ble_eq_true rfl), (Nat.le_of_ble_eq_true rfl)⟩ (Nat.le_of_ble_eq_true rfl) (zi12_c h0) rfl (fun r4 M3 => ?_)
      refine zx_iadd (zd me_X12_arePast 19 rfl) ?_
      refine zx_leti (fun x5 => ?_)
      refine zx_istore (ls' := [(8, .int x5), (0, .ref a0), (1, .int i1), (2, .int i2), (4, .int i4), (5, .int i5), (6, .int i6), (7, .int i7)]) (zd me_X12_arePast 20 rfl) (Nat.le_of_ble_eq_true rfl) rfl ?_
      refine zx_iload (zd me_X12_arePast 21 rfl) 5 rfl ?_
      refine zx_aload_n (i := 0) (zd me_X12_arePast 22 rfl) rfl 1 rfl ?_
      refine zx_iload_n (i := 2) (zd me_X12_arePast 23 rfl) rfl 3 rfl ?_
      refine zx_iload (zd me_X12_arePast 24 rfl) 7 rfl ?_
      refine zx_callVI2 (zd me_X12_arePast 25 rfl) (mc_X12_asked (zl C) h0 i2 i7 M3) lk_X12_233 ⟨(Nat.le_of_ble_eq_true rfl), (Nat.le_of_ble_eq_true rfl)⟩ (Nat.le_of_ble_eq_true rfl) (zi12_c h0) rfl (fun r7 M6 => ?_)
      refine zx_iadd (zd me_X12_arePast 26 rfl) ?_
      refine zx_leti (fun x8 => ?_)
      refine zx_istore (ls' := [(9, .int x8), (8, .int x5), (0, .ref a0), (1, .int i1), (2, .int i2), (4, .int i4), (5, .int i5), (6, .int i6), (7, .int i7)]) (zd me_X12_arePast 27 rfl) (Nat.le_of_ble_eq_true rfl) rfl ?_
      refine zx_aload_n (i := 0) (zd me_X12_arePast 28 rfl) rfl 2 rfl ?_
      refine zx_iload_n (i := 1) (zd me_X12_arePast 29 rfl) rfl 3 rfl ?_
      refine zx_iload (zd me_X12_arePast 30 rfl) 8 rfl ?_
      refine zx_callVI2 (zd me_X12_arePast 31 rfl) (mc_X12_asked (zl C) h0 i1 i7 M6) lk_X12_233 ⟨(Nat.le_of_ble_eq_true rfl), (Nat.le_of_ble_eq_true rfl)⟩ (Nat.le_of_ble_eq_true rfl) (zi12_c h0) rfl (fun r10 M9 => ?_)
      refine zx_if_le (tgt := 84) (zd me_X12_arePast 32 rfl) (by decide) (fun c11 => ?_) (fun c11 => ?_)
      · refine zx_loc [2, 3, 4, 7, 8, 1, 0] rfl ?_
        exact mt_X12_arePast_b84 h0 ih i1 i2 i6 i7 x5 x8 M9
      · refine zx_aload_n (i := 0) (zd me_X12_arePast 33 rfl) rfl 2 rfl ?_
        refine zx_iload_n (i := 2) (zd me_X12_arePast 34 rfl) rfl 4 rfl ?_
        refine zx_iload (zd me_X12_arePast 35 rfl) 8 rfl ?_
        refine zx_callVI2 (zd me_X12_arePast 36 rfl) (mc_X12_asked (zl C) h0 i2 i7 M9) lk_X12_233 ⟨(Nat.le_of_ble_eq_true rfl), (Nat.le_of_ble_eq_true rfl)⟩ (Nat.le_of_ble_eq_true rfl) (zi12_c h0) rfl (fun r13 M12 => ?_)
        refine zx_if_le (tgt := 84) (zd me_X12_arePast 37 rfl) (by decide) (fun c14 => ?_) (fun c14 => ?_)
        · refine zx_loc [2, 3, 4, 7, 8, 1, 0] rfl ?_
          exact mt_X12_arePast_b84 h0 ih i1 i2 i6 i7 x5 x8 M12
        · refine zx_iload (zd me_X12_arePast 38 rfl) 5 rfl ?_
          refine zx_iload (zd me_X12_arePast 39 rfl) 0 rfl ?_
          refine zx_icmp_ge (tgt := 84) (zd me_X12_arePast 40 rfl) (by decide) (fun c15 => ?_) (fun c15 => ?_)
          · refine zx_loc [2, 3, 4, 7, 8, 1, 0] rfl ?_
            exact mt_X12_arePast_b84 h0 ih i1 i2 i6 i7 x5 x8 M12
          · refine zx_iload (zd me_X12_arePast 41 rfl) 6 rfl ?_
            refine zx_iload (zd me_X12_arePast 42 rfl) 1 rfl ?_
            refine zx_icmp_ge (tgt := 84) (zd me_X12_arePast 43 rfl) (by decide) (fun c16 => ?_) (fun c16 => ?_)
            · refine zx_loc [2, 3, 4, 7, 8, 1, 0] rfl ?_
              exact mt_X12_arePast_b84 h0 ih i1 i2 i6 i7 x5 x8 M12
            · refine zx_iconst (v := 0) (zd me_X12_arePast 44 rfl) (by decide) ?_
              refine zx_istore (ls' := [(6, .int (0 : Int32)), (9, .int x8), (8, .int x5), (0, .ref a0), (1, .int i1), (2, .int i2), (4, .int i4), (5, .int i5), (7, .int i7)]) (zd me_X12_arePast 45 rfl) (Nat.le_of_ble_eq_true rfl) rfl ?_
              refine zx_loc [3, 4, 5, 0, 8, 2, 1] rfl ?_
              exact mt_X12_arePast_b84 h0 ih i1 i2 (0 : Int32) i7 x5 x8 M12
def mf_X12_arePast (R : zRR) (a0 : Nat) (i1 : Int32) (i2 : Int32) (i3 : Int32) (M : zMem) : Option (Int32 × zMem) :=
  mf_X12_arePast_l12 R a0 zF i1 i2 (0 : Int32) i3 (1 : Int32) (0 : Int32) M
theorem mc_X12_arePast (l : Launch) {T : zTT} {R : zRR} {a0 : Nat} (h0 : zi12 T R a0) (i1 : Int32) (i2 : Int32) (i3 : Int32) (M : zMem) : zMS l yX12_arePast mi_X12_arePast zrvI (mf_X12_arePast R a0 i1 i2 i3 M) [.ref a0, .int i1, .int i2, .int i3] T R M := by
  refine zMS.of (by decide +kernel) rfl ⟨rfl, rfl⟩ (Nat.le_of_ble_eq_true rfl) (fun C ad _ => ?_)
  show zX C mi_X12_arePast (zFin C zrvI ad T R) 0 0 (mf_X12_arePast R a0 i1 i2 i3 M) 0 [(0, .ref a0), (1, .int i1), (2, .int i2), (3, .int i3)] [] ad T R M
  unfold mf_X12_arePast
  refine zx_iconst (v := 0) (zd me_X12_arePast 0 rfl) (by decide) ?_
  refine zx_istore (ls' := [(4, .int (0 : Int32)), (0, .ref a0), (1, .int i1), (2, .int i2), (3, .int i3)]) (zd me_X12_arePast 1 rfl) (Nat.le_of_ble_eq_true rfl) rfl ?_
  refine zx_iload_n (i := 3) (zd me_X12_arePast 2 rfl) rfl 4 rfl ?_
  refine zx_istore (ls' := [(5, .int i3), (4, .int (0 : Int32)), (0, .ref a0), (1, .int i1), (2, .int i2), (3, .int i3)]) (zd me_X12_arePast 3 rfl) (Nat.le_of_ble_eq_true rfl) rfl ?_
  refine zx_iconst (v := 1) (zd me_X12_arePast 4 rfl) (by decide) ?_
  refine zx_istore (ls' := [(6, .int (1 : Int32)), (5, .int i3), (4, .int (0 : Int32)), (0, .ref a0), (1, .int i1), (2, .int i2), (3, .int i3)]) (zd me_X12_arePast 5 rfl) (Nat.le_of_ble_eq_true rfl) rfl ?_
  refine zx_iconst (v := 0) (zd me_X12_arePast 6 rfl) (by decide) ?_
  refine zx_istore (ls' := [(7, .int (0 : Int32)), (6, .int (1 : Int32)), (5, .int i3), (4, .int (0 : Int32)), (0, .ref a0), (1, .int i1), (2, .int i2), (3, .int i3)]) (zd me_X12_arePast 7 rfl) (Nat.le_of_ble_eq_true rfl) rfl ?_
  refine zx_loc [4, 5, 6, 3, 2, 1, 0] rfl ?_
  exact mt_X12_arePast_l12 h0 zF i1 i2 (0 : Int32) i3 (1 : Int32) (0 : Int32) M
def mf_X12_gapOf_l2 (R : zRR) (a0 : Nat) : Nat → Int32 → Int32 → Int32 → zMem → Option (Int32 × zMem)
  | 0, _, _, _, _ => none
  | fuel + 1, i1, i2, i3, M =>
    zcl (mf_X12_arePast R a0 i1 i2 i3 M) fun r2 M1 =>
    if r2 = 0 then
      (mf_X12_gapOf_l2 R a0 fuel i1 i2 (i3 + 1) M1)
    else
      (some (i3, M1))
theorem mt_X12_gapOf_l2 {C : zCx} {ad : Nat → Nat} {T : zTT} {R : zRR} {a0 : Nat} (h0 : zi12 T R a0) : ∀ (fuel : Nat) (i1 : Int32) (i2 : Int32) (i3 : Int32) (M : zMem), zX C mi_X12_gapOf (zFin C zrvI ad T R) 0 0 (mf_X12_gapOf_l2 R a0 fuel i1 i2 i3 M) 2 [(0, .ref a0), (1, .int i1), (2, .int i2), (3, .int i3)] [] ad T R M := by
  intro fuel
  induction fuel with
  | zero => intros; exact zx_none
  | succ fuel ih =>
    intro i1 i2 i3 M
    rw [mf_X12_gapOf_l2]
    refine zx_aload_n (i := 0) (zd me_X12_gapOf 2 rfl) rfl 0 rfl ?_
    refine zx_iload_n (i := 1) (zd me_X12_gapOf 3 rfl) rfl 1 rfl ?_
    refine zx_iload_n (i := 2) (zd me_X12_gapOf 4 rfl) rfl 2 rfl ?_
    refine zx_iload_n (i := 3) (zd me_X12_gapOf 5 rfl) rfl 3 rfl ?_
    refine zx_callVI3 (zd me_X12_gapOf 6 rfl) (mc_X12_arePast (zl C) h0 i1 i2 i3 M) lk_X12_370 ⟨(Nat.le_of_ble_eq_true rfl), (Nat.le_of_ble_eq_true rfl)⟩ (Nat.le_of_ble_eq_true rfl) (zi12_c h0) rfl (fun r2 M1 => ?_)
    refine zx_if_ne (tgt := 18) (zd me_X12_gapOf 7 rfl) (by decide) (fun c3 => ?_) (fun c3 => ?_)
    · refine zx_iload_n (i := 3) (zd me_X12_gapOf 10 rfl) rfl 3 rfl ?_
      exact zx_iret (zd me_X12_gapOf 11 rfl) rfl
    · refine zx_iinc (v := 1) (ls' := [(3, .int (i3 + 1)), (0, .ref a0), (1, .int i1), (2, .int i2)]) (zd me_X12_gapOf 8 rfl) (Nat.le_of_ble_eq_true rfl) 3 rfl (by decide) rfl ?_
      refine zx_goto (tgt := 2) (zd me_X12_gapOf 9 rfl) (by decide) ?_
      refine zx_loc [1, 2, 3, 0] rfl ?_
      exact ih i1 i2 (i3 + 1) M1
def mf_X12_gapOf (R : zRR) (a0 : Nat) (i1 : Int32) (i2 : Int32) (M : zMem) : Option (Int32 × zMem) :=
  mf_X12_gapOf_l2 R a0 zF i1 i2 (0 : Int32) M
theorem mc_X12_gapOf (l : Launch) {T : zTT} {R : zRR} {a0 : Nat} (h0 : zi12 T R a0) (i1 : Int32) (i2 : Int32) (M : zMem) : zMS l yX12_gapOf mi_X12_gapOf zrvI (mf_X12_gapOf R a0 i1 i2 M) [.ref a0, .int i1, .int i2] T R M := by
  refine zMS.of (by decide +kernel) rfl ⟨rfl, rfl⟩ (Nat.le_of_ble_eq_true rfl) (fun C ad _ => ?_)
  show zX C mi_X12_gapOf (zFin C zrvI ad T R) 0 0 (mf_X12_gapOf R a0 i1 i2 M) 0 [(0, .ref a0), (1, .int i1), (2, .int i2)] [] ad T R M
  unfold mf_X12_gapOf
  refine zx_iconst (v := 0) (zd me_X12_gapOf 0 rfl) (by decide) ?_
  refine zx_istore_n (i := 3) (ls' := [(3, .int (0 : Int32)), (0, .ref a0), (1, .int i1), (2, .int i2)]) (zd me_X12_gapOf 1 rfl) rfl (Nat.le_of_ble_eq_true rfl) rfl ?_
  refine zx_loc [1, 2, 3, 0] rfl ?_
  exact mt_X12_gapOf_l2 h0 zF i1 i2 (0 : Int32) M
def mf_X12_gap (R : zRR) (a0 : Nat) (i1 : Int32) (i2 : Int32) (M : zMem) : Option (Int32 × zMem) :=
  zlet (zwI M a0 0 (0 : Int32)) fun M1 =>
  zcl (mf_X12_isPaper R a0 i1 M1) fun r3 M2 =>
  if r3 = 0 then
    (some ((-1 : Int32), M2))
  else
    (zcl (mf_X12_isPaper R a0 i2 M2) fun r6 M5 =>
    if r6 = 0 then
      (some ((-1 : Int32), M5))
    else
      (zcl (mf_X12_gapOf R a0 i1 i2 M5) fun r9 M8 =>
      some (r9, M8)))
theorem mc_X12_gap (l : Launch) {T : zTT} {R : zRR} {a0 : Nat} (h0 : zi12 T R a0) (i1 : Int32) (i2 : Int32) (M : zMem) : zMS l yX12_gap mi_X12_gap zrvI (mf_X12_gap R a0 i1 i2 M) [.ref a0, .int i1, .int i2] T R M := by
  refine zMS.of (by decide +kernel) rfl ⟨rfl, rfl⟩ (Nat.le_of_ble_eq_true rfl) (fun C ad _ => ?_)
  show zX C mi_X12_gap (zFin C zrvI ad T R) 0 0 (mf_X12_gap R a0 i1 i2 M) 0 [(0, .ref a0), (1, .int i1), (2, .int i2)] [] ad T R M
  unfold mf_X12_gap
  refine zx_aload_n (i := 0) (zd me_X12_gap 0 rfl) rfl 0 rfl ?_
  refine zx_iconst (v := 0) (zd me_X12_gap 1 rfl) (by decide) ?_
  refine zx_putI (zd me_X12_gap 2 rfl) fp_X12_1 (zi12_c h0) rfl (fun M1 _ => ?_)
  refine zx_aload_n (i := 0) (zd me_X12_gap 3 rfl) rfl 0 rfl ?_
  refine zx_iload_n (i := 1) (zd me_X12_gap 4 rfl) rfl 1 rfl ?_
  refine zx_callVI1 (zd me_X12_gap 5 rfl) (mc_X12_isPaper (zl C) h0 i1 M1) lk_X12_258 ⟨(Nat.le_of_ble_eq_true rfl), (Nat.le_of_ble_eq_true rfl)⟩ (Nat.le_of_ble_eq_true rfl) (zi12_c h0) rfl (fun r3 M2 => ?_)
  refine zx_if_eq (tgt := 30) (zd me_X12_gap 6 rfl) (by decide) (fun c4 => ?_) (fun c4 => ?_)
  · refine zx_iconst (v := (-1)) (zd me_X12_gap 16 rfl) (by decide) ?_
    exact zx_iret (zd me_X12_gap 17 rfl) rfl
  · refine zx_aload_n (i := 0) (zd me_X12_gap 7 rfl) rfl 0 rfl ?_
    refine zx_iload_n (i := 2) (zd me_X12_gap 8 rfl) rfl 2 rfl ?_
    refine zx_callVI1 (zd me_X12_gap 9 rfl) (mc_X12_isPaper (zl C) h0 i2 M2) lk_X12_258 ⟨(Nat.le_of_ble_eq_true rfl), (Nat.le_of_ble_eq_true rfl)⟩ (Nat.le_of_ble_eq_true rfl) (zi12_c h0) rfl (fun r6 M5 => ?_)
    refine zx_if_eq (tgt := 30) (zd me_X12_gap 10 rfl) (by decide) (fun c7 => ?_) (fun c7 => ?_)
    · refine zx_iconst (v := (-1)) (zd me_X12_gap 16 rfl) (by decide) ?_
      exact zx_iret (zd me_X12_gap 17 rfl) rfl
    · refine zx_aload_n (i := 0) (zd me_X12_gap 11 rfl) rfl 0 rfl ?_
      refine zx_iload_n (i := 1) (zd me_X12_gap 12 rfl) rfl 1 rfl ?_
      refine zx_iload_n (i := 2) (zd me_X12_gap 13 rfl) rfl 2 rfl ?_
      refine zx_callVI2 (zd me_X12_gap 14 rfl) (mc_X12_gapOf (zl C) h0 i1 i2 M5) lk_X12_373 ⟨(Nat.le_of_ble_eq_true rfl), (Nat.le_of_ble_eq_true rfl)⟩ (Nat.le_of_ble_eq_true rfl) (zi12_c h0) rfl (fun r9 M8 => ?_)
      refine zx_goto (tgt := 31) (zd me_X12_gap 15 rfl) (by decide) ?_
      exact zx_iret (zd me_X12_gap 17 rfl) rfl
def mf_X12_tryChains_l21 (R : zRR) (F_tryChains : zRR → Nat → Int32 → Int32 → Int32 → zMem → Option (Unit × zMem)) (a0 : Nat) : Nat → Int32 → Int32 → zMem → Option (Unit × zMem)
  | 0, _, _, _ => none
  | fuel + 1, i1, i4, M =>
    if i1 ≤ i4 then
      (some ((), M))
    else
      (zald 5 i4 fun j15 =>
      zald 5 i4 fun j16 =>
      zlet (zwI M (zrf R a0 37) j16 (M.1 (zrf R a0 36) j15)) fun M17 =>
      mf_X12_tryChains_l21 R F_tryChains a0 fuel i1 (i4 + 1) M17)
theorem mt_X12_tryChains_l21 {d : Nat} {C : zCx} {ad : Nat → Nat} {T : zTT} {R : zRR} {F_tryChains : zRR → Nat → Int32 → Int32 → Int32 → zMem → Option (Unit × zMem)} {a0 : Nat} (hF_tryChains : ∀ (l : Launch) {a0 : Nat} (h0 : zi12 T R a0) (i1 : Int32) (i2 : Int32) (i3 : Int32) (M : zMem), zMS l yX12_tryChains (mi_X12_tryChains d) zrvV (F_tryChains R a0 i1 i2 i3 M) [.ref a0, .int i1, .int i2, .int i3] T R M) (h0 : zi12 T R a0) : ∀ (fuel : Nat) (i1 : Int32) (i4 : Int32) (M : zMem), zX C (mi_X12_tryChains (d + 1)) (zFin C zrvV ad T R) 0 0 (mf_X12_tryChains_l21 R F_tryChains a0 fuel i1 i4 M) 21 [(0, .ref a0), (1, .int i1), (4, .int i4)] [] ad T R M := by
  intro fuel
  induction fuel with
  | zero => intros; exact zx_none
  | succ fuel ih =>
    intro i1 i4 M
    rw [mf_X12_tryChains_l21]
    refine zx_iload (zd me_X12_tryChains 12 rfl) 2 rfl ?_
    refine zx_iload_n (i := 1) (zd me_X12_tryChains 13 rfl) rfl 1 rfl ?_
    refine zx_icmp_ge (tgt := 47) (zd me_X12_tryChains 14 rfl) (by decide) (fun c14 => ?_) (fun c14 => ?_)
    · exact zx_vret (zd me_X12_tryChains 25 rfl) rfl
    · refine zx_aload_n (i := 0) (zd me_X12_tryChains 15 rfl) rfl 0 rfl ?_
      refine zx_getR (zd me_X12_tryChains 16 rfl) fl_X12_157 (zi12_c h0) rfl (zi12_r37 h0) ?_
      refine zx_iload (zd me_X12_tryChains 17 rfl) 2 rfl ?_
      refine zx_aload_n (i := 0) (zd me_X12_tryChains 18 rfl) rfl 0 rfl ?_
      refine zx_getR (zd me_X12_tryChains 19 rfl) fl_X12_154 (zi12_c h0) rfl (zi12_r36 h0) ?_
      refine zx_iload (zd me_X12_tryChains 20 rfl) 2 rfl ?_
      refine zx_iald (zd me_X12_tryChains 21 rfl) (zi12_t36 h0) (fun j15 hj15 => ?_)
      refine zx_iast (zd me_X12_tryChains 22 rfl) (zi12_t37 h0) (fun M17 => ?_)
      refine zx_iinc (v := 1) (ls' := [(4, .int (i4 + 1)), (0, .ref a0), (1, .int i1)]) (zd me_X12_tryChains 23 rfl) (Nat.le_of_ble_eq_true rfl) 2 rfl (by decide) rfl ?_
      refine zx_goto (tgt := 21) (zd me_X12_tryChains 24 rfl) (by decide) ?_
      refine zx_loc [1, 2, 0] rfl ?_
      exact ih i1 (i4 + 1) M17
def mf_X12_tryChains_b116 (R : zRR) (F_tryChains : zRR → Nat → Int32 → Int32 → Int32 → zMem → Option (Unit × zMem)) (a0 : Nat) (H51 : Int32 → Int32 → Int32 → Int32 → zMem → Option (Unit × zMem)) (i1 : Int32) (i2 : Int32) (i3 : Int32) (i4 : Int32) (M : zMem) : Option (Unit × zMem) :=
  H51 i1 i2 i3 (i4 + 1) M
theorem mt_X12_tryChains_b116 {d : Nat} {C : zCx} {ad : Nat → Nat} {T : zTT} {R : zRR} {F_tryChains : zRR → Nat → Int32 → Int32 → Int32 → zMem → Option (Unit × zMem)} {a0 : Nat} (hF_tryChains : ∀ (l : Launch) {a0 : Nat} (h0 : zi12 T R a0) (i1 : Int32) (i2 : Int32) (i3 : Int32) (M : zMem), zMS l yX12_tryChains (mi_X12_tryChains d) zrvV (F_tryChains R a0 i1 i2 i3 M) [.ref a0, .int i1, .int i2, .int i3] T R M) (h0 : zi12 T R a0) {H51 : Int32 → Int32 → Int32 → Int32 → zMem → Option (Unit × zMem)} (hH51 : ∀ (i1 : Int32) (i2 : Int32) (i3 : Int32) (i4 : Int32) (M : zMem), zX C (mi_X12_tryChains (d + 1)) (zFin C zrvV ad T R) 0 0 (H51 i1 i2 i3 i4 M) 51 [(0, .ref a0), (1, .int i1), (2, .int i2), (3, .int i3), (4, .int i4)] [] ad T R M) (i1 : Int32) (i2 : Int32) (i3 : Int32) (i4 : Int32) (M : zMem) : zX C (mi_X12_tryChains (d + 1)) (zFin C zrvV ad T R) 0 0 (mf_X12_tryChains_b116 R F_tryChains a0 H51 i1 i2 i3 i4 M) 116 [(0, .ref a0), (1, .int i1), (2, .int i2), (3, .int i3), (4, .int i4)] [] ad T R M := by
  unfold mf_X12_tryChains_b116
  refine zx_iinc (v := 1) (ls' := [(4, .int (i4 + 1)), (0, .ref a0), (1, .int i1), (2, .int i2), (3, .int i3)]) (zd me_X12_tryChains 68 rfl) (Nat.le_of_ble_eq_true rfl) 4 rfl (by decide) rfl ?_
  refine zx_goto (tgt := 51) (zd me_X12_tryChains 69 rfl) (by decide) ?_
  refine zx_loc [1, 2, 3, 4, 0] rfl ?_
  exact hH51 i1 i2 i3 (i4 + 1) M
def mf_X12_tryChains_b113 (R : zRR) (F_tryChains : zRR → Nat → Int32 → Int32 → Int32 → zMem → Option (Unit × zMem)) (a0 : Nat) (H51 : Int32 → Int32 → Int32 → Int32 → zMem → Option (Unit × zMem)) (i1 : Int32) (i2 : Int32) (i3 : Int32) (i4 : Int32) (s0 : Int32) (s1 : Int32) (s2 : Int32) (M : zMem) : Option (Unit × zMem) :=
  zcl (F_tryChains R a0 s2 s1 s0 M) fun _ M18 =>
  mf_X12_tryChains_b116 R F_tryChains a0 H51 i1 i2 i3 i4 M18
theorem mt_X12_tryChains_b113 {d : Nat} {C : zCx} {ad : Nat → Nat} {T : zTT} {R : zRR} {F_tryChains : zRR → Nat → Int32 → Int32 → Int32 → zMem → Option (Unit × zMem)} {a0 : Nat} (hF_tryChains : ∀ (l : Launch) {a0 : Nat} (h0 : zi12 T R a0) (i1 : Int32) (i2 : Int32) (i3 : Int32) (M : zMem), zMS l yX12_tryChains (mi_X12_tryChains d) zrvV (F_tryChains R a0 i1 i2 i3 M) [.ref a0, .int i1, .int i2, .int i3] T R M) (h0 : zi12 T R a0) {H51 : Int32 → Int32 → Int32 → Int32 → zMem → Option (Unit × zMem)} (hH51 : ∀ (i1 : Int32) (i2 : Int32) (i3 : Int32) (i4 : Int32) (M : zMem), zX C (mi_X12_tryChains (d + 1)) (zFin C zrvV ad T R) 0 0 (H51 i1 i2 i3 i4 M) 51 [(0, .ref a0), (1, .int i1), (2, .int i2), (3, .int i3), (4, .int i4)] [] ad T R M) (i1 : Int32) (i2 : Int32) (i3 : Int32) (i4 : Int32) (s0 : Int32) (s1 : Int32) (s2 : Int32) (M : zMem) : zX C (mi_X12_tryChains (d + 1)) (zFin C zrvV ad T R) 0 0 (mf_X12_tryChains_b113 R F_tryChains a0 H51 i1 i2 i3 i4 s0 s1 s2 M) 113 [(0, .ref a0), (1, .int i1), (2, .int i2), (3, .int i3), (4, .int i4)] [.int s0, .int s1, .int s2, .ref a0] ad T R M := by
  unfold mf_X12_tryChains_b113
  refine zx_callVV3 (zd me_X12_tryChains 67 rfl) (hF_tryChains (zl C) h0 s2 s1 s0 M) (lk_X12_379 d) ⟨Nat.le_refl _, by show 8 + (5 + 11) + (104 + 24 * d) ≤ 104 + 24 * (d + 1); omega⟩ (Nat.le_of_ble_eq_true rfl) (zi12_c h0) rfl (fun r19 M18 => ?_)
  exact mt_X12_tryChains_b116 hF_tryChains h0 hH51 i1 i2 i3 i4 M18
def mf_X12_tryChains_l51 (R : zRR) (F_tryChains : zRR → Nat → Int32 → Int32 → Int32 → zMem → Option (Unit × zMem)) (a0 : Nat) : Nat → Int32 → Int32 → Int32 → Int32 → zMem → Option (Unit × zMem)
  | 0, _, _, _, _, _ => none
  | fuel + 1, i1, i2, i3, i4, M =>
    if (5 : Int32) ≤ i4 then
      (some ((), M))
    else
      (zcl (mf_X12_has R i2 i4 M) fun r6 M5 =>
      if r6 = 0 then
        (mf_X12_tryChains_b116 R F_tryChains a0 (mf_X12_tryChains_l51 R F_tryChains a0 fuel) i1 i2 i3 i4 M5)
      else
        (zald 5 i1 fun j8 =>
        zlet (zwI M5 (zrf R a0 36) j8 i4) fun M9 =>
        if i1 = 0 then
          (mf_X12_tryChains_b113 R F_tryChains a0 (mf_X12_tryChains_l51 R F_tryChains a0 fuel) i1 i2 i3 i4 (0 : Int32) (i2 &&& (((1 : Int32) <<< (i4 &&& 31)) ^^^ (-1 : Int32))) (i1 + (1 : Int32)) M9)
        else
          (zald 5 (i1 - (1 : Int32)) fun j11 =>
          zcl (mf_X12_gapOf R a0 (M9.1 (zrf R a0 36) j11) i4 M9) fun r13 M12 =>
          mf_X12_tryChains_b113 R F_tryChains a0 (mf_X12_tryChains_l51 R F_tryChains a0 fuel) i1 i2 i3 i4 (i3 + r13) (i2 &&& (((1 : Int32) <<< (i4 &&& 31)) ^^^ (-1 : Int32))) (i1 + (1 : Int32)) M12)))
theorem mt_X12_tryChains_l51 {d : Nat} {C : zCx} {ad : Nat → Nat} {T : zTT} {R : zRR} {F_tryChains : zRR → Nat → Int32 → Int32 → Int32 → zMem → Option (Unit × zMem)} {a0 : Nat} (hF_tryChains : ∀ (l : Launch) {a0 : Nat} (h0 : zi12 T R a0) (i1 : Int32) (i2 : Int32) (i3 : Int32) (M : zMem), zMS l yX12_tryChains (mi_X12_tryChains d) zrvV (F_tryChains R a0 i1 i2 i3 M) [.ref a0, .int i1, .int i2, .int i3] T R M) (h0 : zi12 T R a0) : ∀ (fuel : Nat) (i1 : Int32) (i2 : Int32) (i3 : Int32) (i4 : Int32) (M : zMem), zX C (mi_X12_tryChains (d + 1)) (zFin C zrvV ad T R) 0 0 (mf_X12_tryChains_l51 R F_tryChains a0 fuel i1 i2 i3 i4 M) 51 [(0, .ref a0), (1, .int i1), (2, .int i2), (3, .int i3), (4, .int i4)] [] ad T R M := by
  intro fuel
  induction fuel with
  | zero => intros; exact zx_none
  | succ fuel ih =>
    intro i1 i2 i3 i4 M
    rw [mf_X12_tryChains_l51]
    refine zx_iload (zd me_X12_tryChains 28 rfl) 4 rfl ?_
    refine zx_iconst (v := 5) (zd me_X12_tryChains 29 rfl) (by decide) ?_
    refine zx_icmp_ge (tgt := 122) (zd me_X12_tryChains 30 rfl) (by decide) (fun c4 => ?_) (fun c4 => ?_)
    · exact zx_vret (zd me_X12_tryChains 70 rfl) rfl
    · refine zx_iload_n (i := 2) (zd me_X12_tryChains 31 rfl) rfl 2 rfl ?_
      refine zx_iload (zd me_X12_tryChains 32 rfl) 4 rfl ?_
      refine zx_callSI2 (zd me_X12_tryChains 33 rfl) (mc_X12_has (zl C) i2 i4 M) lk_X12_200 ⟨Nat.le_trans (m := 4) (Nat.le_of_ble_eq_true rfl) (Nat.le_add_right 4 _), Nat.le_trans (m := 104) (Nat.le_of_ble_eq_true rfl) (Nat.le_add_right 104 _)⟩ (Nat.le_of_ble_eq_true rfl) (fun r6 M5 => ?_)
      refine zx_if_ne (tgt := 69) (zd me_X12_tryChains 34 rfl) (by decide) (fun c7 => ?_) (fun c7 => ?_)
      · refine zx_aload_n (i := 0) (zd me_X12_tryChains 36 rfl) rfl 0 rfl ?_
        refine zx_getR (zd me_X12_tryChains 37 rfl) fl_X12_154 (zi12_c h0) rfl (zi12_r36 h0) ?_
        refine zx_iload_n (i := 1) (zd me_X12_tryChains 38 rfl) rfl 1 rfl ?_
        refine zx_iload (zd me_X12_tryChains 39 rfl) 4 rfl ?_
        refine zx_iast (zd me_X12_tryChains 40 rfl) (zi12_t36 h0) (fun M9 => ?_)
        refine zx_aload_n (i := 0) (zd me_X12_tryChains 41 rfl) rfl 0 rfl ?_
        refine zx_iload_n (i := 1) (zd me_X12_tryChains 42 rfl) rfl 1 rfl ?_
        refine zx_iconst (v := 1) (zd me_X12_tryChains 43 rfl) (by decide) ?_
        refine zx_iadd (zd me_X12_tryChains 44 rfl) ?_
        refine zx_iload_n (i := 2) (zd me_X12_tryChains 45 rfl) rfl 2 rfl ?_
        refine zx_iconst (v := 1) (zd me_X12_tryChains 46 rfl) (by decide) ?_
        refine zx_iload (zd me_X12_tryChains 47 rfl) 4 rfl ?_
        refine zx_ishl (zd me_X12_tryChains 48 rfl) ?_
        refine zx_iconst (v := (-1)) (zd me_X12_tryChains 49 rfl) (by decide) ?_
        refine zx_ixor (zd me_X12_tryChains 50 rfl) ?_
        refine zx_iand (zd me_X12_tryChains 51 rfl) ?_
        refine zx_iload_n (i := 1) (zd me_X12_tryChains 52 rfl) rfl 1 rfl ?_
        refine zx_if_ne (tgt := 97) (zd me_X12_tryChains 53 rfl) (by decide) (fun c10 => ?_) (fun c10 => ?_)
        · refine zx_iload_n (i := 3) (zd me_X12_tryChains 56 rfl) rfl 3 rfl ?_
          refine zx_aload_n (i := 0) (zd me_X12_tryChains 57 rfl) rfl 0 rfl ?_
          refine zx_aload_n (i := 0) (zd me_X12_tryChains 58 rfl) rfl 0 rfl ?_
          refine zx_getR (zd me_X12_tryChains 59 rfl) fl_X12_154 (zi12_c h0) rfl (zi12_r36 h0) ?_
          refine zx_iload_n (i := 1) (zd me_X12_tryChains 60 rfl) rfl 1 rfl ?_
          refine zx_iconst (v := 1) (zd me_X12_tryChains 61 rfl) (by decide) ?_
          refine zx_isub (zd me_X12_tryChains 62 rfl) ?_
          refine zx_iald (zd me_X12_tryChains 63 rfl) (zi12_t36 h0) (fun j11 hj11 => ?_)
          refine zx_iload (zd me_X12_tryChains 64 rfl) 4 rfl ?_
          refine zx_callVI2 (zd me_X12_tryChains 65 rfl) (mc_X12_gapOf (zl C) h0 (M9.1 (zrf R a0 36) j11) i4 M9) lk_X12_373 ⟨Nat.le_trans (m := 4) (Nat.le_of_ble_eq_true rfl) (Nat.le_add_right 4 _), Nat.le_trans (m := 104) (Nat.le_of_ble_eq_true rfl) (Nat.le_add_right 104 _)⟩ (Nat.le_of_ble_eq_true rfl) (zi12_c h0) rfl (fun r13 M12 => ?_)
          refine zx_iadd (zd me_X12_tryChains 66 rfl) ?_
          exact mt_X12_tryChains_b113 hF_tryChains h0 ih i1 i2 i3 i4 (i3 + r13) (i2 &&& (((1 : Int32) <<< (i4 &&& 31)) ^^^ (-1 : Int32))) (i1 + (1 : Int32)) M12
        · refine zx_iconst (v := 0) (zd me_X12_tryChains 54 rfl) (by decide) ?_
          refine zx_goto (tgt := 113) (zd me_X12_tryChains 55 rfl) (by decide) ?_
          exact mt_X12_tryChains_b113 hF_tryChains h0 ih i1 i2 i3 i4 (0 : Int32) (i2 &&& (((1 : Int32) <<< (i4 &&& 31)) ^^^ (-1 : Int32))) (i1 + (1 : Int32)) M9
      · refine zx_goto (tgt := 116) (zd me_X12_tryChains 35 rfl) (by decide) ?_
        exact mt_X12_tryChains_b116 hF_tryChains h0 ih i1 i2 i3 i4 M5
def mf_X12_tryChains (R : zRR) (F_tryChains : zRR → Nat → Int32 → Int32 → Int32 → zMem → Option (Unit × zMem)) (a0 : Nat) (i1 : Int32) (i2 : Int32) (i3 : Int32) (M : zMem) : Option (Unit × zMem) :=
  if i2 = 0 then
    (if i3 < (M.1 a0 39) then
      (zlet (zwI M a0 39 i3) fun M3 =>
      mf_X12_tryChains_l21 R F_tryChains a0 zF i1 (0 : Int32) M3)
    else
      (some ((), M)))
  else
    (mf_X12_tryChains_l51 R F_tryChains a0 zF i1 i2 i3 (0 : Int32) M)
theorem mm_X12_tryChains {d : Nat} (l : Launch) {T : zTT} {R : zRR} {F_tryChains : zRR → Nat → Int32 → Int32 → Int32 → zMem → Option (Unit × zMem)} {a0 : Nat} (hF_tryChains : ∀ (l : Launch) {a0 : Nat} (h0 : zi12 T R a0) (i1 : Int32) (i2 : Int32) (i3 : Int32) (M : zMem), zMS l yX12_tryChains (mi_X12_tryChains d) zrvV (F_tryChains R a0 i1 i2 i3 M) [.ref a0, .int i1, .int i2, .int i3] T R M) (h0 : zi12 T R a0) (i1 : Int32) (i2 : Int32) (i3 : Int32) (M : zMem) : zMS l yX12_tryChains (mi_X12_tryChains (d + 1)) zrvV (mf_X12_tryChains R F_tryChains a0 i1 i2 i3 M) [.ref a0, .int i1, .int i2, .int i3] T R M := by
  refine zMS.of (by decide +kernel) rfl ⟨rfl, rfl⟩ (Nat.le_of_ble_eq_true rfl) (fun C ad _ => ?_)
  show zX C (mi_X12_tryChains (d + 1)) (zFin C zrvV ad T R) 0 0 (mf_X12_tryChains R F_tryChains a0 i1 i2 i3 M) 0 [(0, .ref a0), (1, .int i1), (2, .int i2), (3, .int i3)] [] ad T R M
  unfold mf_X12_tryChains
  refine zx_iload_n (i := 2) (zd me_X12_tryChains 0 rfl) rfl 2 rfl ?_
  refine zx_if_ne (tgt := 48) (zd me_X12_tryChains 1 rfl) (by decide) (fun c1 => ?_) (fun c1 => ?_)
  · refine zx_iconst (v := 0) (zd me_X12_tryChains 26 rfl) (by decide) ?_
    refine zx_istore (ls' := [(4, .int (0 : Int32)), (0, .ref a0), (1, .int i1), (2, .int i2), (3, .int i3)]) (zd me_X12_tryChains 27 rfl) (Nat.le_of_ble_eq_true rfl) rfl ?_
    refine zx_loc [1, 2, 3, 4, 0] rfl ?_
    exact mt_X12_tryChains_l51 hF_tryChains h0 zF i1 i2 i3 (0 : Int32) M
  · refine zx_iload_n (i := 3) (zd me_X12_tryChains 2 rfl) rfl 3 rfl ?_
    refine zx_aload_n (i := 0) (zd me_X12_tryChains 3 rfl) rfl 0 rfl ?_
    refine zx_getI (zd me_X12_tryChains 4 rfl) fl_X12_376 (zi12_c h0) rfl ?_
    refine zx_icmp_lt (tgt := 13) (zd me_X12_tryChains 5 rfl) (by decide) (fun c2 => ?_) (fun c2 => ?_)
    · refine zx_aload_n (i := 0) (zd me_X12_tryChains 7 rfl) rfl 0 rfl ?_
      refine zx_iload_n (i := 3) (zd me_X12_tryChains 8 rfl) rfl 3 rfl ?_
      refine zx_putI (zd me_X12_tryChains 9 rfl) fp_X12_376 (zi12_c h0) rfl (fun M3 _ => ?_)
      refine zx_iconst (v := 0) (zd me_X12_tryChains 10 rfl) (by decide) ?_
      refine zx_istore (ls' := [(4, .int (0 : Int32)), (0, .ref a0), (1, .int i1), (2, .int i2), (3, .int i3)]) (zd me_X12_tryChains 11 rfl) (Nat.le_of_ble_eq_true rfl) rfl ?_
      refine zx_loc [1, 2, 0] rfl ?_
      exact mt_X12_tryChains_l21 hF_tryChains h0 zF i1 (0 : Int32) M3
    · exact zx_vret (zd me_X12_tryChains 6 rfl) rfl
def mg_X12c : Nat → (zRR → Nat → Int32 → Int32 → Int32 → zMem → Option (Unit × zMem))
  | 0 => fun _ _ _ _ _ _ => none
  | d + 1 => fun R => mf_X12_tryChains R (mg_X12c d)
def mr_X12_tryChains (d : Nat) : zRR → Nat → Int32 → Int32 → Int32 → zMem → Option (Unit × zMem) := (mg_X12c d)
theorem mgc_X12c : ∀ d : Nat, (∀ (l : Launch) {T : zTT} {R : zRR} {a0 : Nat} (h0 : zi12 T R a0) (i1 : Int32) (i2 : Int32) (i3 : Int32) (M : zMem), zMS l yX12_tryChains (mi_X12_tryChains (d)) zrvV (mr_X12_tryChains (d) R a0 i1 i2 i3 M) [.ref a0, .int i1, .int i2, .int i3] T R M) := by
  intro d
  induction d with
  | zero => exact (by intros; intro r M1 h; cases (show (none : Option (Unit × zMem)) = some (r, M1) from h))
  | succ d ih =>
    have q0 := ih
    exact fun l {T} {R} {a0} h0 i1 i2 i3 M => mm_X12_tryChains l (T := T) (R := R) (fun l {a0} h0 i1 i2 i3 M => q0 l h0 i1 i2 i3 M) h0 i1 i2 i3 M
theorem mc_X12_tryChains (l : Launch) {T : zTT} {R : zRR} {a0 : Nat} (h0 : zi12 T R a0) (i1 : Int32) (i2 : Int32) (i3 : Int32) (M : zMem) : zMS l yX12_tryChains (mi_X12_tryChains zD) zrvV (mr_X12_tryChains zD R a0 i1 i2 i3 M) [.ref a0, .int i1, .int i2, .int i3] T R M := (mgc_X12c zD) l h0 i1 i2 i3 M
def mf_X12_chain (R : zRR) (a0 : Nat) (M : zMem) : Option (Int32 × zMem) :=
  zlet (zwI M a0 0 (0 : Int32)) fun M1 =>
  zlet (zwI M1 a0 39 (100000 : Int32)) fun M2 =>
  zald 354 (1 : Int32) fun j3 =>
  zlet (zwI M2 a0 38 (M2.1 (zrf R a0 14) j3)) fun M4 =>
  zcl (mr_X12_tryChains zD R a0 (0 : Int32) (((1 : Int32) <<< ((M4.1 a0 38) &&& 31)) - (1 : Int32)) (0 : Int32) M4) fun _ M5 =>
  some ((M5.1 a0 39), M5)
theorem mc_X12_chain (l : Launch) {T : zTT} {R : zRR} {a0 : Nat} (h0 : zi12 T R a0) (M : zMem) : zMS l yX12_chain mi_X12_chain zrvI (mf_X12_chain R a0 M) [.ref a0] T R M := by
  refine zMS.of (by decide +kernel) rfl ⟨rfl, rfl⟩ (Nat.le_of_ble_eq_true rfl) (fun C ad _ => ?_)
  show zX C mi_X12_chain (zFin C zrvI ad T R) 0 0 (mf_X12_chain R a0 M) 0 [(0, .ref a0)] [] ad T R M
  unfold mf_X12_chain
  refine zx_aload_n (i := 0) (zd me_X12_chain 0 rfl) rfl 0 rfl ?_
  refine zx_iconst (v := 0) (zd me_X12_chain 1 rfl) (by decide) ?_
  refine zx_putI (zd me_X12_chain 2 rfl) fp_X12_1 (zi12_c h0) rfl (fun M1 _ => ?_)
  refine zx_aload_n (i := 0) (zd me_X12_chain 3 rfl) rfl 0 rfl ?_
  refine zx_ldcw (v := 100000) (zd me_X12_chain 4 rfl) (zt8 59 rfl rfl) ?_
  refine zx_putI (zd me_X12_chain 5 rfl) fp_X12_376 (zi12_c h0) rfl (fun M2 _ => ?_)
  refine zx_aload_n (i := 0) (zd me_X12_chain 6 rfl) rfl 0 rfl ?_
  refine zx_aload_n (i := 0) (zd me_X12_chain 7 rfl) rfl 0 rfl ?_
  refine zx_getR (zd me_X12_chain 8 rfl) fl_X12_98 (zi12_c h0) rfl (zi12_r14 h0) ?_
  refine zx_iconst (v := 1) (zd me_X12_chain 9 rfl) (by decide) ?_
  refine zx_iald (zd me_X12_chain 10 rfl) (zi12_t14 h0) (fun j3 hj3 => ?_)
  refine zx_putI (zd me_X12_chain 11 rfl) fp_X12_382 (zi12_c h0) rfl (fun M4 _ => ?_)
  refine zx_aload_n (i := 0) (zd me_X12_chain 12 rfl) rfl 0 rfl ?_
  refine zx_iconst (v := 0) (zd me_X12_chain 13 rfl) (by decide) ?_
  refine zx_iconst (v := 1) (zd me_X12_chain 14 rfl) (by decide) ?_
  refine zx_aload_n (i := 0) (zd me_X12_chain 15 rfl) rfl 0 rfl ?_
  refine zx_getI (zd me_X12_chain 16 rfl) fl_X12_382 (zi12_c h0) rfl ?_
  refine zx_ishl (zd me_X12_chain 17 rfl) ?_
  refine zx_iconst (v := 1) (zd me_X12_chain 18 rfl) (by decide) ?_
  refine zx_isub (zd me_X12_chain 19 rfl) ?_
  refine zx_iconst (v := 0) (zd me_X12_chain 20 rfl) (by decide) ?_
  refine zx_callVV3 (zd me_X12_chain 21 rfl) (mc_X12_tryChains (zl C) h0 (0 : Int32) (((1 : Int32) <<< ((M4.1 a0 38) &&& 31)) - (1 : Int32)) (0 : Int32) M4) (lk_X12_379 zD) ⟨(Nat.le_of_ble_eq_true rfl), (Nat.le_of_ble_eq_true rfl)⟩ (Nat.le_of_ble_eq_true rfl) (zi12_c h0) rfl (fun r6 M5 => ?_)
  refine zx_aload_n (i := 0) (zd me_X12_chain 22 rfl) rfl 0 rfl ?_
  refine zx_getI (zd me_X12_chain 23 rfl) fl_X12_376 (zi12_c h0) rfl ?_
  exact zx_iret (zd me_X12_chain 24 rfl) rfl
def mf_X12_chainAt (R : zRR) (a0 : Nat) (i1 : Int32) (M : zMem) : Option (Int32 × zMem) :=
  zlet (zwI M a0 0 (0 : Int32)) fun M1 =>
  zcl (mf_X12_isIn R i1 (0 : Int32) ((M1.1 a0 38) - (1 : Int32)) M1) fun r3 M2 =>
  if r3 = 0 then
    (some ((-1 : Int32), M2))
  else
    (zald 5 i1 fun j5 =>
    some ((M2.1 (zrf R a0 37) j5), M2))
theorem mc_X12_chainAt (l : Launch) {T : zTT} {R : zRR} {a0 : Nat} (h0 : zi12 T R a0) (i1 : Int32) (M : zMem) : zMS l yX12_chainAt mi_X12_chainAt zrvI (mf_X12_chainAt R a0 i1 M) [.ref a0, .int i1] T R M := by
  refine zMS.of (by decide +kernel) rfl ⟨rfl, rfl⟩ (Nat.le_of_ble_eq_true rfl) (fun C ad _ => ?_)
  show zX C mi_X12_chainAt (zFin C zrvI ad T R) 0 0 (mf_X12_chainAt R a0 i1 M) 0 [(0, .ref a0), (1, .int i1)] [] ad T R M
  unfold mf_X12_chainAt
  refine zx_aload_n (i := 0) (zd me_X12_chainAt 0 rfl) rfl 0 rfl ?_
  refine zx_iconst (v := 0) (zd me_X12_chainAt 1 rfl) (by decide) ?_
  refine zx_putI (zd me_X12_chainAt 2 rfl) fp_X12_1 (zi12_c h0) rfl (fun M1 _ => ?_)
  refine zx_iload_n (i := 1) (zd me_X12_chainAt 3 rfl) rfl 1 rfl ?_
  refine zx_iconst (v := 0) (zd me_X12_chainAt 4 rfl) (by decide) ?_
  refine zx_aload_n (i := 0) (zd me_X12_chainAt 5 rfl) rfl 0 rfl ?_
  refine zx_getI (zd me_X12_chainAt 6 rfl) fl_X12_382 (zi12_c h0) rfl ?_
  refine zx_iconst (v := 1) (zd me_X12_chainAt 7 rfl) (by decide) ?_
  refine zx_isub (zd me_X12_chainAt 8 rfl) ?_
  refine zx_callSI3 (zd me_X12_chainAt 9 rfl) (mc_X12_isIn (zl C) i1 (0 : Int32) ((M1.1 a0 38) - (1 : Int32)) M1) lk_X12_75 ⟨(Nat.le_of_ble_eq_true rfl), (Nat.le_of_ble_eq_true rfl)⟩ (Nat.le_of_ble_eq_true rfl) (fun r3 M2 => ?_)
  refine zx_if_eq (tgt := 28) (zd me_X12_chainAt 10 rfl) (by decide) (fun c4 => ?_) (fun c4 => ?_)
  · refine zx_iconst (v := (-1)) (zd me_X12_chainAt 16 rfl) (by decide) ?_
    exact zx_iret (zd me_X12_chainAt 17 rfl) rfl
  · refine zx_aload_n (i := 0) (zd me_X12_chainAt 11 rfl) rfl 0 rfl ?_
    refine zx_getR (zd me_X12_chainAt 12 rfl) fl_X12_157 (zi12_c h0) rfl (zi12_r37 h0) ?_
    refine zx_iload_n (i := 1) (zd me_X12_chainAt 13 rfl) rfl 1 rfl ?_
    refine zx_iald (zd me_X12_chainAt 14 rfl) (zi12_t37 h0) (fun j5 hj5 => ?_)
    refine zx_goto (tgt := 29) (zd me_X12_chainAt 15 rfl) (by decide) ?_
    exact zx_iret (zd me_X12_chainAt 17 rfl) rfl
def mf_X12_block (R : zRR) (a0 : Nat) (i1 : Int32) (M : zMem) : Option (Int32 × zMem) :=
  zlet (zwI M a0 0 (0 : Int32)) fun M1 =>
  zcl (mf_X12_isSheet R a0 i1 M1) fun r3 M2 =>
  if r3 = 0 then
    (some ((-1 : Int32), M2))
  else
    (zcl (mf_X12_isHeld R a0 i1 M2) fun r6 M5 =>
    if r6 = 0 then
      (some ((-1 : Int32), M5))
    else
      (zald 354 ((72 : Int32) + i1) fun j8 =>
      zcl (mf_X12_nextOf R a0 i1 (M5.1 (zrf R a0 14) j8) M5) fun r10 M9 =>
      if r10 = (-1 : Int32) then
        (some ((0 : Int32), M9))
      else
        (zcl (mf_X12_sheetsIn R a0 r10 M9) fun r13 M12 =>
        some (r13, M12))))
theorem mc_X12_block (l : Launch) {T : zTT} {R : zRR} {a0 : Nat} (h0 : zi12 T R a0) (i1 : Int32) (M : zMem) : zMS l yX12_block mi_X12_block zrvI (mf_X12_block R a0 i1 M) [.ref a0, .int i1] T R M := by
  refine zMS.of (by decide +kernel) rfl ⟨rfl, rfl⟩ (Nat.le_of_ble_eq_true rfl) (fun C ad _ => ?_)
  show zX C mi_X12_block (zFin C zrvI ad T R) 0 0 (mf_X12_block R a0 i1 M) 0 [(0, .ref a0), (1, .int i1)] [] ad T R M
  unfold mf_X12_block
  refine zx_aload_n (i := 0) (zd me_X12_block 0 rfl) rfl 0 rfl ?_
  refine zx_iconst (v := 0) (zd me_X12_block 1 rfl) (by decide) ?_
  refine zx_putI (zd me_X12_block 2 rfl) fp_X12_1 (zi12_c h0) rfl (fun M1 _ => ?_)
  refine zx_aload_n (i := 0) (zd me_X12_block 3 rfl) rfl 0 rfl ?_
  refine zx_iload_n (i := 1) (zd me_X12_block 4 rfl) rfl 1 rfl ?_
  refine zx_callVI1 (zd me_X12_block 5 rfl) (mc_X12_isSheet (zl C) h0 i1 M1) lk_X12_261 ⟨(Nat.le_of_ble_eq_true rfl), (Nat.le_of_ble_eq_true rfl)⟩ (Nat.le_of_ble_eq_true rfl) (zi12_c h0) rfl (fun r3 M2 => ?_)
  refine zx_if_eq (tgt := 21) (zd me_X12_block 6 rfl) (by decide) (fun c4 => ?_) (fun c4 => ?_)
  · refine zx_iconst (v := (-1)) (zd me_X12_block 11 rfl) (by decide) ?_
    exact zx_iret (zd me_X12_block 12 rfl) rfl
  · refine zx_aload_n (i := 0) (zd me_X12_block 7 rfl) rfl 0 rfl ?_
    refine zx_iload_n (i := 1) (zd me_X12_block 8 rfl) rfl 1 rfl ?_
    refine zx_callVI1 (zd me_X12_block 9 rfl) (mc_X12_isHeld (zl C) h0 i1 M2) lk_X12_270 ⟨(Nat.le_of_ble_eq_true rfl), (Nat.le_of_ble_eq_true rfl)⟩ (Nat.le_of_ble_eq_true rfl) (zi12_c h0) rfl (fun r6 M5 => ?_)
    refine zx_if_ne (tgt := 23) (zd me_X12_block 10 rfl) (by decide) (fun c7 => ?_) (fun c7 => ?_)
    · refine zx_aload_n (i := 0) (zd me_X12_block 13 rfl) rfl 0 rfl ?_
      refine zx_iload_n (i := 1) (zd me_X12_block 14 rfl) rfl 1 rfl ?_
      refine zx_aload_n (i := 0) (zd me_X12_block 15 rfl) rfl 0 rfl ?_
      refine zx_getR (zd me_X12_block 16 rfl) fl_X12_98 (zi12_c h0) rfl (zi12_r14 h0) ?_
      refine zx_bipush (v := 72) (zd me_X12_block 17 rfl) (by decide) ?_
      refine zx_iload_n (i := 1) (zd me_X12_block 18 rfl) rfl 1 rfl ?_
      refine zx_iadd (zd me_X12_block 19 rfl) ?_
      refine zx_iald (zd me_X12_block 20 rfl) (zi12_t14 h0) (fun j8 hj8 => ?_)
      refine zx_callVI2 (zd me_X12_block 21 rfl) (mc_X12_nextOf (zl C) h0 i1 (M5.1 (zrf R a0 14) j8) M5) lk_X12_277 ⟨(Nat.le_of_ble_eq_true rfl), (Nat.le_of_ble_eq_true rfl)⟩ (Nat.le_of_ble_eq_true rfl) (zi12_c h0) rfl (fun r10 M9 => ?_)
      refine zx_istore_n (i := 2) (ls' := [(2, .int r10), (0, .ref a0), (1, .int i1)]) (zd me_X12_block 22 rfl) rfl (Nat.le_of_ble_eq_true rfl) rfl ?_
      refine zx_iload_n (i := 2) (zd me_X12_block 23 rfl) rfl 0 rfl ?_
      refine zx_iconst (v := (-1)) (zd me_X12_block 24 rfl) (by decide) ?_
      refine zx_icmp_ne (tgt := 47) (zd me_X12_block 25 rfl) (by decide) (fun c11 => ?_) (fun c11 => ?_)
      · refine zx_aload_n (i := 0) (zd me_X12_block 28 rfl) rfl 1 rfl ?_
        refine zx_iload_n (i := 2) (zd me_X12_block 29 rfl) rfl 0 rfl ?_
        refine zx_callVI1 (zd me_X12_block 30 rfl) (mc_X12_sheetsIn (zl C) h0 r10 M9) lk_X12_237 ⟨(Nat.le_of_ble_eq_true rfl), (Nat.le_of_ble_eq_true rfl)⟩ (Nat.le_of_ble_eq_true rfl) (zi12_c h0) rfl (fun r13 M12 => ?_)
        exact zx_iret (zd me_X12_block 31 rfl) rfl
      · refine zx_iconst (v := 0) (zd me_X12_block 26 rfl) (by decide) ?_
        refine zx_goto (tgt := 52) (zd me_X12_block 27 rfl) (by decide) ?_
        exact zx_iret (zd me_X12_block 31 rfl) rfl
    · refine zx_iconst (v := (-1)) (zd me_X12_block 11 rfl) (by decide) ?_
      exact zx_iret (zd me_X12_block 12 rfl) rfl
def mf_X12_partOf_b9 (R : zRR) (a0 : Nat) (i1 : Int32) (i2 : Int32) (s0 : Int32) (M : zMem) : Option (Int32 × zMem) :=
  zcl (mf_X12_common R i1 i2 M) fun r3 M2 =>
  zchk (¬ r3 = 0) <|
  some ((s0 / r3), M2)
theorem mt_X12_partOf_b9 {C : zCx} {ad : Nat → Nat} {T : zTT} {R : zRR} {a0 : Nat} (h0 : zi12 T R a0) (i1 : Int32) (i2 : Int32) (s0 : Int32) (M : zMem) : zX C mi_X12_partOf (zFin C zrvI ad T R) 0 0 (mf_X12_partOf_b9 R a0 i1 i2 s0 M) 9 [(1, .int i1), (2, .int i2)] [.int s0] ad T R M := by
  unfold mf_X12_partOf_b9
  refine zx_iload_n (i := 1) (zd me_X12_partOf 5 rfl) rfl 0 rfl ?_
  refine zx_iload_n (i := 2) (zd me_X12_partOf 6 rfl) rfl 1 rfl ?_
  refine zx_callSI2 (zd me_X12_partOf 7 rfl) (mc_X12_common (zl C) i1 i2 M) lk_X12_385 ⟨(Nat.le_of_ble_eq_true rfl), (Nat.le_of_ble_eq_true rfl)⟩ (Nat.le_of_ble_eq_true rfl) (fun r3 M2 => ?_)
  refine zx_idiv (zd me_X12_partOf 8 rfl) ?_
  exact zx_iret (zd me_X12_partOf 9 rfl) rfl
def mf_X12_partOf (R : zRR) (a0 : Nat) (i1 : Int32) (i2 : Int32) (i3 : Int32) (M : zMem) : Option (Int32 × zMem) :=
  if i3 = 0 then
    (mf_X12_partOf_b9 R a0 i1 i2 i1 M)
  else
    (mf_X12_partOf_b9 R a0 i1 i2 i2 M)
theorem mc_X12_partOf (l : Launch) {T : zTT} {R : zRR} {a0 : Nat} (h0 : zi12 T R a0) (i1 : Int32) (i2 : Int32) (i3 : Int32) (M : zMem) : zMS l yX12_partOf mi_X12_partOf zrvI (mf_X12_partOf R a0 i1 i2 i3 M) [.ref a0, .int i1, .int i2, .int i3] T R M := by
  refine zMS.of (by decide +kernel) rfl ⟨rfl, rfl⟩ (Nat.le_of_ble_eq_true rfl) (fun C ad _ => ?_)
  show zX C mi_X12_partOf (zFin C zrvI ad T R) 0 0 (mf_X12_partOf R a0 i1 i2 i3 M) 0 [(0, .ref a0), (1, .int i1), (2, .int i2), (3, .int i3)] [] ad T R M
  unfold mf_X12_partOf
  refine zx_iload_n (i := 3) (zd me_X12_partOf 0 rfl) rfl 3 rfl ?_
  refine zx_if_ne (tgt := 8) (zd me_X12_partOf 1 rfl) (by decide) (fun c1 => ?_) (fun c1 => ?_)
  · refine zx_iload_n (i := 2) (zd me_X12_partOf 4 rfl) rfl 2 rfl ?_
    refine zx_loc [1, 2] rfl ?_
    exact mt_X12_partOf_b9 h0 i1 i2 i2 M
  · refine zx_iload_n (i := 1) (zd me_X12_partOf 2 rfl) rfl 1 rfl ?_
    refine zx_goto (tgt := 9) (zd me_X12_partOf 3 rfl) (by decide) ?_
    refine zx_loc [1, 2] rfl ?_
    exact mt_X12_partOf_b9 h0 i1 i2 i1 M
def mf_X12_wear_b22 (R : zRR) (a0 : Nat) (M : zMem) : Option (Int32 × zMem) :=
  zcl (mf_X12_refuse R a0 M) fun r13 M12 =>
  some (r13, M12)
theorem mt_X12_wear_b22 {C : zCx} {ad : Nat → Nat} {T : zTT} {R : zRR} {a0 : Nat} (h0 : zi12 T R a0) (M : zMem) : zX C mi_X12_wear (zFin C zrvI ad T R) 0 0 (mf_X12_wear_b22 R a0 M) 22 [(0, .ref a0)] [] ad T R M := by
  unfold mf_X12_wear_b22
  refine zx_aload_n (i := 0) (zd me_X12_wear 12 rfl) rfl 0 rfl ?_
  refine zx_callVI0 (zd me_X12_wear 13 rfl) (mc_X12_refuse (zl C) h0 M) lk_X12_264 ⟨(Nat.le_of_ble_eq_true rfl), (Nat.le_of_ble_eq_true rfl)⟩ (Nat.le_of_ble_eq_true rfl) (zi12_c h0) rfl (fun r13 M12 => ?_)
  exact zx_iret (zd me_X12_wear 14 rfl) rfl
def mf_X12_wear (R : zRR) (a0 : Nat) (i1 : Int32) (i2 : Int32) (M : zMem) : Option (Int32 × zMem) :=
  zlet (zwI M a0 0 (0 : Int32)) fun M1 =>
  zcl (mf_X12_isBath R a0 i1 M1) fun r3 M2 =>
  if r3 = 0 then
    (mf_X12_wear_b22 R a0 M2)
  else
    (zcl (mf_X12_isIn R i2 (0 : Int32) (1 : Int32) M2) fun r6 M5 =>
    if r6 = 0 then
      (mf_X12_wear_b22 R a0 M5)
    else
      (zald 354 ((58 : Int32) + i1) fun j8 =>
      zald 354 ((12 : Int32) + i1) fun j9 =>
      zcl (mf_X12_partOf R a0 (M5.1 (zrf R a0 14) j8) (M5.1 (zrf R a0 14) j9) i2 M5) fun r11 M10 =>
      some (r11, M10)))
theorem mc_X12_wear (l : Launch) {T : zTT} {R : zRR} {a0 : Nat} (h0 : zi12 T R a0) (i1 : Int32) (i2 : Int32) (M : zMem) : zMS l yX12_wear mi_X12_wear zrvI (mf_X12_wear R a0 i1 i2 M) [.ref a0, .int i1, .int i2] T R M := by
  refine zMS.of (by decide +kernel) rfl ⟨rfl, rfl⟩ (Nat.le_of_ble_eq_true rfl) (fun C ad _ => ?_)
  show zX C mi_X12_wear (zFin C zrvI ad T R) 0 0 (mf_X12_wear R a0 i1 i2 M) 0 [(0, .ref a0), (1, .int i1), (2, .int i2)] [] ad T R M
  unfold mf_X12_wear
  refine zx_aload_n (i := 0) (zd me_X12_wear 0 rfl) rfl 0 rfl ?_
  refine zx_iconst (v := 0) (zd me_X12_wear 1 rfl) (by decide) ?_
  refine zx_putI (zd me_X12_wear 2 rfl) fp_X12_1 (zi12_c h0) rfl (fun M1 _ => ?_)
  refine zx_aload_n (i := 0) (zd me_X12_wear 3 rfl) rfl 0 rfl ?_
  refine zx_iload_n (i := 1) (zd me_X12_wear 4 rfl) rfl 1 rfl ?_
  refine zx_callVI1 (zd me_X12_wear 5 rfl) (mc_X12_isBath (zl C) h0 i1 M1) lk_X12_249 ⟨(Nat.le_of_ble_eq_true rfl), (Nat.le_of_ble_eq_true rfl)⟩ (Nat.le_of_ble_eq_true rfl) (zi12_c h0) rfl (fun r3 M2 => ?_)
  refine zx_if_eq (tgt := 22) (zd me_X12_wear 6 rfl) (by decide) (fun c4 => ?_) (fun c4 => ?_)
  · refine zx_loc [0] rfl ?_
    exact mt_X12_wear_b22 h0 M2
  · refine zx_iload_n (i := 2) (zd me_X12_wear 7 rfl) rfl 2 rfl ?_
    refine zx_iconst (v := 0) (zd me_X12_wear 8 rfl) (by decide) ?_
    refine zx_iconst (v := 1) (zd me_X12_wear 9 rfl) (by decide) ?_
    refine zx_callSI3 (zd me_X12_wear 10 rfl) (mc_X12_isIn (zl C) i2 (0 : Int32) (1 : Int32) M2) lk_X12_75 ⟨(Nat.le_of_ble_eq_true rfl), (Nat.le_of_ble_eq_true rfl)⟩ (Nat.le_of_ble_eq_true rfl) (fun r6 M5 => ?_)
    refine zx_if_ne (tgt := 27) (zd me_X12_wear 11 rfl) (by decide) (fun c7 => ?_) (fun c7 => ?_)
    · refine zx_aload_n (i := 0) (zd me_X12_wear 15 rfl) rfl 0 rfl ?_
      refine zx_aload_n (i := 0) (zd me_X12_wear 16 rfl) rfl 0 rfl ?_
      refine zx_getR (zd me_X12_wear 17 rfl) fl_X12_98 (zi12_c h0) rfl (zi12_r14 h0) ?_
      refine zx_bipush (v := 58) (zd me_X12_wear 18 rfl) (by decide) ?_
      refine zx_iload_n (i := 1) (zd me_X12_wear 19 rfl) rfl 1 rfl ?_
      refine zx_iadd (zd me_X12_wear 20 rfl) ?_
      refine zx_iald (zd me_X12_wear 21 rfl) (zi12_t14 h0) (fun j8 hj8 => ?_)
      refine zx_aload_n (i := 0) (zd me_X12_wear 22 rfl) rfl 0 rfl ?_
      refine zx_getR (zd me_X12_wear 23 rfl) fl_X12_98 (zi12_c h0) rfl (zi12_r14 h0) ?_
      refine zx_bipush (v := 12) (zd me_X12_wear 24 rfl) (by decide) ?_
      refine zx_iload_n (i := 1) (zd me_X12_wear 25 rfl) rfl 1 rfl ?_
      refine zx_iadd (zd me_X12_wear 26 rfl) ?_
      refine zx_iald (zd me_X12_wear 27 rfl) (zi12_t14 h0) (fun j9 hj9 => ?_)
      refine zx_iload_n (i := 2) (zd me_X12_wear 28 rfl) rfl 2 rfl ?_
      refine zx_callVI3 (zd me_X12_wear 29 rfl) (mc_X12_partOf (zl C) h0 (M5.1 (zrf R a0 14) j8) (M5.1 (zrf R a0 14) j9) i2 M5) lk_X12_388 ⟨(Nat.le_of_ble_eq_true rfl), (Nat.le_of_ble_eq_true rfl)⟩ (Nat.le_of_ble_eq_true rfl) (zi12_c h0) rfl (fun r11 M10 => ?_)
      exact zx_iret (zd me_X12_wear 30 rfl) rfl
    · refine zx_loc [0] rfl ?_
      exact mt_X12_wear_b22 h0 M5
def mf_X12_mean_b25 (R : zRR) (a0 : Nat) (M : zMem) : Option (Int32 × zMem) :=
  zcl (mf_X12_refuse R a0 M) fun r9 M8 =>
  some (r9, M8)
theorem mt_X12_mean_b25 {C : zCx} {ad : Nat → Nat} {T : zTT} {R : zRR} {a0 : Nat} (h0 : zi12 T R a0) (M : zMem) : zX C mi_X12_mean (zFin C zrvI ad T R) 0 0 (mf_X12_mean_b25 R a0 M) 25 [(0, .ref a0)] [] ad T R M := by
  unfold mf_X12_mean_b25
  refine zx_aload_n (i := 0) (zd me_X12_mean 15 rfl) rfl 0 rfl ?_
  refine zx_callVI0 (zd me_X12_mean 16 rfl) (mc_X12_refuse (zl C) h0 M) lk_X12_264 ⟨(Nat.le_of_ble_eq_true rfl), (Nat.le_of_ble_eq_true rfl)⟩ (Nat.le_of_ble_eq_true rfl) (zi12_c h0) rfl (fun r9 M8 => ?_)
  exact zx_iret (zd me_X12_mean 17 rfl) rfl
def mf_X12_mean_l35 (R : zRR) (a0 : Nat) : Nat → Int32 → Int32 → Int32 → Int32 → zMem → Option (Int32 × zMem)
  | 0, _, _, _, _, _ => none
  | fuel + 1, i1, i2, i3, i4, M =>
    if i2 ≤ i4 then
      (zcl (mf_X12_partOf R a0 i3 i2 i1 M) fun r12 M11 =>
      some (r12, M11))
    else
      (zald 354 ((96 : Int32) + i4) fun j13 =>
      zlet ((i3 + (M.1 (zrf R a0 14) j13)) : Int32) fun x14 =>
      mf_X12_mean_l35 R a0 fuel i1 i2 x14 (i4 + 1) M)
theorem mt_X12_mean_l35 {C : zCx} {ad : Nat → Nat} {T : zTT} {R : zRR} {a0 : Nat} (h0 : zi12 T R a0) : ∀ (fuel : Nat) (i1 : Int32) (i2 : Int32) (i3 : Int32) (i4 : Int32) (M : zMem), zX C mi_X12_mean (zFin C zrvI ad T R) 0 0 (mf_X12_mean_l35 R a0 fuel i1 i2 i3 i4 M) 35 [(0, .ref a0), (1, .int i1), (2, .int i2), (3, .int i3), (4, .int i4)] [] ad T R M := by
  intro fuel
  induction fuel with
  | zero => intros; exact zx_none
  | succ fuel ih =>
    intro i1 i2 i3 i4 M
    rw [mf_X12_mean_l35]
    refine zx_iload (zd me_X12_mean 22 rfl) 4 rfl ?_
    refine zx_iload_n (i := 2) (zd me_X12_mean 23 rfl) rfl 2 rfl ?_
    refine zx_icmp_ge (tgt := 60) (zd me_X12_mean 24 rfl) (by decide) (fun c10 => ?_) (fun c10 => ?_)
    · refine zx_aload_n (i := 0) (zd me_X12_mean 36 rfl) rfl 0 rfl ?_
      refine zx_iload_n (i := 3) (zd me_X12_mean 37 rfl) rfl 3 rfl ?_
      refine zx_iload_n (i := 2) (zd me_X12_mean 38 rfl) rfl 2 rfl ?_
      refine zx_iload_n (i := 1) (zd me_X12_mean 39 rfl) rfl 1 rfl ?_
      refine zx_callVI3 (zd me_X12_mean 40 rfl) (mc_X12_partOf (zl C) h0 i3 i2 i1 M) lk_X12_388 ⟨(Nat.le_of_ble_eq_true rfl), (Nat.le_of_ble_eq_true rfl)⟩ (Nat.le_of_ble_eq_true rfl) (zi12_c h0) rfl (fun r12 M11 => ?_)
      exact zx_iret (zd me_X12_mean 41 rfl) rfl
    · refine zx_iload_n (i := 3) (zd me_X12_mean 25 rfl) rfl 3 rfl ?_
      refine zx_aload_n (i := 0) (zd me_X12_mean 26 rfl) rfl 0 rfl ?_
      refine zx_getR (zd me_X12_mean 27 rfl) fl_X12_98 (zi12_c h0) rfl (zi12_r14 h0) ?_
      refine zx_bipush (v := 96) (zd me_X12_mean 28 rfl) (by decide) ?_
      refine zx_iload (zd me_X12_mean 29 rfl) 4 rfl ?_
      refine zx_iadd (zd me_X12_mean 30 rfl) ?_
      refine zx_iald (zd me_X12_mean 31 rfl) (zi12_t14 h0) (fun j13 hj13 => ?_)
      refine zx_iadd (zd me_X12_mean 32 rfl) ?_
      refine zx_leti (fun x14 => ?_)
      refine zx_istore_n (i := 3) (ls' := [(3, .int x14), (0, .ref a0), (1, .int i1), (2, .int i2), (4, .int i4)]) (zd me_X12_mean 33 rfl) rfl (Nat.le_of_ble_eq_true rfl) rfl ?_
      refine zx_iinc (v := 1) (ls' := [(4, .int (i4 + 1)), (3, .int x14), (0, .ref a0), (1, .int i1), (2, .int i2)]) (zd me_X12_mean 34 rfl) (Nat.le_of_ble_eq_true rfl) 4 rfl (by decide) rfl ?_
      refine zx_goto (tgt := 35) (zd me_X12_mean 35 rfl) (by decide) ?_
      refine zx_loc [2, 3, 4, 1, 0] rfl ?_
      exact ih i1 i2 x14 (i4 + 1) M
def mf_X12_mean (R : zRR) (a0 : Nat) (i1 : Int32) (M : zMem) : Option (Int32 × zMem) :=
  zlet (zwI M a0 0 (0 : Int32)) fun M1 =>
  zald 354 (2 : Int32) fun j2 =>
  zlet ((M1.1 (zrf R a0 14) j2) : Int32) fun x3 =>
  if x3 = 0 then
    (mf_X12_mean_b25 R a0 M1)
  else
    (zcl (mf_X12_isIn R i1 (0 : Int32) (1 : Int32) M1) fun r6 M5 =>
    if r6 = 0 then
      (mf_X12_mean_b25 R a0 M5)
    else
      (mf_X12_mean_l35 R a0 zF i1 x3 (0 : Int32) (0 : Int32) M5))
theorem mc_X12_mean (l : Launch) {T : zTT} {R : zRR} {a0 : Nat} (h0 : zi12 T R a0) (i1 : Int32) (M : zMem) : zMS l yX12_mean mi_X12_mean zrvI (mf_X12_mean R a0 i1 M) [.ref a0, .int i1] T R M := by
  refine zMS.of (by decide +kernel) rfl ⟨rfl, rfl⟩ (Nat.le_of_ble_eq_true rfl) (fun C ad _ => ?_)
  show zX C mi_X12_mean (zFin C zrvI ad T R) 0 0 (mf_X12_mean R a0 i1 M) 0 [(0, .ref a0), (1, .int i1)] [] ad T R M
  unfold mf_X12_mean
  refine zx_aload_n (i := 0) (zd me_X12_mean 0 rfl) rfl 0 rfl ?_
  refine zx_iconst (v := 0) (zd me_X12_mean 1 rfl) (by decide) ?_
  refine zx_putI (zd me_X12_mean 2 rfl) fp_X12_1 (zi12_c h0) rfl (fun M1 _ => ?_)
  refine zx_aload_n (i := 0) (zd me_X12_mean 3 rfl) rfl 0 rfl ?_
  refine zx_getR (zd me_X12_mean 4 rfl) fl_X12_98 (zi12_c h0) rfl (zi12_r14 h0) ?_
  refine zx_iconst (v := 2) (zd me_X12_mean 5 rfl) (by decide) ?_
  refine zx_iald (zd me_X12_mean 6 rfl) (zi12_t14 h0) (fun j2 hj2 => ?_)
  refine zx_leti (fun x3 => ?_)
  refine zx_istore_n (i := 2) (ls' := [(2, .int x3), (0, .ref a0), (1, .int i1)]) (zd me_X12_mean 7 rfl) rfl (Nat.le_of_ble_eq_true rfl) rfl ?_
  refine zx_iload_n (i := 2) (zd me_X12_mean 8 rfl) rfl 0 rfl ?_
  refine zx_if_eq (tgt := 25) (zd me_X12_mean 9 rfl) (by decide) (fun c4 => ?_) (fun c4 => ?_)
  · refine zx_loc [1] rfl ?_
    exact mt_X12_mean_b25 h0 M1
  · refine zx_iload_n (i := 1) (zd me_X12_mean 10 rfl) rfl 2 rfl ?_
    refine zx_iconst (v := 0) (zd me_X12_mean 11 rfl) (by decide) ?_
    refine zx_iconst (v := 1) (zd me_X12_mean 12 rfl) (by decide) ?_
    refine zx_callSI3 (zd me_X12_mean 13 rfl) (mc_X12_isIn (zl C) i1 (0 : Int32) (1 : Int32) M1) lk_X12_75 ⟨(Nat.le_of_ble_eq_true rfl), (Nat.le_of_ble_eq_true rfl)⟩ (Nat.le_of_ble_eq_true rfl) (fun r6 M5 => ?_)
    refine zx_if_ne (tgt := 30) (zd me_X12_mean 14 rfl) (by decide) (fun c7 => ?_) (fun c7 => ?_)
    · refine zx_iconst (v := 0) (zd me_X12_mean 18 rfl) (by decide) ?_
      refine zx_istore_n (i := 3) (ls' := [(3, .int (0 : Int32)), (2, .int x3), (0, .ref a0), (1, .int i1)]) (zd me_X12_mean 19 rfl) rfl (Nat.le_of_ble_eq_true rfl) rfl ?_
      refine zx_iconst (v := 0) (zd me_X12_mean 20 rfl) (by decide) ?_
      refine zx_istore (ls' := [(4, .int (0 : Int32)), (3, .int (0 : Int32)), (2, .int x3), (0, .ref a0), (1, .int i1)]) (zd me_X12_mean 21 rfl) (Nat.le_of_ble_eq_true rfl) rfl ?_
      refine zx_loc [3, 4, 2, 1, 0] rfl ?_
      exact mt_X12_mean_l35 h0 zF i1 x3 (0 : Int32) (0 : Int32) M5
    · refine zx_loc [1] rfl ?_
      exact mt_X12_mean_b25 h0 M5
def mf_X12_often_b51 (R : zRR) (a0 : Nat) (H9 : Int32 → Int32 → zMem → Option (Int32 × zMem)) (i1 : Int32) (i2 : Int32) (M : zMem) : Option (Int32 × zMem) :=
  H9 i1 (i2 + 1) M
theorem mt_X12_often_b51 {C : zCx} {ad : Nat → Nat} {T : zTT} {R : zRR} {a0 : Nat} (h0 : zi12 T R a0) {H9 : Int32 → Int32 → zMem → Option (Int32 × zMem)} (hH9 : ∀ (i1 : Int32) (i2 : Int32) (M : zMem), zX C mi_X12_often (zFin C zrvI ad T R) 0 0 (H9 i1 i2 M) 9 [(0, .ref a0), (1, .int i1), (2, .int i2)] [] ad T R M) (i1 : Int32) (i2 : Int32) (M : zMem) : zX C mi_X12_often (zFin C zrvI ad T R) 0 0 (mf_X12_often_b51 R a0 H9 i1 i2 M) 51 [(0, .ref a0), (1, .int i1), (2, .int i2)] [] ad T R M := by
  unfold mf_X12_often_b51
  refine zx_iinc (v := 1) (ls' := [(2, .int (i2 + 1)), (0, .ref a0), (1, .int i1)]) (zd me_X12_often 33 rfl) (Nat.le_of_ble_eq_true rfl) 2 rfl (by decide) rfl ?_
  refine zx_goto (tgt := 9) (zd me_X12_often 34 rfl) (by decide) ?_
  refine zx_loc [1, 2, 0] rfl ?_
  exact hH9 i1 (i2 + 1) M
def mf_X12_often_b46 (R : zRR) (a0 : Nat) (H9 : Int32 → Int32 → zMem → Option (Int32 × zMem)) (i1 : Int32) (i2 : Int32) (s0 : Int32) (s1 : Int32) (M : zMem) : Option (Int32 × zMem) :=
  if s1 ≤ s0 then
    (mf_X12_often_b51 R a0 H9 i1 i2 M)
  else
    (mf_X12_often_b51 R a0 H9 i2 i2 M)
theorem mt_X12_often_b46 {C : zCx} {ad : Nat → Nat} {T : zTT} {R : zRR} {a0 : Nat} (h0 : zi12 T R a0) {H9 : Int32 → Int32 → zMem → Option (Int32 × zMem)} (hH9 : ∀ (i1 : Int32) (i2 : Int32) (M : zMem), zX C mi_X12_often (zFin C zrvI ad T R) 0 0 (H9 i1 i2 M) 9 [(0, .ref a0), (1, .int i1), (2, .int i2)] [] ad T R M) (i1 : Int32) (i2 : Int32) (s0 : Int32) (s1 : Int32) (M : zMem) : zX C mi_X12_often (zFin C zrvI ad T R) 0 0 (mf_X12_often_b46 R a0 H9 i1 i2 s0 s1 M) 46 [(0, .ref a0), (1, .int i1), (2, .int i2)] [.int s0, .int s1] ad T R M := by
  unfold mf_X12_often_b46
  refine zx_icmp_le (tgt := 51) (zd me_X12_often 30 rfl) (by decide) (fun c7 => ?_) (fun c7 => ?_)
  · exact mt_X12_often_b51 h0 hH9 i1 i2 M
  · refine zx_iload_n (i := 2) (zd me_X12_often 31 rfl) rfl 2 rfl ?_
    refine zx_istore_n (i := 1) (ls' := [(1, .int i2), (0, .ref a0), (2, .int i2)]) (zd me_X12_often 32 rfl) rfl (Nat.le_of_ble_eq_true rfl) rfl ?_
    refine zx_loc [1, 0, 2] rfl ?_
    exact mt_X12_often_b51 h0 hH9 i2 i2 M
def mf_X12_often_l9 (R : zRR) (a0 : Nat) : Nat → Int32 → Int32 → zMem → Option (Int32 × zMem)
  | 0, _, _, _ => none
  | fuel + 1, i1, i2, M =>
    zald 354 (2 : Int32) fun j2 =>
    if (M.1 (zrf R a0 14) j2) ≤ i2 then
      (some (i1, M))
    else
      (zald 354 ((104 : Int32) + i2) fun j4 =>
      if i1 = (-1 : Int32) then
        (mf_X12_often_b46 R a0 (mf_X12_often_l9 R a0 fuel) i1 i2 (0 : Int32) (M.1 (zrf R a0 14) j4) M)
      else
        (zald 354 ((104 : Int32) + i1) fun j6 =>
        mf_X12_often_b46 R a0 (mf_X12_often_l9 R a0 fuel) i1 i2 (M.1 (zrf R a0 14) j6) (M.1 (zrf R a0 14) j4) M))
theorem mt_X12_often_l9 {C : zCx} {ad : Nat → Nat} {T : zTT} {R : zRR} {a0 : Nat} (h0 : zi12 T R a0) : ∀ (fuel : Nat) (i1 : Int32) (i2 : Int32) (M : zMem), zX C mi_X12_often (zFin C zrvI ad T R) 0 0 (mf_X12_often_l9 R a0 fuel i1 i2 M) 9 [(0, .ref a0), (1, .int i1), (2, .int i2)] [] ad T R M := by
  intro fuel
  induction fuel with
  | zero => intros; exact zx_none
  | succ fuel ih =>
    intro i1 i2 M
    rw [mf_X12_often_l9]
    refine zx_iload_n (i := 2) (zd me_X12_often 7 rfl) rfl 2 rfl ?_
    refine zx_aload_n (i := 0) (zd me_X12_often 8 rfl) rfl 0 rfl ?_
    refine zx_getR (zd me_X12_often 9 rfl) fl_X12_98 (zi12_c h0) rfl (zi12_r14 h0) ?_
    refine zx_iconst (v := 2) (zd me_X12_often 10 rfl) (by decide) ?_
    refine zx_iald (zd me_X12_often 11 rfl) (zi12_t14 h0) (fun j2 hj2 => ?_)
    refine zx_icmp_ge (tgt := 57) (zd me_X12_often 12 rfl) (by decide) (fun c3 => ?_) (fun c3 => ?_)
    · refine zx_iload_n (i := 1) (zd me_X12_often 35 rfl) rfl 1 rfl ?_
      exact zx_iret (zd me_X12_often 36 rfl) rfl
    · refine zx_aload_n (i := 0) (zd me_X12_often 13 rfl) rfl 0 rfl ?_
      refine zx_getR (zd me_X12_often 14 rfl) fl_X12_98 (zi12_c h0) rfl (zi12_r14 h0) ?_
      refine zx_bipush (v := 104) (zd me_X12_often 15 rfl) (by decide) ?_
      refine zx_iload_n (i := 2) (zd me_X12_often 16 rfl) rfl 2 rfl ?_
      refine zx_iadd (zd me_X12_often 17 rfl) ?_
      refine zx_iald (zd me_X12_often 18 rfl) (zi12_t14 h0) (fun j4 hj4 => ?_)
      refine zx_iload_n (i := 1) (zd me_X12_often 19 rfl) rfl 1 rfl ?_
      refine zx_iconst (v := (-1)) (zd me_X12_often 20 rfl) (by decide) ?_
      refine zx_icmp_ne (tgt := 37) (zd me_X12_often 21 rfl) (by decide) (fun c5 => ?_) (fun c5 => ?_)
      · refine zx_aload_n (i := 0) (zd me_X12_often 24 rfl) rfl 0 rfl ?_
        refine zx_getR (zd me_X12_often 25 rfl) fl_X12_98 (zi12_c h0) rfl (zi12_r14 h0) ?_
        refine zx_bipush (v := 104) (zd me_X12_often 26 rfl) (by decide) ?_
        refine zx_iload_n (i := 1) (zd me_X12_often 27 rfl) rfl 1 rfl ?_
        refine zx_iadd (zd me_X12_often 28 rfl) ?_
        refine zx_iald (zd me_X12_often 29 rfl) (zi12_t14 h0) (fun j6 hj6 => ?_)
        exact mt_X12_often_b46 h0 ih i1 i2 (M.1 (zrf R a0 14) j6) (M.1 (zrf R a0 14) j4) M
      · refine zx_iconst (v := 0) (zd me_X12_often 22 rfl) (by decide) ?_
        refine zx_goto (tgt := 46) (zd me_X12_often 23 rfl) (by decide) ?_
        exact mt_X12_often_b46 h0 ih i1 i2 (0 : Int32) (M.1 (zrf R a0 14) j4) M
def mf_X12_often (R : zRR) (a0 : Nat) (M : zMem) : Option (Int32 × zMem) :=
  zlet (zwI M a0 0 (0 : Int32)) fun M1 =>
  mf_X12_often_l9 R a0 zF (-1 : Int32) (0 : Int32) M1
theorem mc_X12_often (l : Launch) {T : zTT} {R : zRR} {a0 : Nat} (h0 : zi12 T R a0) (M : zMem) : zMS l yX12_often mi_X12_often zrvI (mf_X12_often R a0 M) [.ref a0] T R M := by
  refine zMS.of (by decide +kernel) rfl ⟨rfl, rfl⟩ (Nat.le_of_ble_eq_true rfl) (fun C ad _ => ?_)
  show zX C mi_X12_often (zFin C zrvI ad T R) 0 0 (mf_X12_often R a0 M) 0 [(0, .ref a0)] [] ad T R M
  unfold mf_X12_often
  refine zx_aload_n (i := 0) (zd me_X12_often 0 rfl) rfl 0 rfl ?_
  refine zx_iconst (v := 0) (zd me_X12_often 1 rfl) (by decide) ?_
  refine zx_putI (zd me_X12_often 2 rfl) fp_X12_1 (zi12_c h0) rfl (fun M1 _ => ?_)
  refine zx_iconst (v := (-1)) (zd me_X12_often 3 rfl) (by decide) ?_
  refine zx_istore_n (i := 1) (ls' := [(1, .int (-1 : Int32)), (0, .ref a0)]) (zd me_X12_often 4 rfl) rfl (Nat.le_of_ble_eq_true rfl) rfl ?_
  refine zx_iconst (v := 0) (zd me_X12_often 5 rfl) (by decide) ?_
  refine zx_istore_n (i := 2) (ls' := [(2, .int (0 : Int32)), (1, .int (-1 : Int32)), (0, .ref a0)]) (zd me_X12_often 6 rfl) rfl (Nat.le_of_ble_eq_true rfl) rfl ?_
  refine zx_loc [2, 1, 0] rfl ?_
  exact mt_X12_often_l9 h0 zF (-1 : Int32) (0 : Int32) M1
def mf_X12_write (R : zRR) (a0 : Nat) (i1 : Int32) (M : zMem) : Option (Unit × zMem) :=
  zald 48 (M.1 a0 41) fun j1 =>
  zlet (zwI M (zrf R a0 40) j1 i1) fun M2 =>
  zlet (zwI M2 a0 41 ((M2.1 a0 41) + (1 : Int32))) fun M3 =>
  some ((), M3)
theorem mc_X12_write (l : Launch) {T : zTT} {R : zRR} {a0 : Nat} (h0 : zi12 T R a0) (i1 : Int32) (M : zMem) : zMS l yX12_write mi_X12_write zrvV (mf_X12_write R a0 i1 M) [.ref a0, .int i1] T R M := by
  refine zMS.of (by decide +kernel) rfl ⟨rfl, rfl⟩ (Nat.le_of_ble_eq_true rfl) (fun C ad _ => ?_)
  show zX C mi_X12_write (zFin C zrvV ad T R) 0 0 (mf_X12_write R a0 i1 M) 0 [(0, .ref a0), (1, .int i1)] [] ad T R M
  unfold mf_X12_write
  refine zx_aload_n (i := 0) (zd me_X12_write 0 rfl) rfl 0 rfl ?_
  refine zx_getR (zd me_X12_write 1 rfl) fl_X12_160 (zi12_c h0) rfl (zi12_r40 h0) ?_
  refine zx_aload_n (i := 0) (zd me_X12_write 2 rfl) rfl 0 rfl ?_
  refine zx_getI (zd me_X12_write 3 rfl) fl_X12_392 (zi12_c h0) rfl ?_
  refine zx_iload_n (i := 1) (zd me_X12_write 4 rfl) rfl 1 rfl ?_
  refine zx_iast (zd me_X12_write 5 rfl) (zi12_t40 h0) (fun M2 => ?_)
  refine zx_aload_n (i := 0) (zd me_X12_write 6 rfl) rfl 0 rfl ?_
  refine zx_dup (zd me_X12_write 7 rfl) rfl ?_
  refine zx_getI (zd me_X12_write 8 rfl) fl_X12_392 (zi12_c h0) rfl ?_
  refine zx_iconst (v := 1) (zd me_X12_write 9 rfl) (by decide) ?_
  refine zx_iadd (zd me_X12_write 10 rfl) ?_
  refine zx_putI (zd me_X12_write 11 rfl) fp_X12_392 (zi12_c h0) rfl (fun M3 _ => ?_)
  exact zx_vret (zd me_X12_write 12 rfl) rfl
def mf_X12_writeWord_b17 (R : zRR) (F_writeWord : zRR → Nat → Int64 → zMem → Option (Unit × zMem)) (a0 : Nat) (l1 : Int64) (M : zMem) : Option (Unit × zMem) :=
  zcl (mf_X12_write R a0 ((96 : Int32) + (l1 - l1 / (27 : Int64) * (27 : Int64)).toInt32) M) fun _ M4 =>
  some ((), M4)
theorem mt_X12_writeWord_b17 {d : Nat} {C : zCx} {ad : Nat → Nat} {T : zTT} {R : zRR} {F_writeWord : zRR → Nat → Int64 → zMem → Option (Unit × zMem)} {a0 : Nat} (hF_writeWord : ∀ (l : Launch) {a0 : Nat} (h0 : zi12 T R a0) (l1 : Int64) (M : zMem), zMS l yX12_writeWord (mi_X12_writeWord d) zrvV (F_writeWord R a0 l1 M) [.ref a0, .long l1] T R M) (h0 : zi12 T R a0) (l1 : Int64) (M : zMem) : zX C (mi_X12_writeWord (d + 1)) (zFin C zrvV ad T R) 0 0 (mf_X12_writeWord_b17 R F_writeWord a0 l1 M) 17 [(0, .ref a0), (1, .long l1)] [] ad T R M := by
  unfold mf_X12_writeWord_b17
  refine zx_aload_n (i := 0) (zd me_X12_writeWord 9 rfl) rfl 0 rfl ?_
  refine zx_bipush (v := 96) (zd me_X12_writeWord 10 rfl) (by decide) ?_
  refine zx_lload_n (i := 1) (zd me_X12_writeWord 11 rfl) rfl 1 rfl ?_
  refine zx_ldc2 (v := 27) (zd me_X12_writeWord 12 rfl) (zt7 32 rfl rfl) ?_
  refine zx_lremN (zd me_X12_writeWord 13 rfl) (by decide) ?_
  refine zx_l2i (zd me_X12_writeWord 14 rfl) ?_
  refine zx_iadd (zd me_X12_writeWord 15 rfl) ?_
  refine zx_callVV1 (zd me_X12_writeWord 16 rfl) (mc_X12_write (zl C) h0 ((96 : Int32) + (l1 - l1 / (27 : Int64) * (27 : Int64)).toInt32) M) lk_X12_399 ⟨Nat.le_trans (m := 2) (Nat.le_of_ble_eq_true rfl) (Nat.le_add_right 2 _), Nat.le_trans (m := 51) (Nat.le_of_ble_eq_true rfl) (Nat.le_add_right 51 _)⟩ (Nat.le_of_ble_eq_true rfl) (zi12_c h0) rfl (fun r5 M4 => ?_)
  exact zx_vret (zd me_X12_writeWord 17 rfl) rfl
def mf_X12_writeWord (R : zRR) (F_writeWord : zRR → Nat → Int64 → zMem → Option (Unit × zMem)) (a0 : Nat) (l1 : Int64) (M : zMem) : Option (Unit × zMem) :=
  if (lg_cmp l1 (27 : Int64)) < 0 then
    (mf_X12_writeWord_b17 R F_writeWord a0 l1 M)
  else
    (zcl (F_writeWord R a0 (l1 / (27 : Int64)) M) fun _ M2 =>
    mf_X12_writeWord_b17 R F_writeWord a0 l1 M2)
theorem mm_X12_writeWord {d : Nat} (l : Launch) {T : zTT} {R : zRR} {F_writeWord : zRR → Nat → Int64 → zMem → Option (Unit × zMem)} {a0 : Nat} (hF_writeWord : ∀ (l : Launch) {a0 : Nat} (h0 : zi12 T R a0) (l1 : Int64) (M : zMem), zMS l yX12_writeWord (mi_X12_writeWord d) zrvV (F_writeWord R a0 l1 M) [.ref a0, .long l1] T R M) (h0 : zi12 T R a0) (l1 : Int64) (M : zMem) : zMS l yX12_writeWord (mi_X12_writeWord (d + 1)) zrvV (mf_X12_writeWord R F_writeWord a0 l1 M) [.ref a0, .long l1] T R M := by
  refine zMS.of (by decide +kernel) rfl ⟨rfl, rfl⟩ (Nat.le_of_ble_eq_true rfl) (fun C ad _ => ?_)
  show zX C (mi_X12_writeWord (d + 1)) (zFin C zrvV ad T R) 0 0 (mf_X12_writeWord R F_writeWord a0 l1 M) 0 [(0, .ref a0), (1, .long l1)] [] ad T R M
  unfold mf_X12_writeWord
  refine zx_lload_n (i := 1) (zd me_X12_writeWord 0 rfl) rfl 1 rfl ?_
  refine zx_ldc2 (v := 27) (zd me_X12_writeWord 1 rfl) (zt7 32 rfl rfl) ?_
  refine zx_lcmp (zd me_X12_writeWord 2 rfl) ?_
  refine zx_if_lt (tgt := 17) (zd me_X12_writeWord 3 rfl) (by decide) (fun c1 => ?_) (fun c1 => ?_)
  · exact mt_X12_writeWord_b17 hF_writeWord h0 l1 M
  · refine zx_aload_n (i := 0) (zd me_X12_writeWord 4 rfl) rfl 0 rfl ?_
    refine zx_lload_n (i := 1) (zd me_X12_writeWord 5 rfl) rfl 1 rfl ?_
    refine zx_ldc2 (v := 27) (zd me_X12_writeWord 6 rfl) (zt7 32 rfl rfl) ?_
    refine zx_ldivN (zd me_X12_writeWord 7 rfl) (by decide) ?_
    refine zx_callVV1 (zd me_X12_writeWord 8 rfl) (hF_writeWord (zl C) h0 (l1 / (27 : Int64)) M) (lk_X12_395 d) ⟨Nat.le_refl _, by show 8 + (3 + 11) + (51 + 22 * d) ≤ 51 + 22 * (d + 1); omega⟩ (Nat.le_of_ble_eq_true rfl) (zi12_c h0) rfl (fun r3 M2 => ?_)
    exact mt_X12_writeWord_b17 hF_writeWord h0 l1 M2
def mg_X12d : Nat → (zRR → Nat → Int64 → zMem → Option (Unit × zMem))
  | 0 => fun _ _ _ _ => none
  | d + 1 => fun R => mf_X12_writeWord R (mg_X12d d)
def mr_X12_writeWord (d : Nat) : zRR → Nat → Int64 → zMem → Option (Unit × zMem) := (mg_X12d d)
theorem mgc_X12d : ∀ d : Nat, (∀ (l : Launch) {T : zTT} {R : zRR} {a0 : Nat} (h0 : zi12 T R a0) (l1 : Int64) (M : zMem), zMS l yX12_writeWord (mi_X12_writeWord (d)) zrvV (mr_X12_writeWord (d) R a0 l1 M) [.ref a0, .long l1] T R M) := by
  intro d
  induction d with
  | zero => exact (by intros; intro r M1 h; cases (show (none : Option (Unit × zMem)) = some (r, M1) from h))
  | succ d ih =>
    have q0 := ih
    exact fun l {T} {R} {a0} h0 l1 M => mm_X12_writeWord l (T := T) (R := R) (fun l {a0} h0 l1 M => q0 l h0 l1 M) h0 l1 M
theorem mc_X12_writeWord (l : Launch) {T : zTT} {R : zRR} {a0 : Nat} (h0 : zi12 T R a0) (l1 : Int64) (M : zMem) : zMS l yX12_writeWord (mi_X12_writeWord zD) zrvV (mr_X12_writeWord zD R a0 l1 M) [.ref a0, .long l1] T R M := (mgc_X12d zD) l h0 l1 M
def mf_X12_writeNext (R : zRR) (a0 : Nat) (l1 : Int64) (M : zMem) : Option (Unit × zMem) :=
  zcl (mf_X12_write R a0 (32 : Int32) M) fun _ M1 =>
  zcl (mr_X12_writeWord zD R a0 l1 M1) fun _ M3 =>
  some ((), M3)
theorem mc_X12_writeNext (l : Launch) {T : zTT} {R : zRR} {a0 : Nat} (h0 : zi12 T R a0) (l1 : Int64) (M : zMem) : zMS l yX12_writeNext mi_X12_writeNext zrvV (mf_X12_writeNext R a0 l1 M) [.ref a0, .long l1] T R M := by
  refine zMS.of (by decide +kernel) rfl ⟨rfl, rfl⟩ (Nat.le_of_ble_eq_true rfl) (fun C ad _ => ?_)
  show zX C mi_X12_writeNext (zFin C zrvV ad T R) 0 0 (mf_X12_writeNext R a0 l1 M) 0 [(0, .ref a0), (1, .long l1)] [] ad T R M
  unfold mf_X12_writeNext
  refine zx_aload_n (i := 0) (zd me_X12_writeNext 0 rfl) rfl 0 rfl ?_
  refine zx_bipush (v := 32) (zd me_X12_writeNext 1 rfl) (by decide) ?_
  refine zx_callVV1 (zd me_X12_writeNext 2 rfl) (mc_X12_write (zl C) h0 (32 : Int32) M) lk_X12_399 ⟨(Nat.le_of_ble_eq_true rfl), (Nat.le_of_ble_eq_true rfl)⟩ (Nat.le_of_ble_eq_true rfl) (zi12_c h0) rfl (fun r2 M1 => ?_)
  refine zx_aload_n (i := 0) (zd me_X12_writeNext 3 rfl) rfl 0 rfl ?_
  refine zx_lload_n (i := 1) (zd me_X12_writeNext 4 rfl) rfl 1 rfl ?_
  refine zx_callVV1 (zd me_X12_writeNext 5 rfl) (mc_X12_writeWord (zl C) h0 l1 M1) (lk_X12_395 zD) ⟨(Nat.le_of_ble_eq_true rfl), (Nat.le_of_ble_eq_true rfl)⟩ (Nat.le_of_ble_eq_true rfl) (zi12_c h0) rfl (fun r4 M3 => ?_)
  exact zx_vret (zd me_X12_writeNext 6 rfl) rfl
def mf_X12_writeNumber_b14 (R : zRR) (F_writeNumber : zRR → Nat → Int32 → zMem → Option (Unit × zMem)) (a0 : Nat) (i1 : Int32) (M : zMem) : Option (Unit × zMem) :=
  zcl (mf_X12_write R a0 ((48 : Int32) + (i1 - i1 / (10 : Int32) * (10 : Int32))) M) fun _ M4 =>
  some ((), M4)
theorem mt_X12_writeNumber_b14 {d : Nat} {C : zCx} {ad : Nat → Nat} {T : zTT} {R : zRR} {F_writeNumber : zRR → Nat → Int32 → zMem → Option (Unit × zMem)} {a0 : Nat} (hF_writeNumber : ∀ (l : Launch) {a0 : Nat} (h0 : zi12 T R a0) (i1 : Int32) (M : zMem), zMS l yX12_writeNumber (mi_X12_writeNumber d) zrvV (F_writeNumber R a0 i1 M) [.ref a0, .int i1] T R M) (h0 : zi12 T R a0) (i1 : Int32) (M : zMem) : zX C (mi_X12_writeNumber (d + 1)) (zFin C zrvV ad T R) 0 0 (mf_X12_writeNumber_b14 R F_writeNumber a0 i1 M) 14 [(0, .ref a0), (1, .int i1)] [] ad T R M := by
  unfold mf_X12_writeNumber_b14
  refine zx_aload_n (i := 0) (zd me_X12_writeNumber 8 rfl) rfl 0 rfl ?_
  refine zx_bipush (v := 48) (zd me_X12_writeNumber 9 rfl) (by decide) ?_
  refine zx_iload_n (i := 1) (zd me_X12_writeNumber 10 rfl) rfl 1 rfl ?_
  refine zx_bipush (v := 10) (zd me_X12_writeNumber 11 rfl) (by decide) ?_
  refine zx_iremN (zd me_X12_writeNumber 12 rfl) (by decide) ?_
  refine zx_iadd (zd me_X12_writeNumber 13 rfl) ?_
  refine zx_callVV1 (zd me_X12_writeNumber 14 rfl) (mc_X12_write (zl C) h0 ((48 : Int32) + (i1 - i1 / (10 : Int32) * (10 : Int32))) M) lk_X12_399 ⟨Nat.le_trans (m := 2) (Nat.le_of_ble_eq_true rfl) (Nat.le_add_right 2 _), Nat.le_trans (m := 51) (Nat.le_of_ble_eq_true rfl) (Nat.le_add_right 51 _)⟩ (Nat.le_of_ble_eq_true rfl) (zi12_c h0) rfl (fun r5 M4 => ?_)
  exact zx_vret (zd me_X12_writeNumber 15 rfl) rfl
def mf_X12_writeNumber (R : zRR) (F_writeNumber : zRR → Nat → Int32 → zMem → Option (Unit × zMem)) (a0 : Nat) (i1 : Int32) (M : zMem) : Option (Unit × zMem) :=
  if i1 ≤ (9 : Int32) then
    (mf_X12_writeNumber_b14 R F_writeNumber a0 i1 M)
  else
    (zcl (F_writeNumber R a0 (i1 / (10 : Int32)) M) fun _ M2 =>
    mf_X12_writeNumber_b14 R F_writeNumber a0 i1 M2)
theorem mm_X12_writeNumber {d : Nat} (l : Launch) {T : zTT} {R : zRR} {F_writeNumber : zRR → Nat → Int32 → zMem → Option (Unit × zMem)} {a0 : Nat} (hF_writeNumber : ∀ (l : Launch) {a0 : Nat} (h0 : zi12 T R a0) (i1 : Int32) (M : zMem), zMS l yX12_writeNumber (mi_X12_writeNumber d) zrvV (F_writeNumber R a0 i1 M) [.ref a0, .int i1] T R M) (h0 : zi12 T R a0) (i1 : Int32) (M : zMem) : zMS l yX12_writeNumber (mi_X12_writeNumber (d + 1)) zrvV (mf_X12_writeNumber R F_writeNumber a0 i1 M) [.ref a0, .int i1] T R M := by
  refine zMS.of (by decide +kernel) rfl ⟨rfl, rfl⟩ (Nat.le_of_ble_eq_true rfl) (fun C ad _ => ?_)
  show zX C (mi_X12_writeNumber (d + 1)) (zFin C zrvV ad T R) 0 0 (mf_X12_writeNumber R F_writeNumber a0 i1 M) 0 [(0, .ref a0), (1, .int i1)] [] ad T R M
  unfold mf_X12_writeNumber
  refine zx_iload_n (i := 1) (zd me_X12_writeNumber 0 rfl) rfl 1 rfl ?_
  refine zx_bipush (v := 9) (zd me_X12_writeNumber 1 rfl) (by decide) ?_
  refine zx_icmp_le (tgt := 14) (zd me_X12_writeNumber 2 rfl) (by decide) (fun c1 => ?_) (fun c1 => ?_)
  · exact mt_X12_writeNumber_b14 hF_writeNumber h0 i1 M
  · refine zx_aload_n (i := 0) (zd me_X12_writeNumber 3 rfl) rfl 0 rfl ?_
    refine zx_iload_n (i := 1) (zd me_X12_writeNumber 4 rfl) rfl 1 rfl ?_
    refine zx_bipush (v := 10) (zd me_X12_writeNumber 5 rfl) (by decide) ?_
    refine zx_idivN (zd me_X12_writeNumber 6 rfl) (by decide) ?_
    refine zx_callVV1 (zd me_X12_writeNumber 7 rfl) (hF_writeNumber (zl C) h0 (i1 / (10 : Int32)) M) (lk_X12_402 d) ⟨Nat.le_refl _, by show 8 + (2 + 11) + (51 + 21 * d) ≤ 51 + 21 * (d + 1); omega⟩ (Nat.le_of_ble_eq_true rfl) (zi12_c h0) rfl (fun r3 M2 => ?_)
    exact mt_X12_writeNumber_b14 hF_writeNumber h0 i1 M2
def mg_X12e : Nat → (zRR → Nat → Int32 → zMem → Option (Unit × zMem))
  | 0 => fun _ _ _ _ => none
  | d + 1 => fun R => mf_X12_writeNumber R (mg_X12e d)
def mr_X12_writeNumber (d : Nat) : zRR → Nat → Int32 → zMem → Option (Unit × zMem) := (mg_X12e d)
theorem mgc_X12e : ∀ d : Nat, (∀ (l : Launch) {T : zTT} {R : zRR} {a0 : Nat} (h0 : zi12 T R a0) (i1 : Int32) (M : zMem), zMS l yX12_writeNumber (mi_X12_writeNumber (d)) zrvV (mr_X12_writeNumber (d) R a0 i1 M) [.ref a0, .int i1] T R M) := by
  intro d
  induction d with
  | zero => exact (by intros; intro r M1 h; cases (show (none : Option (Unit × zMem)) = some (r, M1) from h))
  | succ d ih =>
    have q0 := ih
    exact fun l {T} {R} {a0} h0 i1 M => mm_X12_writeNumber l (T := T) (R := R) (fun l {a0} h0 i1 M => q0 l h0 i1 M) h0 i1 M
theorem mc_X12_writeNumber (l : Launch) {T : zTT} {R : zRR} {a0 : Nat} (h0 : zi12 T R a0) (i1 : Int32) (M : zMem) : zMS l yX12_writeNumber (mi_X12_writeNumber zD) zrvV (mr_X12_writeNumber zD R a0 i1 M) [.ref a0, .int i1] T R M := (mgc_X12e zD) l h0 i1 M
def mf_X12_tag_b94 (R : zRR) (a0 : Nat) (s0 : Int64) (M : zMem) : Option (Int32 × zMem) :=
  zcl (mf_X12_writeNext R a0 s0 M) fun _ M36 =>
  some ((M36.1 a0 41), M36)
theorem mt_X12_tag_b94 {C : zCx} {ad : Nat → Nat} {T : zTT} {R : zRR} {a0 : Nat} (h0 : zi12 T R a0) (s0 : Int64) (M : zMem) : zX C mi_X12_tag (zFin C zrvI ad T R) 0 0 (mf_X12_tag_b94 R a0 s0 M) 94 [(0, .ref a0)] [.long s0, .ref a0] ad T R M := by
  unfold mf_X12_tag_b94
  refine zx_callVV1 (zd me_X12_tag 51 rfl) (mc_X12_writeNext (zl C) h0 s0 M) lk_X12_405 ⟨(Nat.le_of_ble_eq_true rfl), (Nat.le_of_ble_eq_true rfl)⟩ (Nat.le_of_ble_eq_true rfl) (zi12_c h0) rfl (fun r37 M36 => ?_)
  refine zx_aload_n (i := 0) (zd me_X12_tag 52 rfl) rfl 0 rfl ?_
  refine zx_getI (zd me_X12_tag 53 rfl) fl_X12_392 (zi12_c h0) rfl ?_
  exact zx_iret (zd me_X12_tag 54 rfl) rfl
def mf_X12_tag (R : zRR) (a0 : Nat) (i1 : Int32) (M : zMem) : Option (Int32 × zMem) :=
  zlet (zwI M a0 0 (0 : Int32)) fun M1 =>
  zcl (mf_X12_isSheet R a0 i1 M1) fun r3 M2 =>
  if r3 = 0 then
    (some ((-1 : Int32), M2))
  else
    (zlet (zwI M2 a0 41 (0 : Int32)) fun M5 =>
    zald 19 ((11 : Int32) + i1) fun j6 =>
    zcl (mr_X12_writeWord zD R a0 (M5.2 (zrf R a0 21) j6) M5) fun _ M7 =>
    zcl (mf_X12_isBathed R a0 i1 M7) fun r10 M9 =>
    if r10 = 0 then
      (zcl (mf_X12_isWaiting R a0 i1 M9) fun r26 M25 =>
      if r26 = 0 then
        (zald 354 ((64 : Int32) + i1) fun j28 =>
        if (M25.1 (zrf R a0 14) j28) = (2 : Int32) then
          (zcl (mf_X12_wordOf R (15 : Int32) M25) fun r33 M32 =>
          mf_X12_tag_b94 R a0 r33 M32)
        else
          (zcl (mf_X12_wordOf R (16 : Int32) M25) fun r31 M30 =>
          mf_X12_tag_b94 R a0 r31 M30))
      else
        (zcl (mf_X12_spelt R (119 : Int32) (97 : Int32) (105 : Int32) (116 : Int32) (115 : Int32) (0 : Int32) (0 : Int32) M25) fun r35 M34 =>
        mf_X12_tag_b94 R a0 r35 M34))
    else
      (zcl (mf_X12_wordOf R (18 : Int32) M9) fun r13 M12 =>
      zcl (mf_X12_writeNext R a0 r13 M12) fun _ M14 =>
      zald 354 ((72 : Int32) + i1) fun j16 =>
      zald 19 (M14.1 (zrf R a0 14) j16) fun j17 =>
      zcl (mf_X12_writeNext R a0 (M14.2 (zrf R a0 21) j17) M14) fun _ M18 =>
      zcl (mf_X12_write R a0 (32 : Int32) M18) fun _ M20 =>
      zald 354 ((80 : Int32) + i1) fun j22 =>
      zcl (mr_X12_writeNumber zD R a0 (M20.1 (zrf R a0 14) j22) M20) fun _ M23 =>
      some ((M23.1 a0 41), M23)))
theorem mc_X12_tag (l : Launch) {T : zTT} {R : zRR} {a0 : Nat} (h0 : zi12 T R a0) (i1 : Int32) (M : zMem) : zMS l yX12_tag mi_X12_tag zrvI (mf_X12_tag R a0 i1 M) [.ref a0, .int i1] T R M := by
  refine zMS.of (by decide +kernel) rfl ⟨rfl, rfl⟩ (Nat.le_of_ble_eq_true rfl) (fun C ad _ => ?_)
  show zX C mi_X12_tag (zFin C zrvI ad T R) 0 0 (mf_X12_tag R a0 i1 M) 0 [(0, .ref a0), (1, .int i1)] [] ad T R M
  unfold mf_X12_tag
  refine zx_aload_n (i := 0) (zd me_X12_tag 0 rfl) rfl 0 rfl ?_
  refine zx_iconst (v := 0) (zd me_X12_tag 1 rfl) (by decide) ?_
  refine zx_putI (zd me_X12_tag 2 rfl) fp_X12_1 (zi12_c h0) rfl (fun M1 _ => ?_)
  refine zx_aload_n (i := 0) (zd me_X12_tag 3 rfl) rfl 0 rfl ?_
  refine zx_iload_n (i := 1) (zd me_X12_tag 4 rfl) rfl 1 rfl ?_
  refine zx_callVI1 (zd me_X12_tag 5 rfl) (mc_X12_isSheet (zl C) h0 i1 M1) lk_X12_261 ⟨(Nat.le_of_ble_eq_true rfl), (Nat.le_of_ble_eq_true rfl)⟩ (Nat.le_of_ble_eq_true rfl) (zi12_c h0) rfl (fun r3 M2 => ?_)
  refine zx_if_ne (tgt := 15) (zd me_X12_tag 6 rfl) (by decide) (fun c4 => ?_) (fun c4 => ?_)
  · refine zx_aload_n (i := 0) (zd me_X12_tag 9 rfl) rfl 0 rfl ?_
    refine zx_iconst (v := 0) (zd me_X12_tag 10 rfl) (by decide) ?_
    refine zx_putI (zd me_X12_tag 11 rfl) fp_X12_392 (zi12_c h0) rfl (fun M5 _ => ?_)
    refine zx_aload_n (i := 0) (zd me_X12_tag 12 rfl) rfl 0 rfl ?_
    refine zx_aload_n (i := 0) (zd me_X12_tag 13 rfl) rfl 0 rfl ?_
    refine zx_getR (zd me_X12_tag 14 rfl) fl_X12_119 (zi12_c h0) rfl (zi12_r21 h0) ?_
    refine zx_bipush (v := 11) (zd me_X12_tag 15 rfl) (by decide) ?_
    refine zx_iload_n (i := 1) (zd me_X12_tag 16 rfl) rfl 1 rfl ?_
    refine zx_iadd (zd me_X12_tag 17 rfl) ?_
    refine zx_lald (zd me_X12_tag 18 rfl) (zi12_t21 h0) (fun j6 hj6 => ?_)
    refine zx_callVV1 (zd me_X12_tag 19 rfl) (mc_X12_writeWord (zl C) h0 (M5.2 (zrf R a0 21) j6) M5) (lk_X12_395 zD) ⟨(Nat.le_of_ble_eq_true rfl), (Nat.le_of_ble_eq_true rfl)⟩ (Nat.le_of_ble_eq_true rfl) (zi12_c h0) rfl (fun r8 M7 => ?_)
    refine zx_aload_n (i := 0) (zd me_X12_tag 20 rfl) rfl 0 rfl ?_
    refine zx_iload_n (i := 1) (zd me_X12_tag 21 rfl) rfl 1 rfl ?_
    refine zx_callVI1 (zd me_X12_tag 22 rfl) (mc_X12_isBathed (zl C) h0 i1 M7) lk_X12_230 ⟨(Nat.le_of_ble_eq_true rfl), (Nat.le_of_ble_eq_true rfl)⟩ (Nat.le_of_ble_eq_true rfl) (zi12_c h0) rfl (fun r10 M9 => ?_)
    refine zx_if_ne (tgt := 102) (zd me_X12_tag 23 rfl) (by decide) (fun c11 => ?_) (fun c11 => ?_)
    · refine zx_aload_n (i := 0) (zd me_X12_tag 55 rfl) rfl 0 rfl ?_
      refine zx_bipush (v := 18) (zd me_X12_tag 56 rfl) (by decide) ?_
      refine zx_callSL1 (zd me_X12_tag 57 rfl) (mc_X12_wordOf (zl C) (18 : Int32) M9) lk_X12_62 ⟨(Nat.le_of_ble_eq_true rfl), (Nat.le_of_ble_eq_true rfl)⟩ (Nat.le_of_ble_eq_true rfl) (fun r13 M12 => ?_)
      refine zx_callVV1 (zd me_X12_tag 58 rfl) (mc_X12_writeNext (zl C) h0 r13 M12) lk_X12_405 ⟨(Nat.le_of_ble_eq_true rfl), (Nat.le_of_ble_eq_true rfl)⟩ (Nat.le_of_ble_eq_true rfl) (zi12_c h0) rfl (fun r15 M14 => ?_)
      refine zx_aload_n (i := 0) (zd me_X12_tag 59 rfl) rfl 0 rfl ?_
      refine zx_aload_n (i := 0) (zd me_X12_tag 60 rfl) rfl 0 rfl ?_
      refine zx_getR (zd me_X12_tag 61 rfl) fl_X12_119 (zi12_c h0) rfl (zi12_r21 h0) ?_
      refine zx_aload_n (i := 0) (zd me_X12_tag 62 rfl) rfl 0 rfl ?_
      refine zx_getR (zd me_X12_tag 63 rfl) fl_X12_98 (zi12_c h0) rfl (zi12_r14 h0) ?_
      refine zx_bipush (v := 72) (zd me_X12_tag 64 rfl) (by decide) ?_
      refine zx_iload_n (i := 1) (zd me_X12_tag 65 rfl) rfl 1 rfl ?_
      refine zx_iadd (zd me_X12_tag 66 rfl) ?_
      refine zx_iald (zd me_X12_tag 67 rfl) (zi12_t14 h0) (fun j16 hj16 => ?_)
      refine zx_lald (zd me_X12_tag 68 rfl) (zi12_t21 h0) (fun j17 hj17 => ?_)
      refine zx_callVV1 (zd me_X12_tag 69 rfl) (mc_X12_writeNext (zl C) h0 (M14.2 (zrf R a0 21) j17) M14) lk_X12_405 ⟨(Nat.le_of_ble_eq_true rfl), (Nat.le_of_ble_eq_true rfl)⟩ (Nat.le_of_ble_eq_true rfl) (zi12_c h0) rfl (fun r19 M18 => ?_)
      refine zx_aload_n (i := 0) (zd me_X12_tag 70 rfl) rfl 0 rfl ?_
      refine zx_bipush (v := 32) (zd me_X12_tag 71 rfl) (by decide) ?_
      refine zx_callVV1 (zd me_X12_tag 72 rfl) (mc_X12_write (zl C) h0 (32 : Int32) M18) lk_X12_399 ⟨(Nat.le_of_ble_eq_true rfl), (Nat.le_of_ble_eq_true rfl)⟩ (Nat.le_of_ble_eq_true rfl) (zi12_c h0) rfl (fun r21 M20 => ?_)
      refine zx_aload_n (i := 0) (zd me_X12_tag 73 rfl) rfl 0 rfl ?_
      refine zx_aload_n (i := 0) (zd me_X12_tag 74 rfl) rfl 0 rfl ?_
      refine zx_getR (zd me_X12_tag 75 rfl) fl_X12_98 (zi12_c h0) rfl (zi12_r14 h0) ?_
      refine zx_bipush (v := 80) (zd me_X12_tag 76 rfl) (by decide) ?_
      refine zx_iload_n (i := 1) (zd me_X12_tag 77 rfl) rfl 1 rfl ?_
      refine zx_iadd (zd me_X12_tag 78 rfl) ?_
      refine zx_iald (zd me_X12_tag 79 rfl) (zi12_t14 h0) (fun j22 hj22 => ?_)
      refine zx_callVV1 (zd me_X12_tag 80 rfl) (mc_X12_writeNumber (zl C) h0 (M20.1 (zrf R a0 14) j22) M20) (lk_X12_402 zD) ⟨(Nat.le_of_ble_eq_true rfl), (Nat.le_of_ble_eq_true rfl)⟩ (Nat.le_of_ble_eq_true rfl) (zi12_c h0) rfl (fun r24 M23 => ?_)
      refine zx_aload_n (i := 0) (zd me_X12_tag 81 rfl) rfl 0 rfl ?_
      refine zx_getI (zd me_X12_tag 82 rfl) fl_X12_392 (zi12_c h0) rfl ?_
      exact zx_iret (zd me_X12_tag 83 rfl) rfl
    · refine zx_aload_n (i := 0) (zd me_X12_tag 24 rfl) rfl 0 rfl ?_
      refine zx_aload_n (i := 0) (zd me_X12_tag 25 rfl) rfl 0 rfl ?_
      refine zx_iload_n (i := 1) (zd me_X12_tag 26 rfl) rfl 1 rfl ?_
      refine zx_callVI1 (zd me_X12_tag 27 rfl) (mc_X12_isWaiting (zl C) h0 i1 M9) lk_X12_246 ⟨(Nat.le_of_ble_eq_true rfl), (Nat.le_of_ble_eq_true rfl)⟩ (Nat.le_of_ble_eq_true rfl) (zi12_c h0) rfl (fun r26 M25 => ?_)
      refine zx_if_eq (tgt := 68) (zd me_X12_tag 28 rfl) (by decide) (fun c27 => ?_) (fun c27 => ?_)
      · refine zx_aload_n (i := 0) (zd me_X12_tag 38 rfl) rfl 0 rfl ?_
        refine zx_getR (zd me_X12_tag 39 rfl) fl_X12_98 (zi12_c h0) rfl (zi12_r14 h0) ?_
        refine zx_bipush (v := 64) (zd me_X12_tag 40 rfl) (by decide) ?_
        refine zx_iload_n (i := 1) (zd me_X12_tag 41 rfl) rfl 1 rfl ?_
        refine zx_iadd (zd me_X12_tag 42 rfl) ?_
        refine zx_iald (zd me_X12_tag 43 rfl) (zi12_t14 h0) (fun j28 hj28 => ?_)
        refine zx_iconst (v := 2) (zd me_X12_tag 44 rfl) (by decide) ?_
        refine zx_icmp_ne (tgt := 89) (zd me_X12_tag 45 rfl) (by decide) (fun c29 => ?_) (fun c29 => ?_)
        · refine zx_bipush (v := 16) (zd me_X12_tag 49 rfl) (by decide) ?_
          refine zx_callSL1 (zd me_X12_tag 50 rfl) (mc_X12_wordOf (zl C) (16 : Int32) M25) lk_X12_62 ⟨(Nat.le_of_ble_eq_true rfl), (Nat.le_of_ble_eq_true rfl)⟩ (Nat.le_of_ble_eq_true rfl) (fun r31 M30 => ?_)
          refine zx_loc [0] rfl ?_
          exact mt_X12_tag_b94 h0 r31 M30
        · refine zx_bipush (v := 15) (zd me_X12_tag 46 rfl) (by decide) ?_
          refine zx_callSL1 (zd me_X12_tag 47 rfl) (mc_X12_wordOf (zl C) (15 : Int32) M25) lk_X12_62 ⟨(Nat.le_of_ble_eq_true rfl), (Nat.le_of_ble_eq_true rfl)⟩ (Nat.le_of_ble_eq_true rfl) (fun r33 M32 => ?_)
          refine zx_goto (tgt := 94) (zd me_X12_tag 48 rfl) (by decide) ?_
          refine zx_loc [0] rfl ?_
          exact mt_X12_tag_b94 h0 r33 M32
      · refine zx_bipush (v := 119) (zd me_X12_tag 29 rfl) (by decide) ?_
        refine zx_bipush (v := 97) (zd me_X12_tag 30 rfl) (by decide) ?_
        refine zx_bipush (v := 105) (zd me_X12_tag 31 rfl) (by decide) ?_
        refine zx_bipush (v := 116) (zd me_X12_tag 32 rfl) (by decide) ?_
        refine zx_bipush (v := 115) (zd me_X12_tag 33 rfl) (by decide) ?_
        refine zx_iconst (v := 0) (zd me_X12_tag 34 rfl) (by decide) ?_
        refine zx_iconst (v := 0) (zd me_X12_tag 35 rfl) (by decide) ?_
        refine zx_callSL7 (zd me_X12_tag 36 rfl) (mc_X12_spelt (zl C) (119 : Int32) (97 : Int32) (105 : Int32) (116 : Int32) (115 : Int32) (0 : Int32) (0 : Int32) M25) lk_X12_58 ⟨(Nat.le_of_ble_eq_true rfl), (Nat.le_of_ble_eq_true rfl)⟩ (Nat.le_of_ble_eq_true rfl) (fun r35 M34 => ?_)
        refine zx_goto (tgt := 94) (zd me_X12_tag 37 rfl) (by decide) ?_
        refine zx_loc [0] rfl ?_
        exact mt_X12_tag_b94 h0 r35 M34
  · refine zx_iconst (v := (-1)) (zd me_X12_tag 7 rfl) (by decide) ?_
    exact zx_iret (zd me_X12_tag 8 rfl) rfl
def mf_X12_byteAt (R : zRR) (a0 : Nat) (i1 : Int32) (M : zMem) : Option (Int32 × zMem) :=
  zlet (zwI M a0 0 (0 : Int32)) fun M1 =>
  zcl (mf_X12_isIn R i1 (0 : Int32) ((M1.1 a0 41) - (1 : Int32)) M1) fun r3 M2 =>
  if r3 = 0 then
    (some ((-1 : Int32), M2))
  else
    (zald 48 i1 fun j5 =>
    some ((M2.1 (zrf R a0 40) j5), M2))
theorem mc_X12_byteAt (l : Launch) {T : zTT} {R : zRR} {a0 : Nat} (h0 : zi12 T R a0) (i1 : Int32) (M : zMem) : zMS l yX12_byteAt mi_X12_byteAt zrvI (mf_X12_byteAt R a0 i1 M) [.ref a0, .int i1] T R M := by
  refine zMS.of (by decide +kernel) rfl ⟨rfl, rfl⟩ (Nat.le_of_ble_eq_true rfl) (fun C ad _ => ?_)
  show zX C mi_X12_byteAt (zFin C zrvI ad T R) 0 0 (mf_X12_byteAt R a0 i1 M) 0 [(0, .ref a0), (1, .int i1)] [] ad T R M
  unfold mf_X12_byteAt
  refine zx_aload_n (i := 0) (zd me_X12_byteAt 0 rfl) rfl 0 rfl ?_
  refine zx_iconst (v := 0) (zd me_X12_byteAt 1 rfl) (by decide) ?_
  refine zx_putI (zd me_X12_byteAt 2 rfl) fp_X12_1 (zi12_c h0) rfl (fun M1 _ => ?_)
  refine zx_iload_n (i := 1) (zd me_X12_byteAt 3 rfl) rfl 1 rfl ?_
  refine zx_iconst (v := 0) (zd me_X12_byteAt 4 rfl) (by decide) ?_
  refine zx_aload_n (i := 0) (zd me_X12_byteAt 5 rfl) rfl 0 rfl ?_
  refine zx_getI (zd me_X12_byteAt 6 rfl) fl_X12_392 (zi12_c h0) rfl ?_
  refine zx_iconst (v := 1) (zd me_X12_byteAt 7 rfl) (by decide) ?_
  refine zx_isub (zd me_X12_byteAt 8 rfl) ?_
  refine zx_callSI3 (zd me_X12_byteAt 9 rfl) (mc_X12_isIn (zl C) i1 (0 : Int32) ((M1.1 a0 41) - (1 : Int32)) M1) lk_X12_75 ⟨(Nat.le_of_ble_eq_true rfl), (Nat.le_of_ble_eq_true rfl)⟩ (Nat.le_of_ble_eq_true rfl) (fun r3 M2 => ?_)
  refine zx_if_eq (tgt := 28) (zd me_X12_byteAt 10 rfl) (by decide) (fun c4 => ?_) (fun c4 => ?_)
  · refine zx_iconst (v := (-1)) (zd me_X12_byteAt 16 rfl) (by decide) ?_
    exact zx_iret (zd me_X12_byteAt 17 rfl) rfl
  · refine zx_aload_n (i := 0) (zd me_X12_byteAt 11 rfl) rfl 0 rfl ?_
    refine zx_getR (zd me_X12_byteAt 12 rfl) fl_X12_160 (zi12_c h0) rfl (zi12_r40 h0) ?_
    refine zx_iload_n (i := 1) (zd me_X12_byteAt 13 rfl) rfl 1 rfl ?_
    refine zx_iald (zd me_X12_byteAt 14 rfl) (zi12_t40 h0) (fun j5 hj5 => ?_)
    refine zx_goto (tgt := 29) (zd me_X12_byteAt 15 rfl) (by decide) ?_
    exact zx_iret (zd me_X12_byteAt 17 rfl) rfl
def mf_X12_draw (R : zRR) (a0 : Nat) (i1 : Int32) (M : zMem) : Option (Int32 × zMem) :=
  zlet (zwI M a0 42 (((M.1 a0 42) * (1103515245 : Int32)) + (12345 : Int32))) fun M1 =>
  zchk (¬ i1 = 0) <|
  some ((((M1.1 a0 42).toUInt32 >>> ((8 : Int32).toUInt32 &&& Int32.toUInt32 31)).toInt32 - ((M1.1 a0 42).toUInt32 >>> ((8 : Int32).toUInt32 &&& Int32.toUInt32 31)).toInt32 / i1 * i1), M1)
theorem mc_X12_draw (l : Launch) {T : zTT} {R : zRR} {a0 : Nat} (h0 : zi12 T R a0) (i1 : Int32) (M : zMem) : zMS l yX12_draw mi_X12_draw zrvI (mf_X12_draw R a0 i1 M) [.ref a0, .int i1] T R M := by
  refine zMS.of (by decide +kernel) rfl ⟨rfl, rfl⟩ (Nat.le_of_ble_eq_true rfl) (fun C ad _ => ?_)
  show zX C mi_X12_draw (zFin C zrvI ad T R) 0 0 (mf_X12_draw R a0 i1 M) 0 [(0, .ref a0), (1, .int i1)] [] ad T R M
  unfold mf_X12_draw
  refine zx_aload_n (i := 0) (zd me_X12_draw 0 rfl) rfl 0 rfl ?_
  refine zx_aload_n (i := 0) (zd me_X12_draw 1 rfl) rfl 0 rfl ?_
  refine zx_getI (zd me_X12_draw 2 rfl) fl_X12_408 (zi12_c h0) rfl ?_
  refine zx_ldcw (v := 1103515245) (zd me_X12_draw 3 rfl) (zt8 210 rfl rfl) ?_
  refine zx_imul (zd me_X12_draw 4 rfl) ?_
  refine zx_sipush (v := 12345) (zd me_X12_draw 5 rfl) (by decide) ?_
  refine zx_iadd (zd me_X12_draw 6 rfl) ?_
  refine zx_putI (zd me_X12_draw 7 rfl) fp_X12_408 (zi12_c h0) rfl (fun M1 _ => ?_)
  refine zx_aload_n (i := 0) (zd me_X12_draw 8 rfl) rfl 0 rfl ?_
  refine zx_getI (zd me_X12_draw 9 rfl) fl_X12_408 (zi12_c h0) rfl ?_
  refine zx_bipush (v := 8) (zd me_X12_draw 10 rfl) (by decide) ?_
  refine zx_iushr (zd me_X12_draw 11 rfl) ?_
  refine zx_iload_n (i := 1) (zd me_X12_draw 12 rfl) rfl 1 rfl ?_
  refine zx_irem (zd me_X12_draw 13 rfl) ?_
  exact zx_iret (zd me_X12_draw 14 rfl) rfl
def mf_X12_doIf (R : zRR) (a0 : Nat) (i1 : Int32) (i2 : Int32) (M : zMem) : Option (Unit × zMem) :=
  zcl (mf_X12_why R a0 i1 i2 M) fun r2 M1 =>
  if r2 = 0 then
    (zcl (mf_X12_live R a0 i1 i2 M1) fun _ M4 =>
    some ((), M4))
  else
    (some ((), M1))
theorem mc_X12_doIf (l : Launch) {T : zTT} {R : zRR} {a0 : Nat} (h0 : zi12 T R a0) (i1 : Int32) (i2 : Int32) (M : zMem) : zMS l yX12_doIf mi_X12_doIf zrvV (mf_X12_doIf R a0 i1 i2 M) [.ref a0, .int i1, .int i2] T R M := by
  refine zMS.of (by decide +kernel) rfl ⟨rfl, rfl⟩ (Nat.le_of_ble_eq_true rfl) (fun C ad _ => ?_)
  show zX C mi_X12_doIf (zFin C zrvV ad T R) 0 0 (mf_X12_doIf R a0 i1 i2 M) 0 [(0, .ref a0), (1, .int i1), (2, .int i2)] [] ad T R M
  unfold mf_X12_doIf
  refine zx_aload_n (i := 0) (zd me_X12_doIf 0 rfl) rfl 0 rfl ?_
  refine zx_iload_n (i := 1) (zd me_X12_doIf 1 rfl) rfl 1 rfl ?_
  refine zx_iload_n (i := 2) (zd me_X12_doIf 2 rfl) rfl 2 rfl ?_
  refine zx_callVI2 (zd me_X12_doIf 3 rfl) (mc_X12_why (zl C) h0 i1 i2 M) lk_X12_296 ⟨(Nat.le_of_ble_eq_true rfl), (Nat.le_of_ble_eq_true rfl)⟩ (Nat.le_of_ble_eq_true rfl) (zi12_c h0) rfl (fun r2 M1 => ?_)
  refine zx_if_ne (tgt := 15) (zd me_X12_doIf 4 rfl) (by decide) (fun c3 => ?_) (fun c3 => ?_)
  · exact zx_vret (zd me_X12_doIf 9 rfl) rfl
  · refine zx_aload_n (i := 0) (zd me_X12_doIf 5 rfl) rfl 0 rfl ?_
    refine zx_iload_n (i := 1) (zd me_X12_doIf 6 rfl) rfl 1 rfl ?_
    refine zx_iload_n (i := 2) (zd me_X12_doIf 7 rfl) rfl 2 rfl ?_
    refine zx_callVV2 (zd me_X12_doIf 8 rfl) (mc_X12_live (zl C) h0 i1 i2 M1) lk_X12_302 ⟨(Nat.le_of_ble_eq_true rfl), (Nat.le_of_ble_eq_true rfl)⟩ (Nat.le_of_ble_eq_true rfl) (zi12_c h0) rfl (fun r5 M4 => ?_)
    exact zx_vret (zd me_X12_doIf 9 rfl) rfl
def mf_X12_drawsFirst_b81 (R : zRR) (a0 : Nat) (i1 : Int32) (i2 : Int32) (M : zMem) : Option (Unit × zMem) :=
  if i1 = (5 : Int32) then
    (zcl (mf_X12_draw R a0 (4 : Int32) M) fun r27 M26 =>
    if r27 = 0 then
      (if i2 ≤ 0 then
        (some ((), M26))
      else
        (zcl (mf_X12_draw R a0 i2 M26) fun r31 M30 =>
        zcl (mf_X12_doIf R a0 (1 : Int32) r31 M30) fun _ M32 =>
        some ((), M32)))
    else
      (some ((), M26)))
  else
    (some ((), M))
theorem mt_X12_drawsFirst_b81 {C : zCx} {ad : Nat → Nat} {T : zTT} {R : zRR} {a0 : Nat} (h0 : zi12 T R a0) (i1 : Int32) (i2 : Int32) (M : zMem) : zX C mi_X12_drawsFirst (zFin C zrvV ad T R) 0 0 (mf_X12_drawsFirst_b81 R a0 i1 i2 M) 81 [(0, .ref a0), (1, .int i1), (2, .int i2)] [] ad T R M := by
  unfold mf_X12_drawsFirst_b81
  refine zx_iload_n (i := 1) (zd me_X12_drawsFirst 48 rfl) rfl 1 rfl ?_
  refine zx_iconst (v := 5) (zd me_X12_drawsFirst 49 rfl) (by decide) ?_
  refine zx_icmp_ne (tgt := 108) (zd me_X12_drawsFirst 50 rfl) (by decide) (fun c25 => ?_) (fun c25 => ?_)
  · exact zx_vret (zd me_X12_drawsFirst 63 rfl) rfl
  · refine zx_aload_n (i := 0) (zd me_X12_drawsFirst 51 rfl) rfl 0 rfl ?_
    refine zx_iconst (v := 4) (zd me_X12_drawsFirst 52 rfl) (by decide) ?_
    refine zx_callVI1 (zd me_X12_drawsFirst 53 rfl) (mc_X12_draw (zl C) h0 (4 : Int32) M) lk_X12_412 ⟨(Nat.le_of_ble_eq_true rfl), (Nat.le_of_ble_eq_true rfl)⟩ (Nat.le_of_ble_eq_true rfl) (zi12_c h0) rfl (fun r27 M26 => ?_)
    refine zx_if_ne (tgt := 108) (zd me_X12_drawsFirst 54 rfl) (by decide) (fun c28 => ?_) (fun c28 => ?_)
    · exact zx_vret (zd me_X12_drawsFirst 63 rfl) rfl
    · refine zx_iload_n (i := 2) (zd me_X12_drawsFirst 55 rfl) rfl 2 rfl ?_
      refine zx_if_le (tgt := 108) (zd me_X12_drawsFirst 56 rfl) (by decide) (fun c29 => ?_) (fun c29 => ?_)
      · exact zx_vret (zd me_X12_drawsFirst 63 rfl) rfl
      · refine zx_aload_n (i := 0) (zd me_X12_drawsFirst 57 rfl) rfl 0 rfl ?_
        refine zx_iconst (v := 1) (zd me_X12_drawsFirst 58 rfl) (by decide) ?_
        refine zx_aload_n (i := 0) (zd me_X12_drawsFirst 59 rfl) rfl 0 rfl ?_
        refine zx_iload_n (i := 2) (zd me_X12_drawsFirst 60 rfl) rfl 2 rfl ?_
        refine zx_callVI1 (zd me_X12_drawsFirst 61 rfl) (mc_X12_draw (zl C) h0 i2 M26) lk_X12_412 ⟨(Nat.le_of_ble_eq_true rfl), (Nat.le_of_ble_eq_true rfl)⟩ (Nat.le_of_ble_eq_true rfl) (zi12_c h0) rfl (fun r31 M30 => ?_)
        refine zx_callVV2 (zd me_X12_drawsFirst 62 rfl) (mc_X12_doIf (zl C) h0 (1 : Int32) r31 M30) lk_X12_415 ⟨(Nat.le_of_ble_eq_true rfl), (Nat.le_of_ble_eq_true rfl)⟩ (Nat.le_of_ble_eq_true rfl) (zi12_c h0) rfl (fun r33 M32 => ?_)
        exact zx_vret (zd me_X12_drawsFirst 63 rfl) rfl
def mf_X12_drawsFirst_b52 (R : zRR) (a0 : Nat) (i1 : Int32) (i2 : Int32) (M : zMem) : Option (Unit × zMem) :=
  if i1 = (4 : Int32) then
    (zald 354 (0 : Int32) fun j18 =>
    if (M.1 (zrf R a0 14) j18) ≤ 0 then
      (mf_X12_drawsFirst_b81 R a0 i1 i2 M)
    else
      (zald 354 (0 : Int32) fun j20 =>
      zcl (mf_X12_draw R a0 (M.1 (zrf R a0 14) j20) M) fun r22 M21 =>
      zcl (mf_X12_doIf R a0 (3 : Int32) r22 M21) fun _ M23 =>
      mf_X12_drawsFirst_b81 R a0 i1 i2 M23))
  else
    (mf_X12_drawsFirst_b81 R a0 i1 i2 M)
theorem mt_X12_drawsFirst_b52 {C : zCx} {ad : Nat → Nat} {T : zTT} {R : zRR} {a0 : Nat} (h0 : zi12 T R a0) (i1 : Int32) (i2 : Int32) (M : zMem) : zX C mi_X12_drawsFirst (zFin C zrvV ad T R) 0 0 (mf_X12_drawsFirst_b52 R a0 i1 i2 M) 52 [(0, .ref a0), (1, .int i1), (2, .int i2)] [] ad T R M := by
  unfold mf_X12_drawsFirst_b52
  refine zx_iload_n (i := 1) (zd me_X12_drawsFirst 31 rfl) rfl 1 rfl ?_
  refine zx_iconst (v := 4) (zd me_X12_drawsFirst 32 rfl) (by decide) ?_
  refine zx_icmp_ne (tgt := 81) (zd me_X12_drawsFirst 33 rfl) (by decide) (fun c17 => ?_) (fun c17 => ?_)
  · exact mt_X12_drawsFirst_b81 h0 i1 i2 M
  · refine zx_aload_n (i := 0) (zd me_X12_drawsFirst 34 rfl) rfl 0 rfl ?_
    refine zx_getR (zd me_X12_drawsFirst 35 rfl) fl_X12_98 (zi12_c h0) rfl (zi12_r14 h0) ?_
    refine zx_iconst (v := 0) (zd me_X12_drawsFirst 36 rfl) (by decide) ?_
    refine zx_iald (zd me_X12_drawsFirst 37 rfl) (zi12_t14 h0) (fun j18 hj18 => ?_)
    refine zx_if_le (tgt := 81) (zd me_X12_drawsFirst 38 rfl) (by decide) (fun c19 => ?_) (fun c19 => ?_)
    · exact mt_X12_drawsFirst_b81 h0 i1 i2 M
    · refine zx_aload_n (i := 0) (zd me_X12_drawsFirst 39 rfl) rfl 0 rfl ?_
      refine zx_iconst (v := 3) (zd me_X12_drawsFirst 40 rfl) (by decide) ?_
      refine zx_aload_n (i := 0) (zd me_X12_drawsFirst 41 rfl) rfl 0 rfl ?_
      refine zx_aload_n (i := 0) (zd me_X12_drawsFirst 42 rfl) rfl 0 rfl ?_
      refine zx_getR (zd me_X12_drawsFirst 43 rfl) fl_X12_98 (zi12_c h0) rfl (zi12_r14 h0) ?_
      refine zx_iconst (v := 0) (zd me_X12_drawsFirst 44 rfl) (by decide) ?_
      refine zx_iald (zd me_X12_drawsFirst 45 rfl) (zi12_t14 h0) (fun j20 hj20 => ?_)
      refine zx_callVI1 (zd me_X12_drawsFirst 46 rfl) (mc_X12_draw (zl C) h0 (M.1 (zrf R a0 14) j20) M) lk_X12_412 ⟨(Nat.le_of_ble_eq_true rfl), (Nat.le_of_ble_eq_true rfl)⟩ (Nat.le_of_ble_eq_true rfl) (zi12_c h0) rfl (fun r22 M21 => ?_)
      refine zx_callVV2 (zd me_X12_drawsFirst 47 rfl) (mc_X12_doIf (zl C) h0 (3 : Int32) r22 M21) lk_X12_415 ⟨(Nat.le_of_ble_eq_true rfl), (Nat.le_of_ble_eq_true rfl)⟩ (Nat.le_of_ble_eq_true rfl) (zi12_c h0) rfl (fun r24 M23 => ?_)
      exact mt_X12_drawsFirst_b81 h0 i1 i2 M23
def mf_X12_drawsFirst_b33 (R : zRR) (a0 : Nat) (i1 : Int32) (i2 : Int32) (M : zMem) : Option (Unit × zMem) :=
  if i1 = (3 : Int32) then
    (if i2 ≤ 0 then
      (mf_X12_drawsFirst_b52 R a0 i1 i2 M)
    else
      (zcl (mf_X12_draw R a0 i2 M) fun r14 M13 =>
      zcl (mf_X12_doIf R a0 (2 : Int32) r14 M13) fun _ M15 =>
      mf_X12_drawsFirst_b52 R a0 i1 i2 M15))
  else
    (mf_X12_drawsFirst_b52 R a0 i1 i2 M)
theorem mt_X12_drawsFirst_b33 {C : zCx} {ad : Nat → Nat} {T : zTT} {R : zRR} {a0 : Nat} (h0 : zi12 T R a0) (i1 : Int32) (i2 : Int32) (M : zMem) : zX C mi_X12_drawsFirst (zFin C zrvV ad T R) 0 0 (mf_X12_drawsFirst_b33 R a0 i1 i2 M) 33 [(0, .ref a0), (1, .int i1), (2, .int i2)] [] ad T R M := by
  unfold mf_X12_drawsFirst_b33
  refine zx_iload_n (i := 1) (zd me_X12_drawsFirst 20 rfl) rfl 1 rfl ?_
  refine zx_iconst (v := 3) (zd me_X12_drawsFirst 21 rfl) (by decide) ?_
  refine zx_icmp_ne (tgt := 52) (zd me_X12_drawsFirst 22 rfl) (by decide) (fun c11 => ?_) (fun c11 => ?_)
  · exact mt_X12_drawsFirst_b52 h0 i1 i2 M
  · refine zx_iload_n (i := 2) (zd me_X12_drawsFirst 23 rfl) rfl 2 rfl ?_
    refine zx_if_le (tgt := 52) (zd me_X12_drawsFirst 24 rfl) (by decide) (fun c12 => ?_) (fun c12 => ?_)
    · exact mt_X12_drawsFirst_b52 h0 i1 i2 M
    · refine zx_aload_n (i := 0) (zd me_X12_drawsFirst 25 rfl) rfl 0 rfl ?_
      refine zx_iconst (v := 2) (zd me_X12_drawsFirst 26 rfl) (by decide) ?_
      refine zx_aload_n (i := 0) (zd me_X12_drawsFirst 27 rfl) rfl 0 rfl ?_
      refine zx_iload_n (i := 2) (zd me_X12_drawsFirst 28 rfl) rfl 2 rfl ?_
      refine zx_callVI1 (zd me_X12_drawsFirst 29 rfl) (mc_X12_draw (zl C) h0 i2 M) lk_X12_412 ⟨(Nat.le_of_ble_eq_true rfl), (Nat.le_of_ble_eq_true rfl)⟩ (Nat.le_of_ble_eq_true rfl) (zi12_c h0) rfl (fun r14 M13 => ?_)
      refine zx_callVV2 (zd me_X12_drawsFirst 30 rfl) (mc_X12_doIf (zl C) h0 (2 : Int32) r14 M13) lk_X12_415 ⟨(Nat.le_of_ble_eq_true rfl), (Nat.le_of_ble_eq_true rfl)⟩ (Nat.le_of_ble_eq_true rfl) (zi12_c h0) rfl (fun r16 M15 => ?_)
      exact mt_X12_drawsFirst_b52 h0 i1 i2 M15
def mf_X12_drawsFirst (R : zRR) (a0 : Nat) (M : zMem) : Option (Unit × zMem) :=
  zcl (mf_X12_draw R a0 (8 : Int32) M) fun r2 M1 =>
  zald 354 (2 : Int32) fun j3 =>
  zlet ((M1.1 (zrf R a0 14) j3) : Int32) fun x4 =>
  if (3 : Int32) ≤ r2 then
    (mf_X12_drawsFirst_b33 R a0 r2 x4 M1)
  else
    (if x4 ≤ 0 then
      (mf_X12_drawsFirst_b33 R a0 r2 x4 M1)
    else
      (zcl (mf_X12_draw R a0 x4 M1) fun r8 M7 =>
      zcl (mf_X12_doIf R a0 (0 : Int32) r8 M7) fun _ M9 =>
      mf_X12_drawsFirst_b33 R a0 r2 x4 M9))
theorem mc_X12_drawsFirst (l : Launch) {T : zTT} {R : zRR} {a0 : Nat} (h0 : zi12 T R a0) (M : zMem) : zMS l yX12_drawsFirst mi_X12_drawsFirst zrvV (mf_X12_drawsFirst R a0 M) [.ref a0] T R M := by
  refine zMS.of (by decide +kernel) rfl ⟨rfl, rfl⟩ (Nat.le_of_ble_eq_true rfl) (fun C ad _ => ?_)
  show zX C mi_X12_drawsFirst (zFin C zrvV ad T R) 0 0 (mf_X12_drawsFirst R a0 M) 0 [(0, .ref a0)] [] ad T R M
  unfold mf_X12_drawsFirst
  refine zx_aload_n (i := 0) (zd me_X12_drawsFirst 0 rfl) rfl 0 rfl ?_
  refine zx_bipush (v := 8) (zd me_X12_drawsFirst 1 rfl) (by decide) ?_
  refine zx_callVI1 (zd me_X12_drawsFirst 2 rfl) (mc_X12_draw (zl C) h0 (8 : Int32) M) lk_X12_412 ⟨(Nat.le_of_ble_eq_true rfl), (Nat.le_of_ble_eq_true rfl)⟩ (Nat.le_of_ble_eq_true rfl) (zi12_c h0) rfl (fun r2 M1 => ?_)
  refine zx_istore_n (i := 1) (ls' := [(1, .int r2), (0, .ref a0)]) (zd me_X12_drawsFirst 3 rfl) rfl (Nat.le_of_ble_eq_true rfl) rfl ?_
  refine zx_aload_n (i := 0) (zd me_X12_drawsFirst 4 rfl) rfl 1 rfl ?_
  refine zx_getR (zd me_X12_drawsFirst 5 rfl) fl_X12_98 (zi12_c h0) rfl (zi12_r14 h0) ?_
  refine zx_iconst (v := 2) (zd me_X12_drawsFirst 6 rfl) (by decide) ?_
  refine zx_iald (zd me_X12_drawsFirst 7 rfl) (zi12_t14 h0) (fun j3 hj3 => ?_)
  refine zx_leti (fun x4 => ?_)
  refine zx_istore_n (i := 2) (ls' := [(2, .int x4), (1, .int r2), (0, .ref a0)]) (zd me_X12_drawsFirst 8 rfl) rfl (Nat.le_of_ble_eq_true rfl) rfl ?_
  refine zx_iload_n (i := 1) (zd me_X12_drawsFirst 9 rfl) rfl 1 rfl ?_
  refine zx_iconst (v := 3) (zd me_X12_drawsFirst 10 rfl) (by decide) ?_
  refine zx_icmp_ge (tgt := 33) (zd me_X12_drawsFirst 11 rfl) (by decide) (fun c5 => ?_) (fun c5 => ?_)
  · refine zx_loc [2, 1, 0] rfl ?_
    exact mt_X12_drawsFirst_b33 h0 r2 x4 M1
  · refine zx_iload_n (i := 2) (zd me_X12_drawsFirst 12 rfl) rfl 0 rfl ?_
    refine zx_if_le (tgt := 33) (zd me_X12_drawsFirst 13 rfl) (by decide) (fun c6 => ?_) (fun c6 => ?_)
    · refine zx_loc [2, 1, 0] rfl ?_
      exact mt_X12_drawsFirst_b33 h0 r2 x4 M1
    · refine zx_aload_n (i := 0) (zd me_X12_drawsFirst 14 rfl) rfl 2 rfl ?_
      refine zx_iconst (v := 0) (zd me_X12_drawsFirst 15 rfl) (by decide) ?_
      refine zx_aload_n (i := 0) (zd me_X12_drawsFirst 16 rfl) rfl 2 rfl ?_
      refine zx_iload_n (i := 2) (zd me_X12_drawsFirst 17 rfl) rfl 0 rfl ?_
      refine zx_callVI1 (zd me_X12_drawsFirst 18 rfl) (mc_X12_draw (zl C) h0 x4 M1) lk_X12_412 ⟨(Nat.le_of_ble_eq_true rfl), (Nat.le_of_ble_eq_true rfl)⟩ (Nat.le_of_ble_eq_true rfl) (zi12_c h0) rfl (fun r8 M7 => ?_)
      refine zx_callVV2 (zd me_X12_drawsFirst 19 rfl) (mc_X12_doIf (zl C) h0 (0 : Int32) r8 M7) lk_X12_415 ⟨(Nat.le_of_ble_eq_true rfl), (Nat.le_of_ble_eq_true rfl)⟩ (Nat.le_of_ble_eq_true rfl) (zi12_c h0) rfl (fun r10 M9 => ?_)
      refine zx_loc [2, 1, 0] rfl ?_
      exact mt_X12_drawsFirst_b33 h0 r2 x4 M9
def mf_X12_drawMinutes_l24 (R : zRR) (a0 : Nat) : Nat → Int32 → Int32 → zMem → Option (Int32 × zMem)
  | 0, _, _, _ => none
  | fuel + 1, i3, i4, M =>
    if i3 ≤ i4 then
      (some (i3, M))
    else
      (zcl (mf_X12_drawsFirst R a0 M) fun _ M6 =>
      zcl (mf_X12_oneMinute R a0 M6) fun _ M8 =>
      mf_X12_drawMinutes_l24 R a0 fuel i3 (i4 + 1) M8)
theorem mt_X12_drawMinutes_l24 {C : zCx} {ad : Nat → Nat} {T : zTT} {R : zRR} {a0 : Nat} (h0 : zi12 T R a0) : ∀ (fuel : Nat) (i3 : Int32) (i4 : Int32) (M : zMem), zX C mi_X12_drawMinutes (zFin C zrvI ad T R) 0 0 (mf_X12_drawMinutes_l24 R a0 fuel i3 i4 M) 24 [(0, .ref a0), (3, .int i3), (4, .int i4)] [] ad T R M := by
  intro fuel
  induction fuel with
  | zero => intros; exact zx_none
  | succ fuel ih =>
    intro i3 i4 M
    rw [mf_X12_drawMinutes_l24]
    refine zx_iload (zd me_X12_drawMinutes 14 rfl) 2 rfl ?_
    refine zx_iload_n (i := 3) (zd me_X12_drawMinutes 15 rfl) rfl 1 rfl ?_
    refine zx_icmp_ge (tgt := 44) (zd me_X12_drawMinutes 16 rfl) (by decide) (fun c5 => ?_) (fun c5 => ?_)
    · refine zx_iload_n (i := 3) (zd me_X12_drawMinutes 23 rfl) rfl 1 rfl ?_
      exact zx_iret (zd me_X12_drawMinutes 24 rfl) rfl
    · refine zx_aload_n (i := 0) (zd me_X12_drawMinutes 17 rfl) rfl 0 rfl ?_
      refine zx_callVV0 (zd me_X12_drawMinutes 18 rfl) (mc_X12_drawsFirst (zl C) h0 M) lk_X12_418 ⟨(Nat.le_of_ble_eq_true rfl), (Nat.le_of_ble_eq_true rfl)⟩ (Nat.le_of_ble_eq_true rfl) (zi12_c h0) rfl (fun r7 M6 => ?_)
      refine zx_aload_n (i := 0) (zd me_X12_drawMinutes 19 rfl) rfl 0 rfl ?_
      refine zx_callVV0 (zd me_X12_drawMinutes 20 rfl) (mc_X12_oneMinute (zl C) h0 M6) lk_X12_321 ⟨(Nat.le_of_ble_eq_true rfl), (Nat.le_of_ble_eq_true rfl)⟩ (Nat.le_of_ble_eq_true rfl) (zi12_c h0) rfl (fun r9 M8 => ?_)
      refine zx_iinc (v := 1) (ls' := [(4, .int (i4 + 1)), (0, .ref a0), (3, .int i3)]) (zd me_X12_drawMinutes 21 rfl) (Nat.le_of_ble_eq_true rfl) 2 rfl (by decide) rfl ?_
      refine zx_goto (tgt := 24) (zd me_X12_drawMinutes 22 rfl) (by decide) ?_
      refine zx_loc [1, 2, 0] rfl ?_
      exact ih i3 (i4 + 1) M8
def mf_X12_drawMinutes (R : zRR) (a0 : Nat) (i1 : Int32) (i2 : Int32) (M : zMem) : Option (Int32 × zMem) :=
  zlet (zwI M a0 42 i2) fun M1 =>
  zald 354 (56 : Int32) fun j2 =>
  zcl (mf_X12_least R i1 ((1000 : Int32) - (M1.1 (zrf R a0 14) j2)) M1) fun r4 M3 =>
  mf_X12_drawMinutes_l24 R a0 zF r4 (0 : Int32) M3
theorem mc_X12_drawMinutes (l : Launch) {T : zTT} {R : zRR} {a0 : Nat} (h0 : zi12 T R a0) (i1 : Int32) (i2 : Int32) (M : zMem) : zMS l yX12_drawMinutes mi_X12_drawMinutes zrvI (mf_X12_drawMinutes R a0 i1 i2 M) [.ref a0, .int i1, .int i2] T R M := by
  refine zMS.of (by decide +kernel) rfl ⟨rfl, rfl⟩ (Nat.le_of_ble_eq_true rfl) (fun C ad _ => ?_)
  show zX C mi_X12_drawMinutes (zFin C zrvI ad T R) 0 0 (mf_X12_drawMinutes R a0 i1 i2 M) 0 [(0, .ref a0), (1, .int i1), (2, .int i2)] [] ad T R M
  unfold mf_X12_drawMinutes
  refine zx_aload_n (i := 0) (zd me_X12_drawMinutes 0 rfl) rfl 0 rfl ?_
  refine zx_iload_n (i := 2) (zd me_X12_drawMinutes 1 rfl) rfl 2 rfl ?_
  refine zx_putI (zd me_X12_drawMinutes 2 rfl) fp_X12_408 (zi12_c h0) rfl (fun M1 _ => ?_)
  refine zx_iload_n (i := 1) (zd me_X12_drawMinutes 3 rfl) rfl 1 rfl ?_
  refine zx_sipush (v := 1000) (zd me_X12_drawMinutes 4 rfl) (by decide) ?_
  refine zx_aload_n (i := 0) (zd me_X12_drawMinutes 5 rfl) rfl 0 rfl ?_
  refine zx_getR (zd me_X12_drawMinutes 6 rfl) fl_X12_98 (zi12_c h0) rfl (zi12_r14 h0) ?_
  refine zx_bipush (v := 56) (zd me_X12_drawMinutes 7 rfl) (by decide) ?_
  refine zx_iald (zd me_X12_drawMinutes 8 rfl) (zi12_t14 h0) (fun j2 hj2 => ?_)
  refine zx_isub (zd me_X12_drawMinutes 9 rfl) ?_
  refine zx_callSI2 (zd me_X12_drawMinutes 10 rfl) (mc_X12_least (zl C) i1 ((1000 : Int32) - (M1.1 (zrf R a0 14) j2)) M1) lk_X12_315 ⟨(Nat.le_of_ble_eq_true rfl), (Nat.le_of_ble_eq_true rfl)⟩ (Nat.le_of_ble_eq_true rfl) (fun r4 M3 => ?_)
  refine zx_istore_n (i := 3) (ls' := [(3, .int r4), (0, .ref a0), (1, .int i1), (2, .int i2)]) (zd me_X12_drawMinutes 11 rfl) rfl (Nat.le_of_ble_eq_true rfl) rfl ?_
  refine zx_iconst (v := 0) (zd me_X12_drawMinutes 12 rfl) (by decide) ?_
  refine zx_istore (ls' := [(4, .int (0 : Int32)), (3, .int r4), (0, .ref a0), (1, .int i1), (2, .int i2)]) (zd me_X12_drawMinutes 13 rfl) (Nat.le_of_ble_eq_true rfl) rfl ?_
  refine zx_loc [2, 1, 0] rfl ?_
  exact mt_X12_drawMinutes_l24 h0 zF r4 (0 : Int32) M3
def mf_X12_drawn (R : zRR) (a0 : Nat) (i1 : Int32) (i2 : Int32) (M : zMem) : Option (Int32 × zMem) :=
  zlet (zwI M a0 0 (0 : Int32)) fun M1 =>
  zcl (mf_X12_isIn R i1 (1 : Int32) (60 : Int32) M1) fun r3 M2 =>
  if r3 = 0 then
    (some ((-1 : Int32), M2))
  else
    (zald 354 (56 : Int32) fun j5 =>
    if (M2.1 (zrf R a0 14) j5) = (1000 : Int32) then
      (some ((0 : Int32), M2))
    else
      (zcl (mf_X12_snap R a0 M2) fun _ M7 =>
      zcl (mf_X12_drawMinutes R a0 i1 i2 M7) fun r10 M9 =>
      some (r10, M9)))
theorem mc_X12_drawn (l : Launch) {T : zTT} {R : zRR} {a0 : Nat} (h0 : zi12 T R a0) (i1 : Int32) (i2 : Int32) (M : zMem) : zMS l yX12_drawn mi_X12_drawn zrvI (mf_X12_drawn R a0 i1 i2 M) [.ref a0, .int i1, .int i2] T R M := by
  refine zMS.of (by decide +kernel) rfl ⟨rfl, rfl⟩ (Nat.le_of_ble_eq_true rfl) (fun C ad _ => ?_)
  show zX C mi_X12_drawn (zFin C zrvI ad T R) 0 0 (mf_X12_drawn R a0 i1 i2 M) 0 [(0, .ref a0), (1, .int i1), (2, .int i2)] [] ad T R M
  unfold mf_X12_drawn
  refine zx_aload_n (i := 0) (zd me_X12_drawn 0 rfl) rfl 0 rfl ?_
  refine zx_iconst (v := 0) (zd me_X12_drawn 1 rfl) (by decide) ?_
  refine zx_putI (zd me_X12_drawn 2 rfl) fp_X12_1 (zi12_c h0) rfl (fun M1 _ => ?_)
  refine zx_iload_n (i := 1) (zd me_X12_drawn 3 rfl) rfl 1 rfl ?_
  refine zx_iconst (v := 1) (zd me_X12_drawn 4 rfl) (by decide) ?_
  refine zx_bipush (v := 60) (zd me_X12_drawn 5 rfl) (by decide) ?_
  refine zx_callSI3 (zd me_X12_drawn 6 rfl) (mc_X12_isIn (zl C) i1 (1 : Int32) (60 : Int32) M1) lk_X12_75 ⟨(Nat.le_of_ble_eq_true rfl), (Nat.le_of_ble_eq_true rfl)⟩ (Nat.le_of_ble_eq_true rfl) (fun r3 M2 => ?_)
  refine zx_if_ne (tgt := 17) (zd me_X12_drawn 7 rfl) (by decide) (fun c4 => ?_) (fun c4 => ?_)
  · refine zx_aload_n (i := 0) (zd me_X12_drawn 10 rfl) rfl 0 rfl ?_
    refine zx_getR (zd me_X12_drawn 11 rfl) fl_X12_98 (zi12_c h0) rfl (zi12_r14 h0) ?_
    refine zx_bipush (v := 56) (zd me_X12_drawn 12 rfl) (by decide) ?_
    refine zx_iald (zd me_X12_drawn 13 rfl) (zi12_t14 h0) (fun j5 hj5 => ?_)
    refine zx_sipush (v := 1000) (zd me_X12_drawn 14 rfl) (by decide) ?_
    refine zx_icmp_ne (tgt := 32) (zd me_X12_drawn 15 rfl) (by decide) (fun c6 => ?_) (fun c6 => ?_)
    · refine zx_aload_n (i := 0) (zd me_X12_drawn 18 rfl) rfl 0 rfl ?_
      refine zx_callVV0 (zd me_X12_drawn 19 rfl) (mc_X12_snap (zl C) h0 M2) lk_X12_299 ⟨(Nat.le_of_ble_eq_true rfl), (Nat.le_of_ble_eq_true rfl)⟩ (Nat.le_of_ble_eq_true rfl) (zi12_c h0) rfl (fun r8 M7 => ?_)
      refine zx_aload_n (i := 0) (zd me_X12_drawn 20 rfl) rfl 0 rfl ?_
      refine zx_iload_n (i := 1) (zd me_X12_drawn 21 rfl) rfl 1 rfl ?_
      refine zx_iload_n (i := 2) (zd me_X12_drawn 22 rfl) rfl 2 rfl ?_
      refine zx_callVI2 (zd me_X12_drawn 23 rfl) (mc_X12_drawMinutes (zl C) h0 i1 i2 M7) lk_X12_421 ⟨(Nat.le_of_ble_eq_true rfl), (Nat.le_of_ble_eq_true rfl)⟩ (Nat.le_of_ble_eq_true rfl) (zi12_c h0) rfl (fun r10 M9 => ?_)
      exact zx_iret (zd me_X12_drawn 24 rfl) rfl
    · refine zx_iconst (v := 0) (zd me_X12_drawn 16 rfl) (by decide) ?_
      exact zx_iret (zd me_X12_drawn 17 rfl) rfl
  · refine zx_iconst (v := (-1)) (zd me_X12_drawn 8 rfl) (by decide) ?_
    exact zx_iret (zd me_X12_drawn 9 rfl) rfl
def mf_X12_odds_b73 (R : zRR) (a0 : Nat) (H40 : Int32 → Int32 → Int32 → Int32 → Int32 → zMem → Option (Int32 × zMem)) (i1 : Int32) (i2 : Int32) (i3 : Int32) (i4 : Int32) (i5 : Int32) (M : zMem) : Option (Int32 × zMem) :=
  zcl (mf_X12_comeBack R a0 (zrf R a0 20) 56 (0 : Int32) M) fun _ M15 =>
  H40 i1 i2 i3 i4 (i5 + 1) M15
theorem mt_X12_odds_b73 {C : zCx} {ad : Nat → Nat} {T : zTT} {R : zRR} {a0 : Nat} (h0 : zi12 T R a0) {H40 : Int32 → Int32 → Int32 → Int32 → Int32 → zMem → Option (Int32 × zMem)} (hH40 : ∀ (i1 : Int32) (i2 : Int32) (i3 : Int32) (i4 : Int32) (i5 : Int32) (M : zMem), zX C mi_X12_odds (zFin C zrvI ad T R) 0 0 (H40 i1 i2 i3 i4 i5 M) 40 [(0, .ref a0), (1, .int i1), (2, .int i2), (3, .int i3), (4, .int i4), (5, .int i5)] [] ad T R M) (i1 : Int32) (i2 : Int32) (i3 : Int32) (i4 : Int32) (i5 : Int32) (M : zMem) : zX C mi_X12_odds (zFin C zrvI ad T R) 0 0 (mf_X12_odds_b73 R a0 H40 i1 i2 i3 i4 i5 M) 73 [(0, .ref a0), (1, .int i1), (2, .int i2), (3, .int i3), (4, .int i4), (5, .int i5)] [] ad T R M := by
  unfold mf_X12_odds_b73
  refine zx_aload_n (i := 0) (zd me_X12_odds 42 rfl) rfl 0 rfl ?_
  refine zx_aload_n (i := 0) (zd me_X12_odds 43 rfl) rfl 0 rfl ?_
  refine zx_getR (zd me_X12_odds 44 rfl) fl_X12_116 (zi12_c h0) rfl (zi12_r20 h0) ?_
  refine zx_iconst (v := 0) (zd me_X12_odds 45 rfl) (by decide) ?_
  refine zx_callVV2 (zd me_X12_odds 46 rfl) (mc_X12_comeBack (zl C) h0 (zi12_t20 h0) (0 : Int32) M) lk_X12_309 ⟨(Nat.le_of_ble_eq_true rfl), (Nat.le_of_ble_eq_true rfl)⟩ (Nat.le_of_ble_eq_true rfl) (zi12_c h0) rfl (fun r16 M15 => ?_)
  refine zx_iinc (v := 1) (ls' := [(5, .int (i5 + 1)), (0, .ref a0), (1, .int i1), (2, .int i2), (3, .int i3), (4, .int i4)]) (zd me_X12_odds 47 rfl) (Nat.le_of_ble_eq_true rfl) 5 rfl (by decide) rfl ?_
  refine zx_goto (tgt := 40) (zd me_X12_odds 48 rfl) (by decide) ?_
  refine zx_loc [1, 2, 3, 4, 5, 0] rfl ?_
  exact hH40 i1 i2 i3 i4 (i5 + 1) M15
def mf_X12_odds_l40 (R : zRR) (a0 : Nat) : Nat → Int32 → Int32 → Int32 → Int32 → Int32 → zMem → Option (Int32 × zMem)
  | 0, _, _, _, _, _, _ => none
  | fuel + 1, i1, i2, i3, i4, i5, M =>
    if i2 ≤ i5 then
      (some (i4, M))
    else
      (zcl (mf_X12_drawMinutes R a0 (40 : Int32) (i3 + i5) M) fun r12 M11 =>
      zald 354 ((64 : Int32) + i1) fun j13 =>
      if (M11.1 (zrf R a0 14) j13) = (2 : Int32) then
        (mf_X12_odds_b73 R a0 (mf_X12_odds_l40 R a0 fuel) i1 i2 i3 (i4 + 1) i5 M11)
      else
        (mf_X12_odds_b73 R a0 (mf_X12_odds_l40 R a0 fuel) i1 i2 i3 i4 i5 M11))
theorem mt_X12_odds_l40 {C : zCx} {ad : Nat → Nat} {T : zTT} {R : zRR} {a0 : Nat} (h0 : zi12 T R a0) : ∀ (fuel : Nat) (i1 : Int32) (i2 : Int32) (i3 : Int32) (i4 : Int32) (i5 : Int32) (M : zMem), zX C mi_X12_odds (zFin C zrvI ad T R) 0 0 (mf_X12_odds_l40 R a0 fuel i1 i2 i3 i4 i5 M) 40 [(0, .ref a0), (1, .int i1), (2, .int i2), (3, .int i3), (4, .int i4), (5, .int i5)] [] ad T R M := by
  intro fuel
  induction fuel with
  | zero => intros; exact zx_none
  | succ fuel ih =>
    intro i1 i2 i3 i4 i5 M
    rw [mf_X12_odds_l40]
    refine zx_iload (zd me_X12_odds 23 rfl) 5 rfl ?_
    refine zx_iload_n (i := 2) (zd me_X12_odds 24 rfl) rfl 2 rfl ?_
    refine zx_icmp_ge (tgt := 88) (zd me_X12_odds 25 rfl) (by decide) (fun c10 => ?_) (fun c10 => ?_)
    · refine zx_iload (zd me_X12_odds 49 rfl) 4 rfl ?_
      exact zx_iret (zd me_X12_odds 50 rfl) rfl
    · refine zx_aload_n (i := 0) (zd me_X12_odds 26 rfl) rfl 0 rfl ?_
      refine zx_bipush (v := 40) (zd me_X12_odds 27 rfl) (by decide) ?_
      refine zx_iload_n (i := 3) (zd me_X12_odds 28 rfl) rfl 3 rfl ?_
      refine zx_iload (zd me_X12_odds 29 rfl) 5 rfl ?_
      refine zx_iadd (zd me_X12_odds 30 rfl) ?_
      refine zx_callVI2 (zd me_X12_odds 31 rfl) (mc_X12_drawMinutes (zl C) h0 (40 : Int32) (i3 + i5) M) lk_X12_421 ⟨(Nat.le_of_ble_eq_true rfl), (Nat.le_of_ble_eq_true rfl)⟩ (Nat.le_of_ble_eq_true rfl) (zi12_c h0) rfl (fun r12 M11 => ?_)
      refine zx_pop (zd me_X12_odds 32 rfl) rfl ?_
      refine zx_aload_n (i := 0) (zd me_X12_odds 33 rfl) rfl 0 rfl ?_
      refine zx_getR (zd me_X12_odds 34 rfl) fl_X12_98 (zi12_c h0) rfl (zi12_r14 h0) ?_
      refine zx_bipush (v := 64) (zd me_X12_odds 35 rfl) (by decide) ?_
      refine zx_iload_n (i := 1) (zd me_X12_odds 36 rfl) rfl 1 rfl ?_
      refine zx_iadd (zd me_X12_odds 37 rfl) ?_
      refine zx_iald (zd me_X12_odds 38 rfl) (zi12_t14 h0) (fun j13 hj13 => ?_)
      refine zx_iconst (v := 2) (zd me_X12_odds 39 rfl) (by decide) ?_
      refine zx_icmp_ne (tgt := 73) (zd me_X12_odds 40 rfl) (by decide) (fun c14 => ?_) (fun c14 => ?_)
      · exact mt_X12_odds_b73 h0 ih i1 i2 i3 i4 i5 M11
      · refine zx_iinc (v := 1) (ls' := [(4, .int (i4 + 1)), (0, .ref a0), (1, .int i1), (2, .int i2), (3, .int i3), (5, .int i5)]) (zd me_X12_odds 41 rfl) (Nat.le_of_ble_eq_true rfl) 4 rfl (by decide) rfl ?_
        refine zx_loc [1, 2, 3, 4, 0, 5] rfl ?_
        exact mt_X12_odds_b73 h0 ih i1 i2 i3 (i4 + 1) i5 M11
def mf_X12_odds (R : zRR) (a0 : Nat) (i1 : Int32) (i2 : Int32) (i3 : Int32) (M : zMem) : Option (Int32 × zMem) :=
  zlet (zwI M a0 0 (0 : Int32)) fun M1 =>
  zcl (mf_X12_isSheet R a0 i1 M1) fun r3 M2 =>
  if r3 = 0 then
    (some ((-1 : Int32), M2))
  else
    (zcl (mf_X12_isIn R i2 (1 : Int32) (30 : Int32) M2) fun r6 M5 =>
    if r6 = 0 then
      (some ((-1 : Int32), M5))
    else
      (zcl (mf_X12_save R a0 (zrf R a0 20) 56 (0 : Int32) M5) fun _ M8 =>
      mf_X12_odds_l40 R a0 zF i1 i2 i3 (0 : Int32) (0 : Int32) M8))
theorem mc_X12_odds (l : Launch) {T : zTT} {R : zRR} {a0 : Nat} (h0 : zi12 T R a0) (i1 : Int32) (i2 : Int32) (i3 : Int32) (M : zMem) : zMS l yX12_odds mi_X12_odds zrvI (mf_X12_odds R a0 i1 i2 i3 M) [.ref a0, .int i1, .int i2, .int i3] T R M := by
  refine zMS.of (by decide +kernel) rfl ⟨rfl, rfl⟩ (Nat.le_of_ble_eq_true rfl) (fun C ad _ => ?_)
  show zX C mi_X12_odds (zFin C zrvI ad T R) 0 0 (mf_X12_odds R a0 i1 i2 i3 M) 0 [(0, .ref a0), (1, .int i1), (2, .int i2), (3, .int i3)] [] ad T R M
  unfold mf_X12_odds
  refine zx_aload_n (i := 0) (zd me_X12_odds 0 rfl) rfl 0 rfl ?_
  refine zx_iconst (v := 0) (zd me_X12_odds 1 rfl) (by decide) ?_
  refine zx_putI (zd me_X12_odds 2 rfl) fp_X12_1 (zi12_c h0) rfl (fun M1 _ => ?_)
  refine zx_aload_n (i := 0) (zd me_X12_odds 3 rfl) rfl 0 rfl ?_
  refine zx_iload_n (i := 1) (zd me_X12_odds 4 rfl) rfl 1 rfl ?_
  refine zx_callVI1 (zd me_X12_odds 5 rfl) (mc_X12_isSheet (zl C) h0 i1 M1) lk_X12_261 ⟨(Nat.le_of_ble_eq_true rfl), (Nat.le_of_ble_eq_true rfl)⟩ (Nat.le_of_ble_eq_true rfl) (zi12_c h0) rfl (fun r3 M2 => ?_)
  refine zx_if_eq (tgt := 23) (zd me_X12_odds 6 rfl) (by decide) (fun c4 => ?_) (fun c4 => ?_)
  · refine zx_iconst (v := (-1)) (zd me_X12_odds 12 rfl) (by decide) ?_
    exact zx_iret (zd me_X12_odds 13 rfl) rfl
  · refine zx_iload_n (i := 2) (zd me_X12_odds 7 rfl) rfl 2 rfl ?_
    refine zx_iconst (v := 1) (zd me_X12_odds 8 rfl) (by decide) ?_
    refine zx_bipush (v := 30) (zd me_X12_odds 9 rfl) (by decide) ?_
    refine zx_callSI3 (zd me_X12_odds 10 rfl) (mc_X12_isIn (zl C) i2 (1 : Int32) (30 : Int32) M2) lk_X12_75 ⟨(Nat.le_of_ble_eq_true rfl), (Nat.le_of_ble_eq_true rfl)⟩ (Nat.le_of_ble_eq_true rfl) (fun r6 M5 => ?_)
    refine zx_if_ne (tgt := 25) (zd me_X12_odds 11 rfl) (by decide) (fun c7 => ?_) (fun c7 => ?_)
    · refine zx_aload_n (i := 0) (zd me_X12_odds 14 rfl) rfl 0 rfl ?_
      refine zx_aload_n (i := 0) (zd me_X12_odds 15 rfl) rfl 0 rfl ?_
      refine zx_getR (zd me_X12_odds 16 rfl) fl_X12_116 (zi12_c h0) rfl (zi12_r20 h0) ?_
      refine zx_iconst (v := 0) (zd me_X12_odds 17 rfl) (by decide) ?_
      refine zx_callVV2 (zd me_X12_odds 18 rfl) (mc_X12_save (zl C) h0 (zi12_t20 h0) (0 : Int32) M5) lk_X12_273 ⟨(Nat.le_of_ble_eq_true rfl), (Nat.le_of_ble_eq_true rfl)⟩ (Nat.le_of_ble_eq_true rfl) (zi12_c h0) rfl (fun r9 M8 => ?_)
      refine zx_iconst (v := 0) (zd me_X12_odds 19 rfl) (by decide) ?_
      refine zx_istore (ls' := [(4, .int (0 : Int32)), (0, .ref a0), (1, .int i1), (2, .int i2), (3, .int i3)]) (zd me_X12_odds 20 rfl) (Nat.le_of_ble_eq_true rfl) rfl ?_
      refine zx_iconst (v := 0) (zd me_X12_odds 21 rfl) (by decide) ?_
      refine zx_istore (ls' := [(5, .int (0 : Int32)), (4, .int (0 : Int32)), (0, .ref a0), (1, .int i1), (2, .int i2), (3, .int i3)]) (zd me_X12_odds 22 rfl) (Nat.le_of_ble_eq_true rfl) rfl ?_
      refine zx_loc [2, 3, 4, 5, 1, 0] rfl ?_
      exact mt_X12_odds_l40 h0 zF i1 i2 i3 (0 : Int32) (0 : Int32) M8
    · refine zx_iconst (v := (-1)) (zd me_X12_odds 12 rfl) (by decide) ?_
      exact zx_iret (zd me_X12_odds 13 rfl) rfl
def mf_X12_keep (R : zRR) (a0 : Nat) (i1 : Int32) (i2 : Int32) (M : zMem) : Option (Int32 × zMem) :=
  if i2 = 0 then
    (zchk (i2 = 0 ∨ i2 = 1) (some (i2, M)))
  else
    (zald 80 i1 fun j2 =>
    zlet (zwI M (zrf R a0 43) j2 (M.1 a0 13)) fun M3 =>
    zchk (i2 = 0 ∨ i2 = 1) (some (i2, M3)))
theorem mc_X12_keep (l : Launch) {T : zTT} {R : zRR} {a0 : Nat} (h0 : zi12 T R a0) (i1 : Int32) (i2 : Int32) (M : zMem) : zMS l yX12_keep mi_X12_keep zrvI (mf_X12_keep R a0 i1 i2 M) [.ref a0, .int i1, .int i2] T R M := by
  refine zMS.of (by decide +kernel) rfl ⟨rfl, rfl⟩ (Nat.le_of_ble_eq_true rfl) (fun C ad _ => ?_)
  show zX C mi_X12_keep (zFin C zrvI ad T R) 0 0 (mf_X12_keep R a0 i1 i2 M) 0 [(0, .ref a0), (1, .int i1), (2, .int i2)] [] ad T R M
  unfold mf_X12_keep
  refine zx_iload_n (i := 2) (zd me_X12_keep 0 rfl) rfl 2 rfl ?_
  refine zx_if_eq (tgt := 14) (zd me_X12_keep 1 rfl) (by decide) (fun c1 => ?_) (fun c1 => ?_)
  · refine zx_iload_n (i := 2) (zd me_X12_keep 8 rfl) rfl 2 rfl ?_
    exact zx_zretC (zd me_X12_keep 9 rfl) rfl
  · refine zx_aload_n (i := 0) (zd me_X12_keep 2 rfl) rfl 0 rfl ?_
    refine zx_getR (zd me_X12_keep 3 rfl) fl_X12_163 (zi12_c h0) rfl (zi12_r43 h0) ?_
    refine zx_iload_n (i := 1) (zd me_X12_keep 4 rfl) rfl 1 rfl ?_
    refine zx_aload_n (i := 0) (zd me_X12_keep 5 rfl) rfl 0 rfl ?_
    refine zx_getI (zd me_X12_keep 6 rfl) fl_X12_79 (zi12_c h0) rfl ?_
    refine zx_iast (zd me_X12_keep 7 rfl) (zi12_t43 h0) (fun M3 => ?_)
    refine zx_iload_n (i := 2) (zd me_X12_keep 8 rfl) rfl 2 rfl ?_
    exact zx_zretC (zd me_X12_keep 9 rfl) rfl
def mf_X12_readNamed (R : zRR) (a0 : Nat) (i1 : Int32) (i2 : Int32) (M : zMem) : Option (Int32 × zMem) :=
  zcl (mf_X12_isName R a0 M) fun r2 M1 =>
  if r2 = 0 then
    (zcl (mf_X12_bad R a0 (1 : Int32) M1) fun r13 M12 =>
    zchk (r13 = 0 ∨ r13 = 1) (some (r13, M12)))
  else
    (zcl (mf_X12_findIn R (zrf R a0 21) 19 i1 i2 (M1.2 a0 12) M1) fun r5 M4 =>
    zlet (zwI M4 a0 13 r5) fun M6 =>
    if (M6.1 a0 13) = (-1 : Int32) then
      (zcl (mf_X12_bad R a0 (3 : Int32) M6) fun r11 M10 =>
      zchk (r11 = 0 ∨ r11 = 1) (some (r11, M10)))
    else
      (zcl (mf_X12_go R a0 M6) fun _ M8 =>
      some ((1 : Int32), M8)))
theorem mc_X12_readNamed (l : Launch) {T : zTT} {R : zRR} {a0 : Nat} (h0 : zi12 T R a0) (i1 : Int32) (i2 : Int32) (M : zMem) : zMS l yX12_readNamed mi_X12_readNamed zrvI (mf_X12_readNamed R a0 i1 i2 M) [.ref a0, .int i1, .int i2] T R M := by
  refine zMS.of (by decide +kernel) rfl ⟨rfl, rfl⟩ (Nat.le_of_ble_eq_true rfl) (fun C ad _ => ?_)
  show zX C mi_X12_readNamed (zFin C zrvI ad T R) 0 0 (mf_X12_readNamed R a0 i1 i2 M) 0 [(0, .ref a0), (1, .int i1), (2, .int i2)] [] ad T R M
  unfold mf_X12_readNamed
  refine zx_aload_n (i := 0) (zd me_X12_readNamed 0 rfl) rfl 0 rfl ?_
  refine zx_callVI0 (zd me_X12_readNamed 1 rfl) (mc_X12_isName (zl C) h0 M) lk_X12_175 ⟨(Nat.le_of_ble_eq_true rfl), (Nat.le_of_ble_eq_true rfl)⟩ (Nat.le_of_ble_eq_true rfl) (zi12_c h0) rfl (fun r2 M1 => ?_)
  refine zx_if_ne (tgt := 13) (zd me_X12_readNamed 2 rfl) (by decide) (fun c3 => ?_) (fun c3 => ?_)
  · refine zx_aload_n (i := 0) (zd me_X12_readNamed 7 rfl) rfl 0 rfl ?_
    refine zx_aload_n (i := 0) (zd me_X12_readNamed 8 rfl) rfl 0 rfl ?_
    refine zx_getR (zd me_X12_readNamed 9 rfl) fl_X12_119 (zi12_c h0) rfl (zi12_r21 h0) ?_
    refine zx_iload_n (i := 1) (zd me_X12_readNamed 10 rfl) rfl 1 rfl ?_
    refine zx_iload_n (i := 2) (zd me_X12_readNamed 11 rfl) rfl 2 rfl ?_
    refine zx_aload_n (i := 0) (zd me_X12_readNamed 12 rfl) rfl 0 rfl ?_
    refine zx_getL (zd me_X12_readNamed 13 rfl) fl_X12_43 (zi12_c h0) rfl ?_
    refine zx_callSI4 (zd me_X12_readNamed 14 rfl) (mc_X12_findIn (zl C) (zi12_t21 h0) i1 i2 (M1.2 a0 12) M1) lk_X12_179 ⟨(Nat.le_of_ble_eq_true rfl), (Nat.le_of_ble_eq_true rfl)⟩ (Nat.le_of_ble_eq_true rfl) (fun r5 M4 => ?_)
    refine zx_putI (zd me_X12_readNamed 15 rfl) fp_X12_79 (zi12_c h0) rfl (fun M6 _ => ?_)
    refine zx_aload_n (i := 0) (zd me_X12_readNamed 16 rfl) rfl 0 rfl ?_
    refine zx_getI (zd me_X12_readNamed 17 rfl) fl_X12_79 (zi12_c h0) rfl ?_
    refine zx_iconst (v := (-1)) (zd me_X12_readNamed 18 rfl) (by decide) ?_
    refine zx_icmp_ne (tgt := 44) (zd me_X12_readNamed 19 rfl) (by decide) (fun c7 => ?_) (fun c7 => ?_)
    · refine zx_aload_n (i := 0) (zd me_X12_readNamed 24 rfl) rfl 0 rfl ?_
      refine zx_callVV0 (zd me_X12_readNamed 25 rfl) (mc_X12_go (zl C) h0 M6) lk_X12_82 ⟨(Nat.le_of_ble_eq_true rfl), (Nat.le_of_ble_eq_true rfl)⟩ (Nat.le_of_ble_eq_true rfl) (zi12_c h0) rfl (fun r9 M8 => ?_)
      refine zx_iconst (v := 1) (zd me_X12_readNamed 26 rfl) (by decide) ?_
      exact zx_zret (zd me_X12_readNamed 27 rfl) rfl rfl
    · refine zx_aload_n (i := 0) (zd me_X12_readNamed 20 rfl) rfl 0 rfl ?_
      refine zx_iconst (v := 3) (zd me_X12_readNamed 21 rfl) (by decide) ?_
      refine zx_callVI1 (zd me_X12_readNamed 22 rfl) (mc_X12_bad (zl C) h0 (3 : Int32) M6) lk_X12_72 ⟨(Nat.le_of_ble_eq_true rfl), (Nat.le_of_ble_eq_true rfl)⟩ (Nat.le_of_ble_eq_true rfl) (zi12_c h0) rfl (fun r11 M10 => ?_)
      exact zx_zretC (zd me_X12_readNamed 23 rfl) rfl
  · refine zx_aload_n (i := 0) (zd me_X12_readNamed 3 rfl) rfl 0 rfl ?_
    refine zx_iconst (v := 1) (zd me_X12_readNamed 4 rfl) (by decide) ?_
    refine zx_callVI1 (zd me_X12_readNamed 5 rfl) (mc_X12_bad (zl C) h0 (1 : Int32) M1) lk_X12_72 ⟨(Nat.le_of_ble_eq_true rfl), (Nat.le_of_ble_eq_true rfl)⟩ (Nat.le_of_ble_eq_true rfl) (zi12_c h0) rfl (fun r13 M12 => ?_)
    exact zx_zretC (zd me_X12_readNamed 6 rfl) rfl
def mf_X12_readBathName (R : zRR) (a0 : Nat) (M : zMem) : Option (Int32 × zMem) :=
  zald 354 (0 : Int32) fun j1 =>
  zcl (mf_X12_readNamed R a0 (0 : Int32) (M.1 (zrf R a0 14) j1) M) fun r3 M2 =>
  zchk (r3 = 0 ∨ r3 = 1) (some (r3, M2))
theorem mc_X12_readBathName (l : Launch) {T : zTT} {R : zRR} {a0 : Nat} (h0 : zi12 T R a0) (M : zMem) : zMS l yX12_readBathName mi_X12_readBathName zrvI (mf_X12_readBathName R a0 M) [.ref a0] T R M := by
  refine zMS.of (by decide +kernel) rfl ⟨rfl, rfl⟩ (Nat.le_of_ble_eq_true rfl) (fun C ad _ => ?_)
  show zX C mi_X12_readBathName (zFin C zrvI ad T R) 0 0 (mf_X12_readBathName R a0 M) 0 [(0, .ref a0)] [] ad T R M
  unfold mf_X12_readBathName
  refine zx_aload_n (i := 0) (zd me_X12_readBathName 0 rfl) rfl 0 rfl ?_
  refine zx_iconst (v := 0) (zd me_X12_readBathName 1 rfl) (by decide) ?_
  refine zx_aload_n (i := 0) (zd me_X12_readBathName 2 rfl) rfl 0 rfl ?_
  refine zx_getR (zd me_X12_readBathName 3 rfl) fl_X12_98 (zi12_c h0) rfl (zi12_r14 h0) ?_
  refine zx_iconst (v := 0) (zd me_X12_readBathName 4 rfl) (by decide) ?_
  refine zx_iald (zd me_X12_readBathName 5 rfl) (zi12_t14 h0) (fun j1 hj1 => ?_)
  refine zx_callVI2 (zd me_X12_readBathName 6 rfl) (mc_X12_readNamed (zl C) h0 (0 : Int32) (M.1 (zrf R a0 14) j1) M) lk_X12_424 ⟨(Nat.le_of_ble_eq_true rfl), (Nat.le_of_ble_eq_true rfl)⟩ (Nat.le_of_ble_eq_true rfl) (zi12_c h0) rfl (fun r3 M2 => ?_)
  exact zx_zretC (zd me_X12_readBathName 7 rfl) rfl
def mf_X12_readBookLine_b35 (R : zRR) (a0 : Nat) (H17 : Int32 → Int32 → zMem → Option (Int32 × zMem)) (i1 : Int32) (i2 : Int32) (M : zMem) : Option (Int32 × zMem) :=
  H17 i1 (i2 + 1) M
theorem mt_X12_readBookLine_b35 {C : zCx} {ad : Nat → Nat} {T : zTT} {R : zRR} {a0 : Nat} (h0 : zi12 T R a0) {H17 : Int32 → Int32 → zMem → Option (Int32 × zMem)} (hH17 : ∀ (i1 : Int32) (i2 : Int32) (M : zMem), zX C mi_X12_readBookLine (zFin C zrvI ad T R) 0 0 (H17 i1 i2 M) 17 [(0, .ref a0), (1, .int i1), (2, .int i2)] [] ad T R M) (i1 : Int32) (i2 : Int32) (M : zMem) : zX C mi_X12_readBookLine (zFin C zrvI ad T R) 0 0 (mf_X12_readBookLine_b35 R a0 H17 i1 i2 M) 35 [(0, .ref a0), (1, .int i1), (2, .int i2)] [] ad T R M := by
  unfold mf_X12_readBookLine_b35
  refine zx_iinc (v := 1) (ls' := [(2, .int (i2 + 1)), (0, .ref a0), (1, .int i1)]) (zd me_X12_readBookLine 21 rfl) (Nat.le_of_ble_eq_true rfl) 2 rfl (by decide) rfl ?_
  refine zx_goto (tgt := 17) (zd me_X12_readBookLine 22 rfl) (by decide) ?_
  refine zx_loc [1, 2, 0] rfl ?_
  exact hH17 i1 (i2 + 1) M
def mf_X12_readBookLine_l17 (R : zRR) (a0 : Nat) : Nat → Int32 → Int32 → zMem → Option (Int32 × zMem)
  | 0, _, _, _ => none
  | fuel + 1, i1, i2, M =>
    if (3 : Int32) < i2 then
      (if i1 = (-1 : Int32) then
        (zcl (mf_X12_bad R a0 (1 : Int32) M) fun r42 M41 =>
        zchk (r42 = 0 ∨ r42 = 1) (some (r42, M41)))
      else
        (if (M.1 a0 45) = (40 : Int32) then
          (zcl (mf_X12_bad R a0 (4 : Int32) M) fun r40 M39 =>
          zchk (r40 = 0 ∨ r40 = 1) (some (r40, M39)))
        else
          (zlet (((2 : Int32) * (M.1 a0 45)) : Int32) fun x7 =>
          zald 80 x7 fun j8 =>
          zlet (zwI M (zrf R a0 43) j8 i1) fun M9 =>
          zcl (mf_X12_go R a0 M9) fun _ M10 =>
          if i1 = 3 then
            (zcl (mf_X12_readBathName R a0 M10) fun r14 M13 =>
            zcl (mf_X12_keep R a0 (x7 + (1 : Int32)) r14 M13) fun r16 M15 =>
            if r16 = 0 then
              (some ((0 : Int32), M15))
            else
              (zcl (mf_X12_readEnd R a0 M15) fun r19 M18 =>
              if r19 = 0 then
                (some ((0 : Int32), M18))
              else
                (some ((1 : Int32), M18))))
          else
          if i1 = 4 then
            (zcl (mf_X12_readNumber R a0 (1 : Int32) (60 : Int32) M10) fun r23 M22 =>
            zcl (mf_X12_keep R a0 (x7 + (1 : Int32)) r23 M22) fun r25 M24 =>
            if r25 = 0 then
              (some ((0 : Int32), M24))
            else
              (zcl (mf_X12_readEnd R a0 M24) fun r28 M27 =>
              if r28 = 0 then
                (some ((0 : Int32), M27))
              else
                (some ((1 : Int32), M27))))
          else
            (zald 354 (2 : Int32) fun j30 =>
            zcl (mf_X12_readNamed R a0 (11 : Int32) (M10.1 (zrf R a0 14) j30) M10) fun r32 M31 =>
            zcl (mf_X12_keep R a0 (x7 + (1 : Int32)) r32 M31) fun r34 M33 =>
            if r34 = 0 then
              (some ((0 : Int32), M33))
            else
              (zcl (mf_X12_readEnd R a0 M33) fun r37 M36 =>
              if r37 = 0 then
                (some ((0 : Int32), M36))
              else
                (some ((1 : Int32), M36)))))))
    else
      (zcl (mf_X12_isWord R a0 ((6 : Int32) + i2) M) fun r44 M43 =>
      if r44 = 0 then
        (mf_X12_readBookLine_b35 R a0 (mf_X12_readBookLine_l17 R a0 fuel) i1 i2 M43)
      else
        (mf_X12_readBookLine_b35 R a0 (mf_X12_readBookLine_l17 R a0 fuel) i2 i2 M43))
theorem mt_X12_readBookLine_l17 {C : zCx} {ad : Nat → Nat} {T : zTT} {R : zRR} {a0 : Nat} (h0 : zi12 T R a0) : ∀ (fuel : Nat) (i1 : Int32) (i2 : Int32) (M : zMem), zX C mi_X12_readBookLine (zFin C zrvI ad T R) 0 0 (mf_X12_readBookLine_l17 R a0 fuel i1 i2 M) 17 [(0, .ref a0), (1, .int i1), (2, .int i2)] [] ad T R M := by
  intro fuel
  induction fuel with
  | zero => intros; exact zx_none
  | succ fuel ih =>
    intro i1 i2 M
    rw [mf_X12_readBookLine_l17]
    refine zx_iload_n (i := 2) (zd me_X12_readBookLine 10 rfl) rfl 2 rfl ?_
    refine zx_iconst (v := 3) (zd me_X12_readBookLine 11 rfl) (by decide) ?_
    refine zx_icmp_gt (tgt := 41) (zd me_X12_readBookLine 12 rfl) (by decide) (fun c4 => ?_) (fun c4 => ?_)
    · refine zx_iload_n (i := 1) (zd me_X12_readBookLine 23 rfl) rfl 1 rfl ?_
      refine zx_iconst (v := (-1)) (zd me_X12_readBookLine 24 rfl) (by decide) ?_
      refine zx_icmp_ne (tgt := 52) (zd me_X12_readBookLine 25 rfl) (by decide) (fun c5 => ?_) (fun c5 => ?_)
      · refine zx_aload_n (i := 0) (zd me_X12_readBookLine 30 rfl) rfl 0 rfl ?_
        refine zx_getI (zd me_X12_readBookLine 31 rfl) fl_X12_427 (zi12_c h0) rfl ?_
        refine zx_bipush (v := 40) (zd me_X12_readBookLine 32 rfl) (by decide) ?_
        refine zx_icmp_ne (tgt := 67) (zd me_X12_readBookLine 33 rfl) (by decide) (fun c6 => ?_) (fun c6 => ?_)
        · refine zx_iconst (v := 2) (zd me_X12_readBookLine 38 rfl) (by decide) ?_
          refine zx_aload_n (i := 0) (zd me_X12_readBookLine 39 rfl) rfl 0 rfl ?_
          refine zx_getI (zd me_X12_readBookLine 40 rfl) fl_X12_427 (zi12_c h0) rfl ?_
          refine zx_imul (zd me_X12_readBookLine 41 rfl) ?_
          refine zx_leti (fun x7 => ?_)
          refine zx_istore_n (i := 2) (ls' := [(2, .int x7), (0, .ref a0), (1, .int i1)]) (zd me_X12_readBookLine 42 rfl) rfl (Nat.le_of_ble_eq_true rfl) rfl ?_
          refine zx_aload_n (i := 0) (zd me_X12_readBookLine 43 rfl) rfl 1 rfl ?_
          refine zx_getR (zd me_X12_readBookLine 44 rfl) fl_X12_163 (zi12_c h0) rfl (zi12_r43 h0) ?_
          refine zx_iload_n (i := 2) (zd me_X12_readBookLine 45 rfl) rfl 0 rfl ?_
          refine zx_iload_n (i := 1) (zd me_X12_readBookLine 46 rfl) rfl 2 rfl ?_
          refine zx_iast (zd me_X12_readBookLine 47 rfl) (zi12_t43 h0) (fun M9 => ?_)
          refine zx_aload_n (i := 0) (zd me_X12_readBookLine 48 rfl) rfl 1 rfl ?_
          refine zx_callVV0 (zd me_X12_readBookLine 49 rfl) (mc_X12_go (zl C) h0 M9) lk_X12_82 ⟨(Nat.le_of_ble_eq_true rfl), (Nat.le_of_ble_eq_true rfl)⟩ (Nat.le_of_ble_eq_true rfl) (zi12_c h0) rfl (fun r11 M10 => ?_)
          refine zx_iload_n (i := 1) (zd me_X12_readBookLine 50 rfl) rfl 2 rfl ?_
          refine zx_ite (fun c12 => ?_) (fun c12 => ?_)
          · refine zx_lsw (off := 26) (tgt := 112) (zd me_X12_readBookLine 51 rfl) (by decide) (by rw [c12]; rfl) (by decide) ?_
            refine zx_aload_n (i := 0) (zd me_X12_readBookLine 52 rfl) rfl 1 rfl ?_
            refine zx_iload_n (i := 2) (zd me_X12_readBookLine 53 rfl) rfl 0 rfl ?_
            refine zx_iconst (v := 1) (zd me_X12_readBookLine 54 rfl) (by decide) ?_
            refine zx_iadd (zd me_X12_readBookLine 55 rfl) ?_
            refine zx_aload_n (i := 0) (zd me_X12_readBookLine 56 rfl) rfl 1 rfl ?_
            refine zx_callVI0 (zd me_X12_readBookLine 57 rfl) (mc_X12_readBathName (zl C) h0 M10) lk_X12_430 ⟨(Nat.le_of_ble_eq_true rfl), (Nat.le_of_ble_eq_true rfl)⟩ (Nat.le_of_ble_eq_true rfl) (zi12_c h0) rfl (fun r14 M13 => ?_)
            refine zx_callVI2 (zd me_X12_readBookLine 58 rfl) (mc_X12_keep (zl C) h0 (x7 + (1 : Int32)) r14 M13) lk_X12_433 ⟨(Nat.le_of_ble_eq_true rfl), (Nat.le_of_ble_eq_true rfl)⟩ (Nat.le_of_ble_eq_true rfl) (zi12_c h0) rfl (fun r16 M15 => ?_)
            refine zx_if_eq (tgt := 137) (zd me_X12_readBookLine 59 rfl) (by decide) (fun c17 => ?_) (fun c17 => ?_)
            · refine zx_iconst (v := 0) (zd me_X12_readBookLine 65 rfl) (by decide) ?_
              exact zx_zret (zd me_X12_readBookLine 66 rfl) rfl rfl
            · refine zx_aload_n (i := 0) (zd me_X12_readBookLine 60 rfl) rfl 1 rfl ?_
              refine zx_callVI0 (zd me_X12_readBookLine 61 rfl) (mc_X12_readEnd (zl C) h0 M15) lk_X12_224 ⟨(Nat.le_of_ble_eq_true rfl), (Nat.le_of_ble_eq_true rfl)⟩ (Nat.le_of_ble_eq_true rfl) (zi12_c h0) rfl (fun r19 M18 => ?_)
              refine zx_if_eq (tgt := 137) (zd me_X12_readBookLine 62 rfl) (by decide) (fun c20 => ?_) (fun c20 => ?_)
              · refine zx_iconst (v := 0) (zd me_X12_readBookLine 65 rfl) (by decide) ?_
                exact zx_zret (zd me_X12_readBookLine 66 rfl) rfl rfl
              · refine zx_iconst (v := 1) (zd me_X12_readBookLine 63 rfl) (by decide) ?_
                refine zx_goto (tgt := 138) (zd me_X12_readBookLine 64 rfl) (by decide) ?_
                exact zx_zret (zd me_X12_readBookLine 66 rfl) rfl rfl
          · refine zx_ite (fun c21 => ?_) (fun c21 => ?_)
            · refine zx_lsw (off := 53) (tgt := 139) (zd me_X12_readBookLine 51 rfl) (by decide) (by rw [c21]; rfl) (by decide) ?_
              refine zx_aload_n (i := 0) (zd me_X12_readBookLine 67 rfl) rfl 1 rfl ?_
              refine zx_iload_n (i := 2) (zd me_X12_readBookLine 68 rfl) rfl 0 rfl ?_
              refine zx_iconst (v := 1) (zd me_X12_readBookLine 69 rfl) (by decide) ?_
              refine zx_iadd (zd me_X12_readBookLine 70 rfl) ?_
              refine zx_aload_n (i := 0) (zd me_X12_readBookLine 71 rfl) rfl 1 rfl ?_
              refine zx_iconst (v := 1) (zd me_X12_readBookLine 72 rfl) (by decide) ?_
              refine zx_bipush (v := 60) (zd me_X12_readBookLine 73 rfl) (by decide) ?_
              refine zx_callVI2 (zd me_X12_readBookLine 74 rfl) (mc_X12_readNumber (zl C) h0 (1 : Int32) (60 : Int32) M10) lk_X12_190 ⟨(Nat.le_of_ble_eq_true rfl), (Nat.le_of_ble_eq_true rfl)⟩ (Nat.le_of_ble_eq_true rfl) (zi12_c h0) rfl (fun r23 M22 => ?_)
              refine zx_callVI2 (zd me_X12_readBookLine 75 rfl) (mc_X12_keep (zl C) h0 (x7 + (1 : Int32)) r23 M22) lk_X12_433 ⟨(Nat.le_of_ble_eq_true rfl), (Nat.le_of_ble_eq_true rfl)⟩ (Nat.le_of_ble_eq_true rfl) (zi12_c h0) rfl (fun r25 M24 => ?_)
              refine zx_if_eq (tgt := 167) (zd me_X12_readBookLine 76 rfl) (by decide) (fun c26 => ?_) (fun c26 => ?_)
              · refine zx_iconst (v := 0) (zd me_X12_readBookLine 82 rfl) (by decide) ?_
                exact zx_zret (zd me_X12_readBookLine 83 rfl) rfl rfl
              · refine zx_aload_n (i := 0) (zd me_X12_readBookLine 77 rfl) rfl 1 rfl ?_
                refine zx_callVI0 (zd me_X12_readBookLine 78 rfl) (mc_X12_readEnd (zl C) h0 M24) lk_X12_224 ⟨(Nat.le_of_ble_eq_true rfl), (Nat.le_of_ble_eq_true rfl)⟩ (Nat.le_of_ble_eq_true rfl) (zi12_c h0) rfl (fun r28 M27 => ?_)
                refine zx_if_eq (tgt := 167) (zd me_X12_readBookLine 79 rfl) (by decide) (fun c29 => ?_) (fun c29 => ?_)
                · refine zx_iconst (v := 0) (zd me_X12_readBookLine 82 rfl) (by decide) ?_
                  exact zx_zret (zd me_X12_readBookLine 83 rfl) rfl rfl
                · refine zx_iconst (v := 1) (zd me_X12_readBookLine 80 rfl) (by decide) ?_
                  refine zx_goto (tgt := 168) (zd me_X12_readBookLine 81 rfl) (by decide) ?_
                  exact zx_zret (zd me_X12_readBookLine 83 rfl) rfl rfl
            · refine zx_lsw (off := 83) (tgt := 169) (zd me_X12_readBookLine 51 rfl) (by decide) ((lv_osw c12 (by decide)).trans ((lv_osw c21 (by decide)).trans rfl)) (by decide) ?_
              refine zx_aload_n (i := 0) (zd me_X12_readBookLine 84 rfl) rfl 1 rfl ?_
              refine zx_iload_n (i := 2) (zd me_X12_readBookLine 85 rfl) rfl 0 rfl ?_
              refine zx_iconst (v := 1) (zd me_X12_readBookLine 86 rfl) (by decide) ?_
              refine zx_iadd (zd me_X12_readBookLine 87 rfl) ?_
              refine zx_aload_n (i := 0) (zd me_X12_readBookLine 88 rfl) rfl 1 rfl ?_
              refine zx_bipush (v := 11) (zd me_X12_readBookLine 89 rfl) (by decide) ?_
              refine zx_aload_n (i := 0) (zd me_X12_readBookLine 90 rfl) rfl 1 rfl ?_
              refine zx_getR (zd me_X12_readBookLine 91 rfl) fl_X12_98 (zi12_c h0) rfl (zi12_r14 h0) ?_
              refine zx_iconst (v := 2) (zd me_X12_readBookLine 92 rfl) (by decide) ?_
              refine zx_iald (zd me_X12_readBookLine 93 rfl) (zi12_t14 h0) (fun j30 hj30 => ?_)
              refine zx_callVI2 (zd me_X12_readBookLine 94 rfl) (mc_X12_readNamed (zl C) h0 (11 : Int32) (M10.1 (zrf R a0 14) j30) M10) lk_X12_424 ⟨(Nat.le_of_ble_eq_true rfl), (Nat.le_of_ble_eq_true rfl)⟩ (Nat.le_of_ble_eq_true rfl) (zi12_c h0) rfl (fun r32 M31 => ?_)
              refine zx_callVI2 (zd me_X12_readBookLine 95 rfl) (mc_X12_keep (zl C) h0 (x7 + (1 : Int32)) r32 M31) lk_X12_433 ⟨(Nat.le_of_ble_eq_true rfl), (Nat.le_of_ble_eq_true rfl)⟩ (Nat.le_of_ble_eq_true rfl) (zi12_c h0) rfl (fun r34 M33 => ?_)
              refine zx_if_eq (tgt := 202) (zd me_X12_readBookLine 96 rfl) (by decide) (fun c35 => ?_) (fun c35 => ?_)
              · refine zx_iconst (v := 0) (zd me_X12_readBookLine 102 rfl) (by decide) ?_
                exact zx_zret (zd me_X12_readBookLine 103 rfl) rfl rfl
              · refine zx_aload_n (i := 0) (zd me_X12_readBookLine 97 rfl) rfl 1 rfl ?_
                refine zx_callVI0 (zd me_X12_readBookLine 98 rfl) (mc_X12_readEnd (zl C) h0 M33) lk_X12_224 ⟨(Nat.le_of_ble_eq_true rfl), (Nat.le_of_ble_eq_true rfl)⟩ (Nat.le_of_ble_eq_true rfl) (zi12_c h0) rfl (fun r37 M36 => ?_)
                refine zx_if_eq (tgt := 202) (zd me_X12_readBookLine 99 rfl) (by decide) (fun c38 => ?_) (fun c38 => ?_)
                · refine zx_iconst (v := 0) (zd me_X12_readBookLine 102 rfl) (by decide) ?_
                  exact zx_zret (zd me_X12_readBookLine 103 rfl) rfl rfl
                · refine zx_iconst (v := 1) (zd me_X12_readBookLine 100 rfl) (by decide) ?_
                  refine zx_goto (tgt := 203) (zd me_X12_readBookLine 101 rfl) (by decide) ?_
                  exact zx_zret (zd me_X12_readBookLine 103 rfl) rfl rfl
        · refine zx_aload_n (i := 0) (zd me_X12_readBookLine 34 rfl) rfl 0 rfl ?_
          refine zx_iconst (v := 4) (zd me_X12_readBookLine 35 rfl) (by decide) ?_
          refine zx_callVI1 (zd me_X12_readBookLine 36 rfl) (mc_X12_bad (zl C) h0 (4 : Int32) M) lk_X12_72 ⟨(Nat.le_of_ble_eq_true rfl), (Nat.le_of_ble_eq_true rfl)⟩ (Nat.le_of_ble_eq_true rfl) (zi12_c h0) rfl (fun r40 M39 => ?_)
          exact zx_zretC (zd me_X12_readBookLine 37 rfl) rfl
      · refine zx_aload_n (i := 0) (zd me_X12_readBookLine 26 rfl) rfl 0 rfl ?_
        refine zx_iconst (v := 1) (zd me_X12_readBookLine 27 rfl) (by decide) ?_
        refine zx_callVI1 (zd me_X12_readBookLine 28 rfl) (mc_X12_bad (zl C) h0 (1 : Int32) M) lk_X12_72 ⟨(Nat.le_of_ble_eq_true rfl), (Nat.le_of_ble_eq_true rfl)⟩ (Nat.le_of_ble_eq_true rfl) (zi12_c h0) rfl (fun r42 M41 => ?_)
        exact zx_zretC (zd me_X12_readBookLine 29 rfl) rfl
    · refine zx_aload_n (i := 0) (zd me_X12_readBookLine 13 rfl) rfl 0 rfl ?_
      refine zx_bipush (v := 6) (zd me_X12_readBookLine 14 rfl) (by decide) ?_
      refine zx_iload_n (i := 2) (zd me_X12_readBookLine 15 rfl) rfl 2 rfl ?_
      refine zx_iadd (zd me_X12_readBookLine 16 rfl) ?_
      refine zx_callVI1 (zd me_X12_readBookLine 17 rfl) (mc_X12_isWord (zl C) h0 ((6 : Int32) + i2) M) lk_X12_203 ⟨(Nat.le_of_ble_eq_true rfl), (Nat.le_of_ble_eq_true rfl)⟩ (Nat.le_of_ble_eq_true rfl) (zi12_c h0) rfl (fun r44 M43 => ?_)
      refine zx_if_eq (tgt := 35) (zd me_X12_readBookLine 18 rfl) (by decide) (fun c45 => ?_) (fun c45 => ?_)
      · exact mt_X12_readBookLine_b35 h0 ih i1 i2 M43
      · refine zx_iload_n (i := 2) (zd me_X12_readBookLine 19 rfl) rfl 2 rfl ?_
        refine zx_istore_n (i := 1) (ls' := [(1, .int i2), (0, .ref a0), (2, .int i2)]) (zd me_X12_readBookLine 20 rfl) rfl (Nat.le_of_ble_eq_true rfl) rfl ?_
        refine zx_loc [1, 0, 2] rfl ?_
        exact mt_X12_readBookLine_b35 h0 ih i2 i2 M43
def mf_X12_readBookLine_b14 (R : zRR) (a0 : Nat) (s0 : Int32) (M : zMem) : Option (Int32 × zMem) :=
  mf_X12_readBookLine_l17 R a0 zF s0 (0 : Int32) M
theorem mt_X12_readBookLine_b14 {C : zCx} {ad : Nat → Nat} {T : zTT} {R : zRR} {a0 : Nat} (h0 : zi12 T R a0) (s0 : Int32) (M : zMem) : zX C mi_X12_readBookLine (zFin C zrvI ad T R) 0 0 (mf_X12_readBookLine_b14 R a0 s0 M) 14 [(0, .ref a0)] [.int s0] ad T R M := by
  unfold mf_X12_readBookLine_b14
  refine zx_istore_n (i := 1) (ls' := [(1, .int s0), (0, .ref a0)]) (zd me_X12_readBookLine 7 rfl) rfl (Nat.le_of_ble_eq_true rfl) rfl ?_
  refine zx_iconst (v := 0) (zd me_X12_readBookLine 8 rfl) (by decide) ?_
  refine zx_istore_n (i := 2) (ls' := [(2, .int (0 : Int32)), (1, .int s0), (0, .ref a0)]) (zd me_X12_readBookLine 9 rfl) rfl (Nat.le_of_ble_eq_true rfl) rfl ?_
  refine zx_loc [2, 1, 0] rfl ?_
  exact mt_X12_readBookLine_l17 h0 zF s0 (0 : Int32) M
def mf_X12_readBookLine (R : zRR) (a0 : Nat) (M : zMem) : Option (Int32 × zMem) :=
  zcl (mf_X12_isWord R a0 (10 : Int32) M) fun r2 M1 =>
  if r2 = 0 then
    (mf_X12_readBookLine_b14 R a0 (-1 : Int32) M1)
  else
    (mf_X12_readBookLine_b14 R a0 (4 : Int32) M1)
theorem mc_X12_readBookLine (l : Launch) {T : zTT} {R : zRR} {a0 : Nat} (h0 : zi12 T R a0) (M : zMem) : zMS l yX12_readBookLine mi_X12_readBookLine zrvI (mf_X12_readBookLine R a0 M) [.ref a0] T R M := by
  refine zMS.of (by decide +kernel) rfl ⟨rfl, rfl⟩ (Nat.le_of_ble_eq_true rfl) (fun C ad _ => ?_)
  show zX C mi_X12_readBookLine (zFin C zrvI ad T R) 0 0 (mf_X12_readBookLine R a0 M) 0 [(0, .ref a0)] [] ad T R M
  unfold mf_X12_readBookLine
  refine zx_aload_n (i := 0) (zd me_X12_readBookLine 0 rfl) rfl 0 rfl ?_
  refine zx_bipush (v := 10) (zd me_X12_readBookLine 1 rfl) (by decide) ?_
  refine zx_callVI1 (zd me_X12_readBookLine 2 rfl) (mc_X12_isWord (zl C) h0 (10 : Int32) M) lk_X12_203 ⟨(Nat.le_of_ble_eq_true rfl), (Nat.le_of_ble_eq_true rfl)⟩ (Nat.le_of_ble_eq_true rfl) (zi12_c h0) rfl (fun r2 M1 => ?_)
  refine zx_if_eq (tgt := 13) (zd me_X12_readBookLine 3 rfl) (by decide) (fun c3 => ?_) (fun c3 => ?_)
  · refine zx_iconst (v := (-1)) (zd me_X12_readBookLine 6 rfl) (by decide) ?_
    exact mt_X12_readBookLine_b14 h0 (-1 : Int32) M1
  · refine zx_iconst (v := 4) (zd me_X12_readBookLine 4 rfl) (by decide) ?_
    refine zx_goto (tgt := 14) (zd me_X12_readBookLine 5 rfl) (by decide) ?_
    exact mt_X12_readBookLine_b14 h0 (4 : Int32) M1
