def mf_X8_sheetsOf_b192 (R : zRR) (a0 : Nat) (a1 : Nat) (a2 : Nat) (H22 : Int32 → Int32 → Int32 → zMem → Option (Int32 × zMem)) (i3 : Int32) (i4 : Int32) (i5 : Int32) (M : zMem) : Option (Int32 × zMem) :=
  H22 i3 i4 (i5 + 1) M
theorem mt_X8_sheetsOf_b192 {C : zCx} {ad : Nat → Nat} {T : zTT} {R : zRR} {a0 : Nat} {a1 : Nat} {a2 : Nat} (h0 : zi8 T R a0) (h1 : zi7 T R a1) (h2 : zi3 T R a2) {H22 : Int32 → Int32 → Int32 → zMem → Option (Int32 × zMem)} (hH22 : ∀ (i3 : Int32) (i4 : Int32) (i5 : Int32) (M : zMem), zX C mi_X8_sheetsOf (zFin C zrvI ad T R) 0 0 (H22 i3 i4 i5 M) 22 [(0, .ref a0), (1, .ref a1), (2, .ref a2), (3, .int i3), (4, .int i4), (5, .int i5)] [] ad T R M) (i3 : Int32) (i4 : Int32) (i5 : Int32) (M : zMem) : zX C mi_X8_sheetsOf (zFin C zrvI ad T R) 0 0 (mf_X8_sheetsOf_b192 R a0 a1 a2 H22 i3 i4 i5 M) 192 [(0, .ref a0), (1, .ref a1), (2, .ref a2), (3, .int i3), (4, .int i4), (5, .int i5)] [] ad T R M := by
  unfold mf_X8_sheetsOf_b192
  refine zx_iinc (v := 1) (ls' := [(5, .int (i5 + 1)), (0, .ref a0), (1, .ref a1), (2, .ref a2), (3, .int i3), (4, .int i4)]) (zd me_X8_sheetsOf 110 rfl) (Nat.le_of_ble_eq_true rfl) 5 rfl (by decide) rfl ?_
  refine zx_goto (tgt := 22) (zd me_X8_sheetsOf 111 rfl) (by decide) ?_
  refine zx_loc [1, 2, 3, 4, 5, 0] rfl ?_
  exact hH22 i3 i4 (i5 + 1) M
def mf_X8_sheetsOf_b167 (R : zRR) (a0 : Nat) (a1 : Nat) (a2 : Nat) (H22 : Int32 → Int32 → Int32 → zMem → Option (Int32 × zMem)) (i3 : Int32) (i4 : Int32) (i5 : Int32) (M : zMem) : Option (Int32 × zMem) :=
  if (40 : Int32) ≤ i4 then
    (mf_X8_sheetsOf_b192 R a0 a1 a2 H22 i3 i4 i5 M)
  else
    (zcl (mf_X8_sheetsOfStep R a0 a1 a2 i5 M) fun r29 M28 =>
    zald 40 i4 fun j30 =>
    zlet (zwI M28 (zrf R a0 5) j30 r29) fun M31 =>
    mf_X8_sheetsOf_b192 R a0 a1 a2 H22 i3 (i4 + 1) i5 M31)
theorem mt_X8_sheetsOf_b167 {C : zCx} {ad : Nat → Nat} {T : zTT} {R : zRR} {a0 : Nat} {a1 : Nat} {a2 : Nat} (h0 : zi8 T R a0) (h1 : zi7 T R a1) (h2 : zi3 T R a2) {H22 : Int32 → Int32 → Int32 → zMem → Option (Int32 × zMem)} (hH22 : ∀ (i3 : Int32) (i4 : Int32) (i5 : Int32) (M : zMem), zX C mi_X8_sheetsOf (zFin C zrvI ad T R) 0 0 (H22 i3 i4 i5 M) 22 [(0, .ref a0), (1, .ref a1), (2, .ref a2), (3, .int i3), (4, .int i4), (5, .int i5)] [] ad T R M) (i3 : Int32) (i4 : Int32) (i5 : Int32) (M : zMem) : zX C mi_X8_sheetsOf (zFin C zrvI ad T R) 0 0 (mf_X8_sheetsOf_b167 R a0 a1 a2 H22 i3 i4 i5 M) 167 [(0, .ref a0), (1, .ref a1), (2, .ref a2), (3, .int i3), (4, .int i4), (5, .int i5)] [] ad T R M := by
  unfold mf_X8_sheetsOf_b167
  refine zx_iload (zd me_X8_sheetsOf 97 rfl) 4 rfl ?_
  refine zx_bipush (v := 40) (zd me_X8_sheetsOf 98 rfl) (by decide) ?_
  refine zx_icmp_ge (tgt := 192) (zd me_X8_sheetsOf 99 rfl) (by decide) (fun c27 => ?_) (fun c27 => ?_)
  · exact mt_X8_sheetsOf_b192 h0 h1 h2 hH22 i3 i4 i5 M
  · refine zx_aload_n (i := 0) (zd me_X8_sheetsOf 100 rfl) rfl 0 rfl ?_
    refine zx_getR (zd me_X8_sheetsOf 101 rfl) fl_X8_21 (zi8_c h0) rfl (zi8_r5 h0) ?_
    refine zx_iload (zd me_X8_sheetsOf 102 rfl) 4 rfl ?_
    refine zx_aload_n (i := 0) (zd me_X8_sheetsOf 103 rfl) rfl 0 rfl ?_
    refine zx_aload_n (i := 1) (zd me_X8_sheetsOf 104 rfl) rfl 1 rfl ?_
    refine zx_aload_n (i := 2) (zd me_X8_sheetsOf 105 rfl) rfl 2 rfl ?_
    refine zx_iload (zd me_X8_sheetsOf 106 rfl) 5 rfl ?_
    refine zx_callVI3 (zd me_X8_sheetsOf 107 rfl) (mc_X8_sheetsOfStep (zl C) h0 h1 h2 i5 M) lk_X8_103 ⟨(Nat.le_of_ble_eq_true rfl), (Nat.le_of_ble_eq_true rfl)⟩ (Nat.le_of_ble_eq_true rfl) (zi8_c h0) rfl (fun r29 M28 => ?_)
    refine zx_iast (zd me_X8_sheetsOf 108 rfl) (zi8_t5 h0) (fun M31 => ?_)
    refine zx_iinc (v := 1) (ls' := [(4, .int (i4 + 1)), (0, .ref a0), (1, .ref a1), (2, .ref a2), (3, .int i3), (5, .int i5)]) (zd me_X8_sheetsOf 109 rfl) (Nat.le_of_ble_eq_true rfl) 4 rfl (by decide) rfl ?_
    refine zx_loc [1, 2, 3, 4, 0, 5] rfl ?_
    exact mt_X8_sheetsOf_b192 h0 h1 h2 hH22 i3 (i4 + 1) i5 M31
def mf_X8_sheetsOf_b124 (R : zRR) (a0 : Nat) (a1 : Nat) (a2 : Nat) (H22 : Int32 → Int32 → Int32 → zMem → Option (Int32 × zMem)) (i3 : Int32) (i4 : Int32) (i5 : Int32) (M : zMem) : Option (Int32 × zMem) :=
  zald 40 i5 fun j20 =>
  if (M.1 (zrf R a0 2) j20) = (11 : Int32) then
    (if i4 < (2 : Int32) then
      (mf_X8_sheetsOf_b167 R a0 a1 a2 H22 i3 i4 i5 M)
    else
      (zald 40 ((i4 + (-1)) - (1 : Int32)) fun j23 =>
      zald 40 (i4 + (-1)) fun j24 =>
      zald 40 ((i4 + (-1)) - (1 : Int32)) fun j25 =>
      zlet (zwI M (zrf R a0 5) j25 ((M.1 (zrf R a0 5) j23) ||| (M.1 (zrf R a0 5) j24))) fun M26 =>
      mf_X8_sheetsOf_b192 R a0 a1 a2 H22 i3 (i4 + (-1)) i5 M26))
  else
    (mf_X8_sheetsOf_b167 R a0 a1 a2 H22 i3 i4 i5 M)
theorem mt_X8_sheetsOf_b124 {C : zCx} {ad : Nat → Nat} {T : zTT} {R : zRR} {a0 : Nat} {a1 : Nat} {a2 : Nat} (h0 : zi8 T R a0) (h1 : zi7 T R a1) (h2 : zi3 T R a2) {H22 : Int32 → Int32 → Int32 → zMem → Option (Int32 × zMem)} (hH22 : ∀ (i3 : Int32) (i4 : Int32) (i5 : Int32) (M : zMem), zX C mi_X8_sheetsOf (zFin C zrvI ad T R) 0 0 (H22 i3 i4 i5 M) 22 [(0, .ref a0), (1, .ref a1), (2, .ref a2), (3, .int i3), (4, .int i4), (5, .int i5)] [] ad T R M) (i3 : Int32) (i4 : Int32) (i5 : Int32) (M : zMem) : zX C mi_X8_sheetsOf (zFin C zrvI ad T R) 0 0 (mf_X8_sheetsOf_b124 R a0 a1 a2 H22 i3 i4 i5 M) 124 [(0, .ref a0), (1, .ref a1), (2, .ref a2), (3, .int i3), (4, .int i4), (5, .int i5)] [] ad T R M := by
  unfold mf_X8_sheetsOf_b124
  refine zx_aload_n (i := 0) (zd me_X8_sheetsOf 73 rfl) rfl 0 rfl ?_
  refine zx_getR (zd me_X8_sheetsOf 74 rfl) fl_X8_11 (zi8_c h0) rfl (zi8_r2 h0) ?_
  refine zx_iload (zd me_X8_sheetsOf 75 rfl) 5 rfl ?_
  refine zx_iald (zd me_X8_sheetsOf 76 rfl) (zi8_t2 h0) (fun j20 hj20 => ?_)
  refine zx_bipush (v := 11) (zd me_X8_sheetsOf 77 rfl) (by decide) ?_
  refine zx_icmp_ne (tgt := 167) (zd me_X8_sheetsOf 78 rfl) (by decide) (fun c21 => ?_) (fun c21 => ?_)
  · exact mt_X8_sheetsOf_b167 h0 h1 h2 hH22 i3 i4 i5 M
  · refine zx_iload (zd me_X8_sheetsOf 79 rfl) 4 rfl ?_
    refine zx_iconst (v := 2) (zd me_X8_sheetsOf 80 rfl) (by decide) ?_
    refine zx_icmp_lt (tgt := 167) (zd me_X8_sheetsOf 81 rfl) (by decide) (fun c22 => ?_) (fun c22 => ?_)
    · exact mt_X8_sheetsOf_b167 h0 h1 h2 hH22 i3 i4 i5 M
    · refine zx_iinc (v := (-1)) (ls' := [(4, .int (i4 + (-1))), (0, .ref a0), (1, .ref a1), (2, .ref a2), (3, .int i3), (5, .int i5)]) (zd me_X8_sheetsOf 82 rfl) (Nat.le_of_ble_eq_true rfl) 4 rfl (by decide) rfl ?_
      refine zx_aload_n (i := 0) (zd me_X8_sheetsOf 83 rfl) rfl 1 rfl ?_
      refine zx_getR (zd me_X8_sheetsOf 84 rfl) fl_X8_21 (zi8_c h0) rfl (zi8_r5 h0) ?_
      refine zx_iload (zd me_X8_sheetsOf 85 rfl) 0 rfl ?_
      refine zx_iconst (v := 1) (zd me_X8_sheetsOf 86 rfl) (by decide) ?_
      refine zx_isub (zd me_X8_sheetsOf 87 rfl) ?_
      refine zx_dup2 (zd me_X8_sheetsOf 88 rfl) rfl rfl ?_
      refine zx_iald (zd me_X8_sheetsOf 89 rfl) (zi8_t5 h0) (fun j23 hj23 => ?_)
      refine zx_aload_n (i := 0) (zd me_X8_sheetsOf 90 rfl) rfl 1 rfl ?_
      refine zx_getR (zd me_X8_sheetsOf 91 rfl) fl_X8_21 (zi8_c h0) rfl (zi8_r5 h0) ?_
      refine zx_iload (zd me_X8_sheetsOf 92 rfl) 0 rfl ?_
      refine zx_iald (zd me_X8_sheetsOf 93 rfl) (zi8_t5 h0) (fun j24 hj24 => ?_)
      refine zx_ior (zd me_X8_sheetsOf 94 rfl) ?_
      refine zx_iast (zd me_X8_sheetsOf 95 rfl) (zi8_t5 h0) (fun M26 => ?_)
      refine zx_goto (tgt := 192) (zd me_X8_sheetsOf 96 rfl) (by decide) ?_
      refine zx_loc [1, 2, 3, 4, 0, 5] rfl ?_
      exact mt_X8_sheetsOf_b192 h0 h1 h2 hH22 i3 (i4 + (-1)) i5 M26
def mf_X8_sheetsOf_b81 (R : zRR) (a0 : Nat) (a1 : Nat) (a2 : Nat) (H22 : Int32 → Int32 → Int32 → zMem → Option (Int32 × zMem)) (i3 : Int32) (i4 : Int32) (i5 : Int32) (M : zMem) : Option (Int32 × zMem) :=
  zald 40 i5 fun j13 =>
  if (M.1 (zrf R a0 2) j13) = (12 : Int32) then
    (if i4 < (2 : Int32) then
      (mf_X8_sheetsOf_b124 R a0 a1 a2 H22 i3 i4 i5 M)
    else
      (zald 40 ((i4 + (-1)) - (1 : Int32)) fun j16 =>
      zald 40 (i4 + (-1)) fun j17 =>
      zald 40 ((i4 + (-1)) - (1 : Int32)) fun j18 =>
      zlet (zwI M (zrf R a0 5) j18 ((M.1 (zrf R a0 5) j16) &&& (M.1 (zrf R a0 5) j17))) fun M19 =>
      mf_X8_sheetsOf_b192 R a0 a1 a2 H22 i3 (i4 + (-1)) i5 M19))
  else
    (mf_X8_sheetsOf_b124 R a0 a1 a2 H22 i3 i4 i5 M)
theorem mt_X8_sheetsOf_b81 {C : zCx} {ad : Nat → Nat} {T : zTT} {R : zRR} {a0 : Nat} {a1 : Nat} {a2 : Nat} (h0 : zi8 T R a0) (h1 : zi7 T R a1) (h2 : zi3 T R a2) {H22 : Int32 → Int32 → Int32 → zMem → Option (Int32 × zMem)} (hH22 : ∀ (i3 : Int32) (i4 : Int32) (i5 : Int32) (M : zMem), zX C mi_X8_sheetsOf (zFin C zrvI ad T R) 0 0 (H22 i3 i4 i5 M) 22 [(0, .ref a0), (1, .ref a1), (2, .ref a2), (3, .int i3), (4, .int i4), (5, .int i5)] [] ad T R M) (i3 : Int32) (i4 : Int32) (i5 : Int32) (M : zMem) : zX C mi_X8_sheetsOf (zFin C zrvI ad T R) 0 0 (mf_X8_sheetsOf_b81 R a0 a1 a2 H22 i3 i4 i5 M) 81 [(0, .ref a0), (1, .ref a1), (2, .ref a2), (3, .int i3), (4, .int i4), (5, .int i5)] [] ad T R M := by
  unfold mf_X8_sheetsOf_b81
  refine zx_aload_n (i := 0) (zd me_X8_sheetsOf 49 rfl) rfl 0 rfl ?_
  refine zx_getR (zd me_X8_sheetsOf 50 rfl) fl_X8_11 (zi8_c h0) rfl (zi8_r2 h0) ?_
  refine zx_iload (zd me_X8_sheetsOf 51 rfl) 5 rfl ?_
  refine zx_iald (zd me_X8_sheetsOf 52 rfl) (zi8_t2 h0) (fun j13 hj13 => ?_)
  refine zx_bipush (v := 12) (zd me_X8_sheetsOf 53 rfl) (by decide) ?_
  refine zx_icmp_ne (tgt := 124) (zd me_X8_sheetsOf 54 rfl) (by decide) (fun c14 => ?_) (fun c14 => ?_)
  · exact mt_X8_sheetsOf_b124 h0 h1 h2 hH22 i3 i4 i5 M
  · refine zx_iload (zd me_X8_sheetsOf 55 rfl) 4 rfl ?_
    refine zx_iconst (v := 2) (zd me_X8_sheetsOf 56 rfl) (by decide) ?_
    refine zx_icmp_lt (tgt := 124) (zd me_X8_sheetsOf 57 rfl) (by decide) (fun c15 => ?_) (fun c15 => ?_)
    · exact mt_X8_sheetsOf_b124 h0 h1 h2 hH22 i3 i4 i5 M
    · refine zx_iinc (v := (-1)) (ls' := [(4, .int (i4 + (-1))), (0, .ref a0), (1, .ref a1), (2, .ref a2), (3, .int i3), (5, .int i5)]) (zd me_X8_sheetsOf 58 rfl) (Nat.le_of_ble_eq_true rfl) 4 rfl (by decide) rfl ?_
      refine zx_aload_n (i := 0) (zd me_X8_sheetsOf 59 rfl) rfl 1 rfl ?_
      refine zx_getR (zd me_X8_sheetsOf 60 rfl) fl_X8_21 (zi8_c h0) rfl (zi8_r5 h0) ?_
      refine zx_iload (zd me_X8_sheetsOf 61 rfl) 0 rfl ?_
      refine zx_iconst (v := 1) (zd me_X8_sheetsOf 62 rfl) (by decide) ?_
      refine zx_isub (zd me_X8_sheetsOf 63 rfl) ?_
      refine zx_dup2 (zd me_X8_sheetsOf 64 rfl) rfl rfl ?_
      refine zx_iald (zd me_X8_sheetsOf 65 rfl) (zi8_t5 h0) (fun j16 hj16 => ?_)
      refine zx_aload_n (i := 0) (zd me_X8_sheetsOf 66 rfl) rfl 1 rfl ?_
      refine zx_getR (zd me_X8_sheetsOf 67 rfl) fl_X8_21 (zi8_c h0) rfl (zi8_r5 h0) ?_
      refine zx_iload (zd me_X8_sheetsOf 68 rfl) 0 rfl ?_
      refine zx_iald (zd me_X8_sheetsOf 69 rfl) (zi8_t5 h0) (fun j17 hj17 => ?_)
      refine zx_iand (zd me_X8_sheetsOf 70 rfl) ?_
      refine zx_iast (zd me_X8_sheetsOf 71 rfl) (zi8_t5 h0) (fun M19 => ?_)
      refine zx_goto (tgt := 192) (zd me_X8_sheetsOf 72 rfl) (by decide) ?_
      refine zx_loc [1, 2, 3, 4, 0, 5] rfl ?_
      exact mt_X8_sheetsOf_b192 h0 h1 h2 hH22 i3 (i4 + (-1)) i5 M19
def mf_X8_sheetsOf_b198 (R : zRR) (a0 : Nat) (a1 : Nat) (a2 : Nat) (M : zMem) : Option (Int32 × zMem) :=
  zald 40 (0 : Int32) fun j12 =>
  some ((M.1 (zrf R a0 5) j12), M)
theorem mt_X8_sheetsOf_b198 {C : zCx} {ad : Nat → Nat} {T : zTT} {R : zRR} {a0 : Nat} {a1 : Nat} {a2 : Nat} (h0 : zi8 T R a0) (h1 : zi7 T R a1) (h2 : zi3 T R a2) (M : zMem) : zX C mi_X8_sheetsOf (zFin C zrvI ad T R) 0 0 (mf_X8_sheetsOf_b198 R a0 a1 a2 M) 198 [(0, .ref a0)] [] ad T R M := by
  unfold mf_X8_sheetsOf_b198
  refine zx_aload_n (i := 0) (zd me_X8_sheetsOf 112 rfl) rfl 0 rfl ?_
  refine zx_getR (zd me_X8_sheetsOf 113 rfl) fl_X8_21 (zi8_c h0) rfl (zi8_r5 h0) ?_
  refine zx_iconst (v := 0) (zd me_X8_sheetsOf 114 rfl) (by decide) ?_
  refine zx_iald (zd me_X8_sheetsOf 115 rfl) (zi8_t5 h0) (fun j12 hj12 => ?_)
  exact zx_iret (zd me_X8_sheetsOf 116 rfl) rfl
def mf_X8_sheetsOf_l22 (R : zRR) (a0 : Nat) (a1 : Nat) (a2 : Nat) : Nat → Int32 → Int32 → Int32 → zMem → Option (Int32 × zMem)
  | 0, _, _, _, _ => none
  | fuel + 1, i3, i4, i5, M =>
    if (M.1 a0 1) ≤ i5 then
      (mf_X8_sheetsOf_b198 R a0 a1 a2 M)
    else
      (if (40 : Int32) ≤ i5 then
        (mf_X8_sheetsOf_b198 R a0 a1 a2 M)
      else
        (zald 40 i5 fun j6 =>
        if (M.1 (zrf R a0 2) j6) = (13 : Int32) then
          (if i4 < (1 : Int32) then
            (mf_X8_sheetsOf_b81 R a0 a1 a2 (mf_X8_sheetsOf_l22 R a0 a1 a2 fuel) i3 i4 i5 M)
          else
            (zald 40 (i4 - (1 : Int32)) fun j9 =>
            zald 40 (i4 - (1 : Int32)) fun j10 =>
            zlet (zwI M (zrf R a0 5) j10 (i3 &&& ((M.1 (zrf R a0 5) j9) ^^^ (-1 : Int32)))) fun M11 =>
            mf_X8_sheetsOf_b192 R a0 a1 a2 (mf_X8_sheetsOf_l22 R a0 a1 a2 fuel) i3 i4 i5 M11))
        else
          (mf_X8_sheetsOf_b81 R a0 a1 a2 (mf_X8_sheetsOf_l22 R a0 a1 a2 fuel) i3 i4 i5 M)))
theorem mt_X8_sheetsOf_l22 {C : zCx} {ad : Nat → Nat} {T : zTT} {R : zRR} {a0 : Nat} {a1 : Nat} {a2 : Nat} (h0 : zi8 T R a0) (h1 : zi7 T R a1) (h2 : zi3 T R a2) : ∀ (fuel : Nat) (i3 : Int32) (i4 : Int32) (i5 : Int32) (M : zMem), zX C mi_X8_sheetsOf (zFin C zrvI ad T R) 0 0 (mf_X8_sheetsOf_l22 R a0 a1 a2 fuel i3 i4 i5 M) 22 [(0, .ref a0), (1, .ref a1), (2, .ref a2), (3, .int i3), (4, .int i4), (5, .int i5)] [] ad T R M := by
  intro fuel
  induction fuel with
  | zero => intros; exact zx_none
  | succ fuel ih =>
    intro i3 i4 i5 M
    rw [mf_X8_sheetsOf_l22]
    refine zx_iload (zd me_X8_sheetsOf 16 rfl) 5 rfl ?_
    refine zx_aload_n (i := 0) (zd me_X8_sheetsOf 17 rfl) rfl 0 rfl ?_
    refine zx_getI (zd me_X8_sheetsOf 18 rfl) fl_X8_28 (zi8_c h0) rfl ?_
    refine zx_icmp_ge (tgt := 198) (zd me_X8_sheetsOf 19 rfl) (by decide) (fun c4 => ?_) (fun c4 => ?_)
    · refine zx_loc [0] rfl ?_
      exact mt_X8_sheetsOf_b198 h0 h1 h2 M
    · refine zx_iload (zd me_X8_sheetsOf 20 rfl) 5 rfl ?_
      refine zx_bipush (v := 40) (zd me_X8_sheetsOf 21 rfl) (by decide) ?_
      refine zx_icmp_ge (tgt := 198) (zd me_X8_sheetsOf 22 rfl) (by decide) (fun c5 => ?_) (fun c5 => ?_)
      · refine zx_loc [0] rfl ?_
        exact mt_X8_sheetsOf_b198 h0 h1 h2 M
      · refine zx_aload_n (i := 0) (zd me_X8_sheetsOf 23 rfl) rfl 0 rfl ?_
        refine zx_getR (zd me_X8_sheetsOf 24 rfl) fl_X8_11 (zi8_c h0) rfl (zi8_r2 h0) ?_
        refine zx_iload (zd me_X8_sheetsOf 25 rfl) 5 rfl ?_
        refine zx_iald (zd me_X8_sheetsOf 26 rfl) (zi8_t2 h0) (fun j6 hj6 => ?_)
        refine zx_bipush (v := 13) (zd me_X8_sheetsOf 27 rfl) (by decide) ?_
        refine zx_icmp_ne (tgt := 81) (zd me_X8_sheetsOf 28 rfl) (by decide) (fun c7 => ?_) (fun c7 => ?_)
        · exact mt_X8_sheetsOf_b81 h0 h1 h2 ih i3 i4 i5 M
        · refine zx_iload (zd me_X8_sheetsOf 29 rfl) 4 rfl ?_
          refine zx_iconst (v := 1) (zd me_X8_sheetsOf 30 rfl) (by decide) ?_
          refine zx_icmp_lt (tgt := 81) (zd me_X8_sheetsOf 31 rfl) (by decide) (fun c8 => ?_) (fun c8 => ?_)
          · exact mt_X8_sheetsOf_b81 h0 h1 h2 ih i3 i4 i5 M
          · refine zx_aload_n (i := 0) (zd me_X8_sheetsOf 32 rfl) rfl 0 rfl ?_
            refine zx_getR (zd me_X8_sheetsOf 33 rfl) fl_X8_21 (zi8_c h0) rfl (zi8_r5 h0) ?_
            refine zx_iload (zd me_X8_sheetsOf 34 rfl) 4 rfl ?_
            refine zx_iconst (v := 1) (zd me_X8_sheetsOf 35 rfl) (by decide) ?_
            refine zx_isub (zd me_X8_sheetsOf 36 rfl) ?_
            refine zx_iload_n (i := 3) (zd me_X8_sheetsOf 37 rfl) rfl 3 rfl ?_
            refine zx_aload_n (i := 0) (zd me_X8_sheetsOf 38 rfl) rfl 0 rfl ?_
            refine zx_getR (zd me_X8_sheetsOf 39 rfl) fl_X8_21 (zi8_c h0) rfl (zi8_r5 h0) ?_
            refine zx_iload (zd me_X8_sheetsOf 40 rfl) 4 rfl ?_
            refine zx_iconst (v := 1) (zd me_X8_sheetsOf 41 rfl) (by decide) ?_
            refine zx_isub (zd me_X8_sheetsOf 42 rfl) ?_
            refine zx_iald (zd me_X8_sheetsOf 43 rfl) (zi8_t5 h0) (fun j9 hj9 => ?_)
            refine zx_iconst (v := (-1)) (zd me_X8_sheetsOf 44 rfl) (by decide) ?_
            refine zx_ixor (zd me_X8_sheetsOf 45 rfl) ?_
            refine zx_iand (zd me_X8_sheetsOf 46 rfl) ?_
            refine zx_iast (zd me_X8_sheetsOf 47 rfl) (zi8_t5 h0) (fun M11 => ?_)
            refine zx_goto (tgt := 192) (zd me_X8_sheetsOf 48 rfl) (by decide) ?_
            exact mt_X8_sheetsOf_b192 h0 h1 h2 ih i3 i4 i5 M11
def mf_X8_sheetsOf (R : zRR) (a0 : Nat) (a1 : Nat) (a2 : Nat) (M : zMem) : Option (Int32 × zMem) :=
  zlet ((((1 : Int32) <<< ((M.1 a1 2) &&& 31)) - (1 : Int32)) : Int32) fun x1 =>
  zald 40 (0 : Int32) fun j2 =>
  zlet (zwI M (zrf R a0 5) j2 (0 : Int32)) fun M3 =>
  mf_X8_sheetsOf_l22 R a0 a1 a2 zF x1 (0 : Int32) (0 : Int32) M3
theorem mc_X8_sheetsOf (l : Launch) {T : zTT} {R : zRR} {a0 : Nat} {a1 : Nat} {a2 : Nat} (h0 : zi8 T R a0) (h1 : zi7 T R a1) (h2 : zi3 T R a2) (M : zMem) : zMS l yX8_sheetsOf mi_X8_sheetsOf zrvI (mf_X8_sheetsOf R a0 a1 a2 M) [.ref a0, .ref a1, .ref a2] T R M := by
  refine zMS.of (by decide +kernel) rfl ⟨rfl, rfl⟩ (Nat.le_of_ble_eq_true rfl) (fun C ad _ => ?_)
  show zX C mi_X8_sheetsOf (zFin C zrvI ad T R) 0 0 (mf_X8_sheetsOf R a0 a1 a2 M) 0 [(0, .ref a0), (1, .ref a1), (2, .ref a2)] [] ad T R M
  unfold mf_X8_sheetsOf
  refine zx_iconst (v := 1) (zd me_X8_sheetsOf 0 rfl) (by decide) ?_
  refine zx_aload_n (i := 1) (zd me_X8_sheetsOf 1 rfl) rfl 1 rfl ?_
  refine zx_getI (zd me_X8_sheetsOf 2 rfl) fl_X8_100 (zi7_c h1) rfl ?_
  refine zx_ishl (zd me_X8_sheetsOf 3 rfl) ?_
  refine zx_iconst (v := 1) (zd me_X8_sheetsOf 4 rfl) (by decide) ?_
  refine zx_isub (zd me_X8_sheetsOf 5 rfl) ?_
  refine zx_leti (fun x1 => ?_)
  refine zx_istore_n (i := 3) (ls' := [(3, .int x1), (0, .ref a0), (1, .ref a1), (2, .ref a2)]) (zd me_X8_sheetsOf 6 rfl) rfl (Nat.le_of_ble_eq_true rfl) rfl ?_
  refine zx_iconst (v := 0) (zd me_X8_sheetsOf 7 rfl) (by decide) ?_
  refine zx_istore (ls' := [(4, .int (0 : Int32)), (3, .int x1), (0, .ref a0), (1, .ref a1), (2, .ref a2)]) (zd me_X8_sheetsOf 8 rfl) (Nat.le_of_ble_eq_true rfl) rfl ?_
  refine zx_aload_n (i := 0) (zd me_X8_sheetsOf 9 rfl) rfl 2 rfl ?_
  refine zx_getR (zd me_X8_sheetsOf 10 rfl) fl_X8_21 (zi8_c h0) rfl (zi8_r5 h0) ?_
  refine zx_iconst (v := 0) (zd me_X8_sheetsOf 11 rfl) (by decide) ?_
  refine zx_iconst (v := 0) (zd me_X8_sheetsOf 12 rfl) (by decide) ?_
  refine zx_iast (zd me_X8_sheetsOf 13 rfl) (zi8_t5 h0) (fun M3 => ?_)
  refine zx_iconst (v := 0) (zd me_X8_sheetsOf 14 rfl) (by decide) ?_
  refine zx_istore (ls' := [(5, .int (0 : Int32)), (4, .int (0 : Int32)), (3, .int x1), (0, .ref a0), (1, .ref a1), (2, .ref a2)]) (zd me_X8_sheetsOf 15 rfl) (Nat.le_of_ble_eq_true rfl) rfl ?_
  refine zx_loc [3, 4, 5, 2, 1, 0] rfl ?_
  exact mt_X8_sheetsOf_l22 h0 h1 h2 zF x1 (0 : Int32) (0 : Int32) M3
def mf_X9_add (R : zRR) (a0 : Nat) (i1 : Int32) (M : zMem) : Option (Unit × zMem) :=
  if (24 : Int32) ≤ (M.1 a0 1) then
    (some ((), M))
  else
    (zald 24 (M.1 a0 1) fun j2 =>
    zlet (zwI M (zrf R a0 0) j2 i1) fun M3 =>
    zlet (zwI M3 a0 1 ((M3.1 a0 1) + (1 : Int32))) fun M4 =>
    some ((), M4))
theorem mc_X9_add (l : Launch) {T : zTT} {R : zRR} {a0 : Nat} (h0 : zi9 T R a0) (i1 : Int32) (M : zMem) : zMS l yX9_add mi_X9_add zrvV (mf_X9_add R a0 i1 M) [.ref a0, .int i1] T R M := by
  refine zMS.of (by decide +kernel) rfl ⟨rfl, rfl⟩ (Nat.le_of_ble_eq_true rfl) (fun C ad _ => ?_)
  show zX C mi_X9_add (zFin C zrvV ad T R) 0 0 (mf_X9_add R a0 i1 M) 0 [(0, .ref a0), (1, .int i1)] [] ad T R M
  unfold mf_X9_add
  refine zx_aload_n (i := 0) (zd me_X9_add 0 rfl) rfl 0 rfl ?_
  refine zx_getI (zd me_X9_add 1 rfl) fl_X9_15 (zi9_c h0) rfl ?_
  refine zx_bipush (v := 24) (zd me_X9_add 2 rfl) (by decide) ?_
  refine zx_icmp_ge (tgt := 29) (zd me_X9_add 3 rfl) (by decide) (fun c1 => ?_) (fun c1 => ?_)
  · exact zx_vret (zd me_X9_add 16 rfl) rfl
  · refine zx_aload_n (i := 0) (zd me_X9_add 4 rfl) rfl 0 rfl ?_
    refine zx_getR (zd me_X9_add 5 rfl) fl_X9_11 (zi9_c h0) rfl (zi9_r0 h0) ?_
    refine zx_aload_n (i := 0) (zd me_X9_add 6 rfl) rfl 0 rfl ?_
    refine zx_getI (zd me_X9_add 7 rfl) fl_X9_15 (zi9_c h0) rfl ?_
    refine zx_iload_n (i := 1) (zd me_X9_add 8 rfl) rfl 1 rfl ?_
    refine zx_iast (zd me_X9_add 9 rfl) (zi9_t0 h0) (fun M3 => ?_)
    refine zx_aload_n (i := 0) (zd me_X9_add 10 rfl) rfl 0 rfl ?_
    refine zx_dup (zd me_X9_add 11 rfl) rfl ?_
    refine zx_getI (zd me_X9_add 12 rfl) fl_X9_15 (zi9_c h0) rfl ?_
    refine zx_iconst (v := 1) (zd me_X9_add 13 rfl) (by decide) ?_
    refine zx_iadd (zd me_X9_add 14 rfl) ?_
    refine zx_putI (zd me_X9_add 15 rfl) fp_X9_15 (zi9_c h0) rfl (fun M4 _ => ?_)
    exact zx_vret (zd me_X9_add 16 rfl) rfl
def mf_X9_addName_b31 (R : zRR) (a0 : Nat) (H3 : Int64 → Int32 → zMem → Option (Unit × zMem)) (l1 : Int64) (i3 : Int32) (M : zMem) : Option (Unit × zMem) :=
  H3 l1 (i3 + (-5)) M
theorem mt_X9_addName_b31 {C : zCx} {ad : Nat → Nat} {T : zTT} {R : zRR} {a0 : Nat} (h0 : zi9 T R a0) {H3 : Int64 → Int32 → zMem → Option (Unit × zMem)} (hH3 : ∀ (l1 : Int64) (i3 : Int32) (M : zMem), zX C mi_X9_addName (zFin C zrvV ad T R) 0 0 (H3 l1 i3 M) 3 [(0, .ref a0), (1, .long l1), (3, .int i3)] [] ad T R M) (l1 : Int64) (i3 : Int32) (M : zMem) : zX C mi_X9_addName (zFin C zrvV ad T R) 0 0 (mf_X9_addName_b31 R a0 H3 l1 i3 M) 31 [(0, .ref a0), (1, .long l1), (3, .int i3)] [] ad T R M := by
  unfold mf_X9_addName_b31
  refine zx_iinc (v := (-5)) (ls' := [(3, .int (i3 + (-5))), (0, .ref a0), (1, .long l1)]) (zd me_X9_addName 18 rfl) (Nat.le_of_ble_eq_true rfl) 2 rfl (by decide) rfl ?_
  refine zx_goto (tgt := 3) (zd me_X9_addName 19 rfl) (by decide) ?_
  refine zx_loc [1, 2, 0] rfl ?_
  exact hH3 l1 (i3 + (-5)) M
def mf_X9_addName_l3 (R : zRR) (a0 : Nat) : Nat → Int64 → Int32 → zMem → Option (Unit × zMem)
  | 0, _, _, _ => none
  | fuel + 1, l1, i3, M =>
    if i3 < 0 then
      (some ((), M))
    else
      (zlet (((l1 >>> (i3.toInt64 &&& 63)) &&& (31 : Int64)).toInt32 : Int32) fun x2 =>
      if x2 = 0 then
        (mf_X9_addName_b31 R a0 (mf_X9_addName_l3 R a0 fuel) l1 i3 M)
      else
        (zcl (mf_X9_add R a0 ((96 : Int32) + x2) M) fun _ M4 =>
        mf_X9_addName_b31 R a0 (mf_X9_addName_l3 R a0 fuel) l1 i3 M4))
theorem mt_X9_addName_l3 {C : zCx} {ad : Nat → Nat} {T : zTT} {R : zRR} {a0 : Nat} (h0 : zi9 T R a0) : ∀ (fuel : Nat) (l1 : Int64) (i3 : Int32) (M : zMem), zX C mi_X9_addName (zFin C zrvV ad T R) 0 0 (mf_X9_addName_l3 R a0 fuel l1 i3 M) 3 [(0, .ref a0), (1, .long l1), (3, .int i3)] [] ad T R M := by
  intro fuel
  induction fuel with
  | zero => intros; exact zx_none
  | succ fuel ih =>
    intro l1 i3 M
    rw [mf_X9_addName_l3]
    refine zx_iload_n (i := 3) (zd me_X9_addName 2 rfl) rfl 2 rfl ?_
    refine zx_if_lt (tgt := 37) (zd me_X9_addName 3 rfl) (by decide) (fun c1 => ?_) (fun c1 => ?_)
    · exact zx_vret (zd me_X9_addName 20 rfl) rfl
    · refine zx_lload_n (i := 1) (zd me_X9_addName 4 rfl) rfl 1 rfl ?_
      refine zx_iload_n (i := 3) (zd me_X9_addName 5 rfl) rfl 2 rfl ?_
      refine zx_lshr (zd me_X9_addName 6 rfl) ?_
      refine zx_ldc2 (v := 31) (zd me_X9_addName 7 rfl) (zt5 0 rfl rfl) ?_
      refine zx_land (zd me_X9_addName 8 rfl) ?_
      refine zx_l2i (zd me_X9_addName 9 rfl) ?_
      refine zx_leti (fun x2 => ?_)
      refine zx_istore (ls' := [(4, .int x2), (0, .ref a0), (1, .long l1), (3, .int i3)]) (zd me_X9_addName 10 rfl) (Nat.le_of_ble_eq_true rfl) rfl ?_
      refine zx_iload (zd me_X9_addName 11 rfl) 0 rfl ?_
      refine zx_if_eq (tgt := 31) (zd me_X9_addName 12 rfl) (by decide) (fun c3 => ?_) (fun c3 => ?_)
      · refine zx_loc [1, 2, 3] rfl ?_
        exact mt_X9_addName_b31 h0 ih l1 i3 M
      · refine zx_aload_n (i := 0) (zd me_X9_addName 13 rfl) rfl 1 rfl ?_
        refine zx_bipush (v := 96) (zd me_X9_addName 14 rfl) (by decide) ?_
        refine zx_iload (zd me_X9_addName 15 rfl) 0 rfl ?_
        refine zx_iadd (zd me_X9_addName 16 rfl) ?_
        refine zx_callVV1 (zd me_X9_addName 17 rfl) (mc_X9_add (zl C) h0 ((96 : Int32) + x2) M) lk_X9_61 ⟨(Nat.le_of_ble_eq_true rfl), (Nat.le_of_ble_eq_true rfl)⟩ (Nat.le_of_ble_eq_true rfl) (zi9_c h0) rfl (fun r5 M4 => ?_)
        refine zx_loc [1, 2, 3] rfl ?_
        exact mt_X9_addName_b31 h0 ih l1 i3 M4
def mf_X9_addName (R : zRR) (a0 : Nat) (l1 : Int64) (M : zMem) : Option (Unit × zMem) :=
  mf_X9_addName_l3 R a0 zF l1 (30 : Int32) M
theorem mc_X9_addName (l : Launch) {T : zTT} {R : zRR} {a0 : Nat} (h0 : zi9 T R a0) (l1 : Int64) (M : zMem) : zMS l yX9_addName mi_X9_addName zrvV (mf_X9_addName R a0 l1 M) [.ref a0, .long l1] T R M := by
  refine zMS.of (by decide +kernel) rfl ⟨rfl, rfl⟩ (Nat.le_of_ble_eq_true rfl) (fun C ad _ => ?_)
  show zX C mi_X9_addName (zFin C zrvV ad T R) 0 0 (mf_X9_addName R a0 l1 M) 0 [(0, .ref a0), (1, .long l1)] [] ad T R M
  unfold mf_X9_addName
  refine zx_bipush (v := 30) (zd me_X9_addName 0 rfl) (by decide) ?_
  refine zx_istore_n (i := 3) (ls' := [(3, .int (30 : Int32)), (0, .ref a0), (1, .long l1)]) (zd me_X9_addName 1 rfl) rfl (Nat.le_of_ble_eq_true rfl) rfl ?_
  refine zx_loc [1, 2, 0] rfl ?_
  exact mt_X9_addName_l3 h0 zF l1 (30 : Int32) M
def mf_X9_addText_l2 (R : zRR) (a0 : Nat) (a1 : Nat) : Nat → Int32 → zMem → Option (Unit × zMem)
  | 0, _, _ => none
  | fuel + 1, i2, M =>
    if (zslen a1) ≤ i2 then
      (some ((), M))
    else
      (zald (zlenJS.getD a1 0) i2 fun j2 =>
      zcl (mf_X9_add R a0 (zsch a1 j2) M) fun _ M3 =>
      mf_X9_addText_l2 R a0 a1 fuel (i2 + 1) M3)
theorem mt_X9_addText_l2 {C : zCx} {ad : Nat → Nat} {T : zTT} {R : zRR} {a0 : Nat} {a1 : Nat} (h0 : zi9 T R a0) (h1 : a1 < 5) : ∀ (fuel : Nat) (i2 : Int32) (M : zMem), zX C mi_X9_addText (zFin C zrvV ad T R) 0 0 (mf_X9_addText_l2 R a0 a1 fuel i2 M) 2 [(0, .ref a0), (1, .ref (zBIG + a1)), (2, .int i2)] [] ad T R M := by
  intro fuel
  induction fuel with
  | zero => intros; exact zx_none
  | succ fuel ih =>
    intro i2 M
    rw [mf_X9_addText_l2]
    refine zx_iload_n (i := 2) (zd me_X9_addText 2 rfl) rfl 2 rfl ?_
    refine zx_aload_n (i := 1) (zd me_X9_addText 3 rfl) rfl 1 rfl ?_
    refine zx_strlen (zd me_X9_addText 4 rfl) lk_X9_70 ⟨(Nat.le_of_ble_eq_true rfl), (Nat.le_of_ble_eq_true rfl)⟩ (Nat.le_of_ble_eq_true rfl) h1 ?_
    refine zx_icmp_ge (tgt := 25) (zd me_X9_addText 5 rfl) (by decide) (fun c1 => ?_) (fun c1 => ?_)
    · exact zx_vret (zd me_X9_addText 13 rfl) rfl
    · refine zx_aload_n (i := 0) (zd me_X9_addText 6 rfl) rfl 0 rfl ?_
      refine zx_aload_n (i := 1) (zd me_X9_addText 7 rfl) rfl 1 rfl ?_
      refine zx_iload_n (i := 2) (zd me_X9_addText 8 rfl) rfl 2 rfl ?_
      refine zx_charAt (zd me_X9_addText 9 rfl) lk_X9_75 ⟨(Nat.le_of_ble_eq_true rfl), (Nat.le_of_ble_eq_true rfl)⟩ (Nat.le_of_ble_eq_true rfl) h1 (fun j2 => ?_)
      refine zx_callVV1 (zd me_X9_addText 10 rfl) (mc_X9_add (zl C) h0 (zsch a1 j2) M) lk_X9_61 ⟨(Nat.le_of_ble_eq_true rfl), (Nat.le_of_ble_eq_true rfl)⟩ (Nat.le_of_ble_eq_true rfl) (zi9_c h0) rfl (fun r4 M3 => ?_)
      refine zx_iinc (v := 1) (ls' := [(2, .int (i2 + 1)), (0, .ref a0), (1, .ref (zBIG + a1))]) (zd me_X9_addText 11 rfl) (Nat.le_of_ble_eq_true rfl) 2 rfl (by decide) rfl ?_
      refine zx_goto (tgt := 2) (zd me_X9_addText 12 rfl) (by decide) ?_
      refine zx_loc [1, 2, 0] rfl ?_
      exact ih (i2 + 1) M3
def mf_X9_addText (R : zRR) (a0 : Nat) (a1 : Nat) (M : zMem) : Option (Unit × zMem) :=
  mf_X9_addText_l2 R a0 a1 zF (0 : Int32) M
theorem mc_X9_addText (l : Launch) {T : zTT} {R : zRR} {a0 : Nat} {a1 : Nat} (h0 : zi9 T R a0) (h1 : a1 < 5) (M : zMem) : zMS l yX9_addText mi_X9_addText zrvV (mf_X9_addText R a0 a1 M) [.ref a0, .ref (zBIG + a1)] T R M := by
  refine zMS.of (by decide +kernel) rfl ⟨rfl, rfl⟩ (Nat.le_of_ble_eq_true rfl) (fun C ad _ => ?_)
  show zX C mi_X9_addText (zFin C zrvV ad T R) 0 0 (mf_X9_addText R a0 a1 M) 0 [(0, .ref a0), (1, .ref (zBIG + a1))] [] ad T R M
  unfold mf_X9_addText
  refine zx_iconst (v := 0) (zd me_X9_addText 0 rfl) (by decide) ?_
  refine zx_istore_n (i := 2) (ls' := [(2, .int (0 : Int32)), (0, .ref a0), (1, .ref (zBIG + a1))]) (zd me_X9_addText 1 rfl) rfl (Nat.le_of_ble_eq_true rfl) rfl ?_
  refine zx_loc [1, 2, 0] rfl ?_
  exact mt_X9_addText_l2 h0 h1 zF (0 : Int32) M
def mf_X9_writeBath_b68 (R : zRR) (a0 : Nat) (a1 : Nat) (a2 : Nat) (i5 : Int32) (M : zMem) : Option (Unit × zMem) :=
  zcl (mf_X9_add R a0 ((48 : Int32) + (i5 - i5 / (10 : Int32) * (10 : Int32))) M) fun _ M18 =>
  some ((), M18)
theorem mt_X9_writeBath_b68 {C : zCx} {ad : Nat → Nat} {T : zTT} {R : zRR} {a0 : Nat} {a1 : Nat} {a2 : Nat} (h0 : zi9 T R a0) (h1 : zi7 T R a1) (h2 : zi3 T R a2) (i5 : Int32) (M : zMem) : zX C mi_X9_writeBath (zFin C zrvV ad T R) 0 0 (mf_X9_writeBath_b68 R a0 a1 a2 i5 M) 68 [(0, .ref a0), (5, .int i5)] [] ad T R M := by
  unfold mf_X9_writeBath_b68
  refine zx_aload_n (i := 0) (zd me_X9_writeBath 37 rfl) rfl 0 rfl ?_
  refine zx_bipush (v := 48) (zd me_X9_writeBath 38 rfl) (by decide) ?_
  refine zx_iload (zd me_X9_writeBath 39 rfl) 1 rfl ?_
  refine zx_bipush (v := 10) (zd me_X9_writeBath 40 rfl) (by decide) ?_
  refine zx_iremN (zd me_X9_writeBath 41 rfl) (by decide) ?_
  refine zx_iadd (zd me_X9_writeBath 42 rfl) ?_
  refine zx_callVV1 (zd me_X9_writeBath 43 rfl) (mc_X9_add (zl C) h0 ((48 : Int32) + (i5 - i5 / (10 : Int32) * (10 : Int32))) M) lk_X9_61 ⟨(Nat.le_of_ble_eq_true rfl), (Nat.le_of_ble_eq_true rfl)⟩ (Nat.le_of_ble_eq_true rfl) (zi9_c h0) rfl (fun r19 M18 => ?_)
  exact zx_vret (zd me_X9_writeBath 44 rfl) rfl
def mf_X9_writeBath (R : zRR) (a0 : Nat) (a1 : Nat) (a2 : Nat) (i3 : Int32) (M : zMem) : Option (Unit × zMem) :=
  zcl (mf_X3_bathOf R a2 i3 M) fun r2 M1 =>
  zcl (mf_X7_hasBath R a1 r2 M1) fun r4 M3 =>
  if r4 = 0 then
    (some ((), M3))
  else
    (zcl (mf_X9_addText R a0 4 M3) fun _ M6 =>
    zald 19 ((0 : Int32) + r2) fun j8 =>
    zcl (mf_X9_addName R a0 (M6.2 (zrf R a1 9) j8) M6) fun _ M9 =>
    zcl (mf_X9_add R a0 (32 : Int32) M9) fun _ M11 =>
    zcl (mf_X3_leftOf R a2 i3 M11) fun r14 M13 =>
    if r14 ≤ (9 : Int32) then
      (mf_X9_writeBath_b68 R a0 a1 a2 r14 M13)
    else
      (zcl (mf_X9_add R a0 ((48 : Int32) + (r14 / (10 : Int32))) M13) fun _ M16 =>
      mf_X9_writeBath_b68 R a0 a1 a2 r14 M16))
theorem mc_X9_writeBath (l : Launch) {T : zTT} {R : zRR} {a0 : Nat} {a1 : Nat} {a2 : Nat} (h0 : zi9 T R a0) (h1 : zi7 T R a1) (h2 : zi3 T R a2) (i3 : Int32) (M : zMem) : zMS l yX9_writeBath mi_X9_writeBath zrvV (mf_X9_writeBath R a0 a1 a2 i3 M) [.ref a0, .ref a1, .ref a2, .int i3] T R M := by
  refine zMS.of (by decide +kernel) rfl ⟨rfl, rfl⟩ (Nat.le_of_ble_eq_true rfl) (fun C ad _ => ?_)
  show zX C mi_X9_writeBath (zFin C zrvV ad T R) 0 0 (mf_X9_writeBath R a0 a1 a2 i3 M) 0 [(0, .ref a0), (1, .ref a1), (2, .ref a2), (3, .int i3)] [] ad T R M
  unfold mf_X9_writeBath
  refine zx_aload_n (i := 2) (zd me_X9_writeBath 0 rfl) rfl 2 rfl ?_
  refine zx_iload_n (i := 3) (zd me_X9_writeBath 1 rfl) rfl 3 rfl ?_
  refine zx_callVI1 (zd me_X9_writeBath 2 rfl) (mc_X3_bathOf (zl C) h2 i3 M) lk_X9_53 ⟨(Nat.le_of_ble_eq_true rfl), (Nat.le_of_ble_eq_true rfl)⟩ (Nat.le_of_ble_eq_true rfl) (zi3_c h2) rfl (fun r2 M1 => ?_)
  refine zx_istore (ls' := [(4, .int r2), (0, .ref a0), (1, .ref a1), (2, .ref a2), (3, .int i3)]) (zd me_X9_writeBath 3 rfl) (Nat.le_of_ble_eq_true rfl) rfl ?_
  refine zx_aload_n (i := 1) (zd me_X9_writeBath 4 rfl) rfl 2 rfl ?_
  refine zx_iload (zd me_X9_writeBath 5 rfl) 0 rfl ?_
  refine zx_callVI1 (zd me_X9_writeBath 6 rfl) (mc_X7_hasBath (zl C) h1 r2 M1) lk_X9_56 ⟨(Nat.le_of_ble_eq_true rfl), (Nat.le_of_ble_eq_true rfl)⟩ (Nat.le_of_ble_eq_true rfl) (zi7_c h1) rfl (fun r4 M3 => ?_)
  refine zx_if_ne (tgt := 17) (zd me_X9_writeBath 7 rfl) (by decide) (fun c5 => ?_) (fun c5 => ?_)
  · refine zx_aload_n (i := 0) (zd me_X9_writeBath 9 rfl) rfl 1 rfl ?_
    refine zx_ldcS (zd me_X9_writeBath 10 rfl) 4 (by decide) rfl rfl ?_
    refine zx_callVV1 (zd me_X9_writeBath 11 rfl) (mc_X9_addText (zl C) h0 (by decide) M3) lk_X9_41 ⟨(Nat.le_of_ble_eq_true rfl), (Nat.le_of_ble_eq_true rfl)⟩ (Nat.le_of_ble_eq_true rfl) (zi9_c h0) rfl (fun r7 M6 => ?_)
    refine zx_aload_n (i := 0) (zd me_X9_writeBath 12 rfl) rfl 1 rfl ?_
    refine zx_aload_n (i := 1) (zd me_X9_writeBath 13 rfl) rfl 2 rfl ?_
    refine zx_getR (zd me_X9_writeBath 14 rfl) fl_X9_25 (zi7_c h1) rfl (zi7_r9 h1) ?_
    refine zx_iconst (v := 0) (zd me_X9_writeBath 15 rfl) (by decide) ?_
    refine zx_iload (zd me_X9_writeBath 16 rfl) 0 rfl ?_
    refine zx_iadd (zd me_X9_writeBath 17 rfl) ?_
    refine zx_lald (zd me_X9_writeBath 18 rfl) (zi7_t9 h1) (fun j8 hj8 => ?_)
    refine zx_callVV1 (zd me_X9_writeBath 19 rfl) (mc_X9_addName (zl C) h0 (M6.2 (zrf R a1 9) j8) M6) lk_X9_29 ⟨(Nat.le_of_ble_eq_true rfl), (Nat.le_of_ble_eq_true rfl)⟩ (Nat.le_of_ble_eq_true rfl) (zi9_c h0) rfl (fun r10 M9 => ?_)
    refine zx_aload_n (i := 0) (zd me_X9_writeBath 20 rfl) rfl 1 rfl ?_
    refine zx_bipush (v := 32) (zd me_X9_writeBath 21 rfl) (by decide) ?_
    refine zx_callVV1 (zd me_X9_writeBath 22 rfl) (mc_X9_add (zl C) h0 (32 : Int32) M9) lk_X9_61 ⟨(Nat.le_of_ble_eq_true rfl), (Nat.le_of_ble_eq_true rfl)⟩ (Nat.le_of_ble_eq_true rfl) (zi9_c h0) rfl (fun r12 M11 => ?_)
    refine zx_aload_n (i := 2) (zd me_X9_writeBath 23 rfl) rfl 3 rfl ?_
    refine zx_iload_n (i := 3) (zd me_X9_writeBath 24 rfl) rfl 4 rfl ?_
    refine zx_callVI1 (zd me_X9_writeBath 25 rfl) (mc_X3_leftOf (zl C) h2 i3 M11) lk_X9_65 ⟨(Nat.le_of_ble_eq_true rfl), (Nat.le_of_ble_eq_true rfl)⟩ (Nat.le_of_ble_eq_true rfl) (zi3_c h2) rfl (fun r14 M13 => ?_)
    refine zx_istore (ls' := [(5, .int r14), (4, .int r2), (0, .ref a0), (1, .ref a1), (2, .ref a2), (3, .int i3)]) (zd me_X9_writeBath 26 rfl) (Nat.le_of_ble_eq_true rfl) rfl ?_
    refine zx_iload (zd me_X9_writeBath 27 rfl) 0 rfl ?_
    refine zx_bipush (v := 9) (zd me_X9_writeBath 28 rfl) (by decide) ?_
    refine zx_icmp_le (tgt := 68) (zd me_X9_writeBath 29 rfl) (by decide) (fun c15 => ?_) (fun c15 => ?_)
    · refine zx_loc [2, 0] rfl ?_
      exact mt_X9_writeBath_b68 h0 h1 h2 r14 M13
    · refine zx_aload_n (i := 0) (zd me_X9_writeBath 30 rfl) rfl 2 rfl ?_
      refine zx_bipush (v := 48) (zd me_X9_writeBath 31 rfl) (by decide) ?_
      refine zx_iload (zd me_X9_writeBath 32 rfl) 0 rfl ?_
      refine zx_bipush (v := 10) (zd me_X9_writeBath 33 rfl) (by decide) ?_
      refine zx_idivN (zd me_X9_writeBath 34 rfl) (by decide) ?_
      refine zx_iadd (zd me_X9_writeBath 35 rfl) ?_
      refine zx_callVV1 (zd me_X9_writeBath 36 rfl) (mc_X9_add (zl C) h0 ((48 : Int32) + (r14 / (10 : Int32))) M13) lk_X9_61 ⟨(Nat.le_of_ble_eq_true rfl), (Nat.le_of_ble_eq_true rfl)⟩ (Nat.le_of_ble_eq_true rfl) (zi9_c h0) rfl (fun r17 M16 => ?_)
      refine zx_loc [2, 0] rfl ?_
      exact mt_X9_writeBath_b68 h0 h1 h2 r14 M16
  · exact zx_vret (zd me_X9_writeBath 8 rfl) rfl
def mf_X9_write (R : zRR) (a0 : Nat) (a1 : Nat) (a2 : Nat) (i3 : Int32) (M : zMem) : Option (Unit × zMem) :=
  zlet (zwI M a0 1 (0 : Int32)) fun M1 =>
  zcl (mf_X7_hasSheet R a1 i3 M1) fun r3 M2 =>
  if r3 = 0 then
    (some ((), M2))
  else
    (zald 19 ((11 : Int32) + i3) fun j5 =>
    zcl (mf_X9_addName R a0 (M2.2 (zrf R a1 9) j5) M2) fun _ M6 =>
    zcl (mf_X3_howIs R a2 i3 M6) fun r9 M8 =>
    if r9 = 0 then
      (zcl (mf_X9_addText R a0 1 M8) fun _ M11 =>
      some ((), M11))
    else
    if r9 = 1 then
      (zcl (mf_X9_writeBath R a0 a1 a2 i3 M8) fun _ M14 =>
      some ((), M14))
    else
    if r9 = 2 then
      (zcl (mf_X9_addText R a0 2 M8) fun _ M17 =>
      some ((), M17))
    else
    if r9 = 3 then
      (zcl (mf_X9_addText R a0 3 M8) fun _ M20 =>
      some ((), M20))
    else
      (zcl (mf_X9_writeBath R a0 a1 a2 i3 M8) fun _ M22 =>
      some ((), M22)))
theorem mc_X9_write (l : Launch) {T : zTT} {R : zRR} {a0 : Nat} {a1 : Nat} {a2 : Nat} (h0 : zi9 T R a0) (h1 : zi7 T R a1) (h2 : zi3 T R a2) (i3 : Int32) (M : zMem) : zMS l yX9_write mi_X9_write zrvV (mf_X9_write R a0 a1 a2 i3 M) [.ref a0, .ref a1, .ref a2, .int i3] T R M := by
  refine zMS.of (by decide +kernel) rfl ⟨rfl, rfl⟩ (Nat.le_of_ble_eq_true rfl) (fun C ad _ => ?_)
  show zX C mi_X9_write (zFin C zrvV ad T R) 0 0 (mf_X9_write R a0 a1 a2 i3 M) 0 [(0, .ref a0), (1, .ref a1), (2, .ref a2), (3, .int i3)] [] ad T R M
  unfold mf_X9_write
  refine zx_aload_n (i := 0) (zd me_X9_write 0 rfl) rfl 0 rfl ?_
  refine zx_iconst (v := 0) (zd me_X9_write 1 rfl) (by decide) ?_
  refine zx_putI (zd me_X9_write 2 rfl) fp_X9_15 (zi9_c h0) rfl (fun M1 _ => ?_)
  refine zx_aload_n (i := 1) (zd me_X9_write 3 rfl) rfl 1 rfl ?_
  refine zx_iload_n (i := 3) (zd me_X9_write 4 rfl) rfl 3 rfl ?_
  refine zx_callVI1 (zd me_X9_write 5 rfl) (mc_X7_hasSheet (zl C) h1 i3 M1) lk_X9_19 ⟨(Nat.le_of_ble_eq_true rfl), (Nat.le_of_ble_eq_true rfl)⟩ (Nat.le_of_ble_eq_true rfl) (zi7_c h1) rfl (fun r3 M2 => ?_)
  refine zx_if_ne (tgt := 14) (zd me_X9_write 6 rfl) (by decide) (fun c4 => ?_) (fun c4 => ?_)
  · refine zx_aload_n (i := 0) (zd me_X9_write 8 rfl) rfl 0 rfl ?_
    refine zx_aload_n (i := 1) (zd me_X9_write 9 rfl) rfl 1 rfl ?_
    refine zx_getR (zd me_X9_write 10 rfl) fl_X9_25 (zi7_c h1) rfl (zi7_r9 h1) ?_
    refine zx_bipush (v := 11) (zd me_X9_write 11 rfl) (by decide) ?_
    refine zx_iload_n (i := 3) (zd me_X9_write 12 rfl) rfl 3 rfl ?_
    refine zx_iadd (zd me_X9_write 13 rfl) ?_
    refine zx_lald (zd me_X9_write 14 rfl) (zi7_t9 h1) (fun j5 hj5 => ?_)
    refine zx_callVV1 (zd me_X9_write 15 rfl) (mc_X9_addName (zl C) h0 (M2.2 (zrf R a1 9) j5) M2) lk_X9_29 ⟨(Nat.le_of_ble_eq_true rfl), (Nat.le_of_ble_eq_true rfl)⟩ (Nat.le_of_ble_eq_true rfl) (zi9_c h0) rfl (fun r7 M6 => ?_)
    refine zx_aload_n (i := 2) (zd me_X9_write 16 rfl) rfl 2 rfl ?_
    refine zx_iload_n (i := 3) (zd me_X9_write 17 rfl) rfl 3 rfl ?_
    refine zx_callVI1 (zd me_X9_write 18 rfl) (mc_X3_howIs (zl C) h2 i3 M6) lk_X9_33 ⟨(Nat.le_of_ble_eq_true rfl), (Nat.le_of_ble_eq_true rfl)⟩ (Nat.le_of_ble_eq_true rfl) (zi3_c h2) rfl (fun r9 M8 => ?_)
    refine zx_ite (fun c10 => ?_) (fun c10 => ?_)
    · refine zx_tin (off := 32) (tgt := 64) (zd me_X9_write 19 rfl) (by rw [c10]; decide) (by rw [c10]; decide) (by rw [c10]; rfl) (by decide) ?_
      refine zx_aload_n (i := 0) (zd me_X9_write 20 rfl) rfl 0 rfl ?_
      refine zx_ldcS (zd me_X9_write 21 rfl) 1 (by decide) rfl rfl ?_
      refine zx_callVV1 (zd me_X9_write 22 rfl) (mc_X9_addText (zl C) h0 (by decide) M8) lk_X9_41 ⟨(Nat.le_of_ble_eq_true rfl), (Nat.le_of_ble_eq_true rfl)⟩ (Nat.le_of_ble_eq_true rfl) (zi9_c h0) rfl (fun r12 M11 => ?_)
      refine zx_goto (tgt := 98) (zd me_X9_write 23 rfl) (by decide) ?_
      exact zx_vret (zd me_X9_write 37 rfl) rfl
    · refine zx_ite (fun c13 => ?_) (fun c13 => ?_)
      · refine zx_tin (off := 59) (tgt := 91) (zd me_X9_write 19 rfl) (by rw [c13]; decide) (by rw [c13]; decide) (by rw [c13]; rfl) (by decide) ?_
        refine zx_aload_n (i := 0) (zd me_X9_write 32 rfl) rfl 0 rfl ?_
        refine zx_aload_n (i := 1) (zd me_X9_write 33 rfl) rfl 1 rfl ?_
        refine zx_aload_n (i := 2) (zd me_X9_write 34 rfl) rfl 2 rfl ?_
        refine zx_iload_n (i := 3) (zd me_X9_write 35 rfl) rfl 3 rfl ?_
        refine zx_callVV3 (zd me_X9_write 36 rfl) (mc_X9_writeBath (zl C) h0 h1 h2 i3 M8) lk_X9_49 ⟨(Nat.le_of_ble_eq_true rfl), (Nat.le_of_ble_eq_true rfl)⟩ (Nat.le_of_ble_eq_true rfl) (zi9_c h0) rfl (fun r15 M14 => ?_)
        exact zx_vret (zd me_X9_write 37 rfl) rfl
      · refine zx_ite (fun c16 => ?_) (fun c16 => ?_)
        · refine zx_tin (off := 41) (tgt := 73) (zd me_X9_write 19 rfl) (by rw [c16]; decide) (by rw [c16]; decide) (by rw [c16]; rfl) (by decide) ?_
          refine zx_aload_n (i := 0) (zd me_X9_write 24 rfl) rfl 0 rfl ?_
          refine zx_ldcS (zd me_X9_write 25 rfl) 2 (by decide) rfl rfl ?_
          refine zx_callVV1 (zd me_X9_write 26 rfl) (mc_X9_addText (zl C) h0 (by decide) M8) lk_X9_41 ⟨(Nat.le_of_ble_eq_true rfl), (Nat.le_of_ble_eq_true rfl)⟩ (Nat.le_of_ble_eq_true rfl) (zi9_c h0) rfl (fun r18 M17 => ?_)
          refine zx_goto (tgt := 98) (zd me_X9_write 27 rfl) (by decide) ?_
          exact zx_vret (zd me_X9_write 37 rfl) rfl
        · refine zx_ite (fun c19 => ?_) (fun c19 => ?_)
          · refine zx_tin (off := 50) (tgt := 82) (zd me_X9_write 19 rfl) (by rw [c19]; decide) (by rw [c19]; decide) (by rw [c19]; rfl) (by decide) ?_
            refine zx_aload_n (i := 0) (zd me_X9_write 28 rfl) rfl 0 rfl ?_
            refine zx_ldcS (zd me_X9_write 29 rfl) 3 (by decide) rfl rfl ?_
            refine zx_callVV1 (zd me_X9_write 30 rfl) (mc_X9_addText (zl C) h0 (by decide) M8) lk_X9_41 ⟨(Nat.le_of_ble_eq_true rfl), (Nat.le_of_ble_eq_true rfl)⟩ (Nat.le_of_ble_eq_true rfl) (zi9_c h0) rfl (fun r21 M20 => ?_)
            refine zx_goto (tgt := 98) (zd me_X9_write 31 rfl) (by decide) ?_
            exact zx_vret (zd me_X9_write 37 rfl) rfl
          · refine zx_tout (tgt := 91) (zd me_X9_write 19 rfl) (by have e0 := lv_neT c10 (a := 0) (by decide); have e1 := lv_neT c13 (a := 1) (by decide); have e2 := lv_neT c16 (a := 2) (by decide); have e3 := lv_neT c19 (a := 3) (by decide); omega) (by decide) ?_
            refine zx_aload_n (i := 0) (zd me_X9_write 32 rfl) rfl 0 rfl ?_
            refine zx_aload_n (i := 1) (zd me_X9_write 33 rfl) rfl 1 rfl ?_
            refine zx_aload_n (i := 2) (zd me_X9_write 34 rfl) rfl 2 rfl ?_
            refine zx_iload_n (i := 3) (zd me_X9_write 35 rfl) rfl 3 rfl ?_
            refine zx_callVV3 (zd me_X9_write 36 rfl) (mc_X9_writeBath (zl C) h0 h1 h2 i3 M8) lk_X9_49 ⟨(Nat.le_of_ble_eq_true rfl), (Nat.le_of_ble_eq_true rfl)⟩ (Nat.le_of_ble_eq_true rfl) (zi9_c h0) rfl (fun r23 M22 => ?_)
            exact zx_vret (zd me_X9_write 37 rfl) rfl
  · exact zx_vret (zd me_X9_write 7 rfl) rfl
