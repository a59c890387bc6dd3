def mf_X10_isMark (R : zRR) (i0 : Int32) (M : zMem) : Option (Int32 × zMem) :=
  if i0 = (59 : Int32) then
    (some ((1 : Int32), M))
  else
    (if i0 = (60 : Int32) then
      (some ((1 : Int32), M))
    else
      (if i0 = (61 : Int32) then
        (some ((1 : Int32), M))
      else
        (if i0 = (62 : Int32) then
          (some ((1 : Int32), M))
        else
          (if i0 = (40 : Int32) then
            (some ((1 : Int32), M))
          else
            (if i0 = (41 : Int32) then
              (some ((1 : Int32), M))
            else
              (some ((0 : Int32), M)))))))
theorem mc_X10_isMark (l : Launch) {T : zTT} {R : zRR}  (i0 : Int32) (M : zMem) : zMS l yX10_isMark mi_X10_isMark zrvI (mf_X10_isMark R i0 M) [.int i0] T R M := by
  refine zMS.of (by decide +kernel) rfl ⟨rfl, rfl⟩ (Nat.le_of_ble_eq_true rfl) (fun C ad _ => ?_)
  show zX C mi_X10_isMark (zFin C zrvI ad T R) 0 0 (mf_X10_isMark R i0 M) 0 [(0, .int i0)] [] ad T R M
  unfold mf_X10_isMark
  refine zx_iload_n (i := 0) (zd me_X10_isMark 0 rfl) rfl 0 rfl ?_
  refine zx_bipush (v := 59) (zd me_X10_isMark 1 rfl) (by decide) ?_
  refine zx_icmp_eq (tgt := 36) (zd me_X10_isMark 2 rfl) (by decide) (fun c1 => ?_) (fun c1 => ?_)
  · refine zx_iconst (v := 1) (zd me_X10_isMark 18 rfl) (by decide) ?_
    refine zx_goto (tgt := 41) (zd me_X10_isMark 19 rfl) (by decide) ?_
    exact zx_zret (zd me_X10_isMark 21 rfl) rfl rfl
  · refine zx_iload_n (i := 0) (zd me_X10_isMark 3 rfl) rfl 0 rfl ?_
    refine zx_bipush (v := 60) (zd me_X10_isMark 4 rfl) (by decide) ?_
    refine zx_icmp_eq (tgt := 36) (zd me_X10_isMark 5 rfl) (by decide) (fun c2 => ?_) (fun c2 => ?_)
    · refine zx_iconst (v := 1) (zd me_X10_isMark 18 rfl) (by decide) ?_
      refine zx_goto (tgt := 41) (zd me_X10_isMark 19 rfl) (by decide) ?_
      exact zx_zret (zd me_X10_isMark 21 rfl) rfl rfl
    · refine zx_iload_n (i := 0) (zd me_X10_isMark 6 rfl) rfl 0 rfl ?_
      refine zx_bipush (v := 61) (zd me_X10_isMark 7 rfl) (by decide) ?_
      refine zx_icmp_eq (tgt := 36) (zd me_X10_isMark 8 rfl) (by decide) (fun c3 => ?_) (fun c3 => ?_)
      · refine zx_iconst (v := 1) (zd me_X10_isMark 18 rfl) (by decide) ?_
        refine zx_goto (tgt := 41) (zd me_X10_isMark 19 rfl) (by decide) ?_
        exact zx_zret (zd me_X10_isMark 21 rfl) rfl rfl
      · refine zx_iload_n (i := 0) (zd me_X10_isMark 9 rfl) rfl 0 rfl ?_
        refine zx_bipush (v := 62) (zd me_X10_isMark 10 rfl) (by decide) ?_
        refine zx_icmp_eq (tgt := 36) (zd me_X10_isMark 11 rfl) (by decide) (fun c4 => ?_) (fun c4 => ?_)
        · refine zx_iconst (v := 1) (zd me_X10_isMark 18 rfl) (by decide) ?_
          refine zx_goto (tgt := 41) (zd me_X10_isMark 19 rfl) (by decide) ?_
          exact zx_zret (zd me_X10_isMark 21 rfl) rfl rfl
        · refine zx_iload_n (i := 0) (zd me_X10_isMark 12 rfl) rfl 0 rfl ?_
          refine zx_bipush (v := 40) (zd me_X10_isMark 13 rfl) (by decide) ?_
          refine zx_icmp_eq (tgt := 36) (zd me_X10_isMark 14 rfl) (by decide) (fun c5 => ?_) (fun c5 => ?_)
          · refine zx_iconst (v := 1) (zd me_X10_isMark 18 rfl) (by decide) ?_
            refine zx_goto (tgt := 41) (zd me_X10_isMark 19 rfl) (by decide) ?_
            exact zx_zret (zd me_X10_isMark 21 rfl) rfl rfl
          · refine zx_iload_n (i := 0) (zd me_X10_isMark 15 rfl) rfl 0 rfl ?_
            refine zx_bipush (v := 41) (zd me_X10_isMark 16 rfl) (by decide) ?_
            refine zx_icmp_ne (tgt := 40) (zd me_X10_isMark 17 rfl) (by decide) (fun c6 => ?_) (fun c6 => ?_)
            · refine zx_iconst (v := 0) (zd me_X10_isMark 20 rfl) (by decide) ?_
              exact zx_zret (zd me_X10_isMark 21 rfl) rfl rfl
            · refine zx_iconst (v := 1) (zd me_X10_isMark 18 rfl) (by decide) ?_
              refine zx_goto (tgt := 41) (zd me_X10_isMark 19 rfl) (by decide) ?_
              exact zx_zret (zd me_X10_isMark 21 rfl) rfl rfl
def mf_X10_readRun_b101 (R : zRR) (a0 : Nat) (H14 : Int32 → Int32 → zMem → Option (Unit × zMem)) (i1 : Int32) (i2 : Int32) (M : zMem) : Option (Unit × zMem) :=
  zlet (zwI M a0 9 ((M.1 a0 9) + (1 : Int32))) fun M17 =>
  H14 i1 i2 M17
theorem mt_X10_readRun_b101 {C : zCx} {ad : Nat → Nat} {T : zTT} {R : zRR} {a0 : Nat} (h0 : zi10 T R a0) {H14 : Int32 → Int32 → zMem → Option (Unit × zMem)} (hH14 : ∀ (i1 : Int32) (i2 : Int32) (M : zMem), zX C mi_X10_readRun (zFin C zrvV ad T R) 0 0 (H14 i1 i2 M) 14 [(0, .ref a0), (1, .int i1), (2, .int i2)] [] ad T R M) (i1 : Int32) (i2 : Int32) (M : zMem) : zX C mi_X10_readRun (zFin C zrvV ad T R) 0 0 (mf_X10_readRun_b101 R a0 H14 i1 i2 M) 101 [(0, .ref a0), (1, .int i1), (2, .int i2)] [] ad T R M := by
  unfold mf_X10_readRun_b101
  refine zx_aload_n (i := 0) (zd me_X10_readRun 57 rfl) rfl 0 rfl ?_
  refine zx_dup (zd me_X10_readRun 58 rfl) rfl ?_
  refine zx_getI (zd me_X10_readRun 59 rfl) fl_X10_45 (zi10_c h0) rfl ?_
  refine zx_iconst (v := 1) (zd me_X10_readRun 60 rfl) (by decide) ?_
  refine zx_iadd (zd me_X10_readRun 61 rfl) ?_
  refine zx_putI (zd me_X10_readRun 62 rfl) fp_X10_45 (zi10_c h0) rfl (fun M17 _ => ?_)
  refine zx_goto (tgt := 14) (zd me_X10_readRun 63 rfl) (by decide) ?_
  exact hH14 i1 i2 M17
def mf_X10_readRun_b201 (R : zRR) (a0 : Nat) (H163 : Int32 → zMem → Option (Unit × zMem)) (i3 : Int32) (M : zMem) : Option (Unit × zMem) :=
  H163 (i3 + 1) M
theorem mt_X10_readRun_b201 {C : zCx} {ad : Nat → Nat} {T : zTT} {R : zRR} {a0 : Nat} (h0 : zi10 T R a0) {H163 : Int32 → zMem → Option (Unit × zMem)} (hH163 : ∀ (i3 : Int32) (M : zMem), zX C mi_X10_readRun (zFin C zrvV ad T R) 0 0 (H163 i3 M) 163 [(0, .ref a0), (3, .int i3)] [] ad T R M) (i3 : Int32) (M : zMem) : zX C mi_X10_readRun (zFin C zrvV ad T R) 0 0 (mf_X10_readRun_b201 R a0 H163 i3 M) 201 [(0, .ref a0), (3, .int i3)] [] ad T R M := by
  unfold mf_X10_readRun_b201
  refine zx_iinc (v := 1) (ls' := [(3, .int (i3 + 1)), (0, .ref a0)]) (zd me_X10_readRun 113 rfl) (Nat.le_of_ble_eq_true rfl) 1 rfl (by decide) rfl ?_
  refine zx_goto (tgt := 163) (zd me_X10_readRun 114 rfl) (by decide) ?_
  refine zx_loc [1, 0] rfl ?_
  exact hH163 (i3 + 1) M
def mf_X10_readRun_l163 (R : zRR) (a0 : Nat) : Nat → Int32 → zMem → Option (Unit × zMem)
  | 0, _, _ => none
  | fuel + 1, i3, M =>
    if (24 : Int32) ≤ i3 then
      (some ((), M))
    else
      (if (M.1 a0 4) = (1 : Int32) then
        (zald 24 i3 fun j24 =>
        if (lg_cmp (M.2 (zrf R a0 11) j24) (M.2 a0 7)) = 0 then
          (zlet (zwI M a0 5 i3) fun M26 =>
          zlet (zwI M26 a0 4 (2 : Int32)) fun M27 =>
          mf_X10_readRun_b201 R a0 (mf_X10_readRun_l163 R a0 fuel) i3 M27)
        else
          (mf_X10_readRun_b201 R a0 (mf_X10_readRun_l163 R a0 fuel) i3 M))
      else
        (some ((), M)))
theorem mt_X10_readRun_l163 {C : zCx} {ad : Nat → Nat} {T : zTT} {R : zRR} {a0 : Nat} (h0 : zi10 T R a0) : ∀ (fuel : Nat) (i3 : Int32) (M : zMem), zX C mi_X10_readRun (zFin C zrvV ad T R) 0 0 (mf_X10_readRun_l163 R a0 fuel i3 M) 163 [(0, .ref a0), (3, .int i3)] [] ad T R M := by
  intro fuel
  induction fuel with
  | zero => intros; exact zx_none
  | succ fuel ih =>
    intro i3 M
    rw [mf_X10_readRun_l163]
    refine zx_iload_n (i := 3) (zd me_X10_readRun 92 rfl) rfl 1 rfl ?_
    refine zx_bipush (v := 24) (zd me_X10_readRun 93 rfl) (by decide) ?_
    refine zx_icmp_ge (tgt := 207) (zd me_X10_readRun 94 rfl) (by decide) (fun c22 => ?_) (fun c22 => ?_)
    · exact zx_vret (zd me_X10_readRun 115 rfl) rfl
    · refine zx_aload_n (i := 0) (zd me_X10_readRun 95 rfl) rfl 0 rfl ?_
      refine zx_getI (zd me_X10_readRun 96 rfl) fl_X10_57 (zi10_c h0) rfl ?_
      refine zx_iconst (v := 1) (zd me_X10_readRun 97 rfl) (by decide) ?_
      refine zx_icmp_ne (tgt := 207) (zd me_X10_readRun 98 rfl) (by decide) (fun c23 => ?_) (fun c23 => ?_)
      · exact zx_vret (zd me_X10_readRun 115 rfl) rfl
      · refine zx_aload_n (i := 0) (zd me_X10_readRun 99 rfl) rfl 0 rfl ?_
        refine zx_getR (zd me_X10_readRun 100 rfl) fl_X10_15 (zi10_c h0) rfl (zi10_r11 h0) ?_
        refine zx_iload_n (i := 3) (zd me_X10_readRun 101 rfl) rfl 1 rfl ?_
        refine zx_lald (zd me_X10_readRun 102 rfl) (zi10_t11 h0) (fun j24 hj24 => ?_)
        refine zx_aload_n (i := 0) (zd me_X10_readRun 103 rfl) rfl 0 rfl ?_
        refine zx_getL (zd me_X10_readRun 104 rfl) fl_X10_70 (zi10_c h0) rfl ?_
        refine zx_lcmp (zd me_X10_readRun 105 rfl) ?_
        refine zx_if_ne (tgt := 201) (zd me_X10_readRun 106 rfl) (by decide) (fun c25 => ?_) (fun c25 => ?_)
        · exact mt_X10_readRun_b201 h0 ih i3 M
        · refine zx_aload_n (i := 0) (zd me_X10_readRun 107 rfl) rfl 0 rfl ?_
          refine zx_iload_n (i := 3) (zd me_X10_readRun 108 rfl) rfl 1 rfl ?_
          refine zx_putI (zd me_X10_readRun 109 rfl) fp_X10_54 (zi10_c h0) rfl (fun M26 _ => ?_)
          refine zx_aload_n (i := 0) (zd me_X10_readRun 110 rfl) rfl 0 rfl ?_
          refine zx_iconst (v := 2) (zd me_X10_readRun 111 rfl) (by decide) ?_
          refine zx_putI (zd me_X10_readRun 112 rfl) fp_X10_57 (zi10_c h0) rfl (fun M27 _ => ?_)
          exact mt_X10_readRun_b201 h0 ih i3 M27
def mf_X10_readRun_b161 (R : zRR) (a0 : Nat) (M : zMem) : Option (Unit × zMem) :=
  mf_X10_readRun_l163 R a0 zF (0 : Int32) M
theorem mt_X10_readRun_b161 {C : zCx} {ad : Nat → Nat} {T : zTT} {R : zRR} {a0 : Nat} (h0 : zi10 T R a0) (M : zMem) : zX C mi_X10_readRun (zFin C zrvV ad T R) 0 0 (mf_X10_readRun_b161 R a0 M) 161 [(0, .ref a0)] [] ad T R M := by
  unfold mf_X10_readRun_b161
  refine zx_iconst (v := 0) (zd me_X10_readRun 90 rfl) (by decide) ?_
  refine zx_istore_n (i := 3) (ls' := [(3, .int (0 : Int32)), (0, .ref a0)]) (zd me_X10_readRun 91 rfl) rfl (Nat.le_of_ble_eq_true rfl) rfl ?_
  refine zx_loc [1, 0] rfl ?_
  exact mt_X10_readRun_l163 h0 zF (0 : Int32) M
def mf_X10_readRun_b142 (R : zRR) (a0 : Nat) (i1 : Int32) (i2 : Int32) (M : zMem) : Option (Unit × zMem) :=
  if i1 = 0 then
    (if i2 < (1 : Int32) then
      (mf_X10_readRun_b161 R a0 M)
    else
      (if (3 : Int32) < i2 then
        (mf_X10_readRun_b161 R a0 M)
      else
        (zlet (zwI M a0 4 (3 : Int32)) fun M21 =>
        mf_X10_readRun_b161 R a0 M21)))
  else
    (mf_X10_readRun_b161 R a0 M)
theorem mt_X10_readRun_b142 {C : zCx} {ad : Nat → Nat} {T : zTT} {R : zRR} {a0 : Nat} (h0 : zi10 T R a0) (i1 : Int32) (i2 : Int32) (M : zMem) : zX C mi_X10_readRun (zFin C zrvV ad T R) 0 0 (mf_X10_readRun_b142 R a0 i1 i2 M) 142 [(0, .ref a0), (1, .int i1), (2, .int i2)] [] ad T R M := by
  unfold mf_X10_readRun_b142
  refine zx_iload_n (i := 1) (zd me_X10_readRun 79 rfl) rfl 1 rfl ?_
  refine zx_if_ne (tgt := 161) (zd me_X10_readRun 80 rfl) (by decide) (fun c18 => ?_) (fun c18 => ?_)
  · refine zx_loc [0] rfl ?_
    exact mt_X10_readRun_b161 h0 M
  · refine zx_iload_n (i := 2) (zd me_X10_readRun 81 rfl) rfl 2 rfl ?_
    refine zx_iconst (v := 1) (zd me_X10_readRun 82 rfl) (by decide) ?_
    refine zx_icmp_lt (tgt := 161) (zd me_X10_readRun 83 rfl) (by decide) (fun c19 => ?_) (fun c19 => ?_)
    · refine zx_loc [0] rfl ?_
      exact mt_X10_readRun_b161 h0 M
    · refine zx_iload_n (i := 2) (zd me_X10_readRun 84 rfl) rfl 2 rfl ?_
      refine zx_iconst (v := 3) (zd me_X10_readRun 85 rfl) (by decide) ?_
      refine zx_icmp_gt (tgt := 161) (zd me_X10_readRun 86 rfl) (by decide) (fun c20 => ?_) (fun c20 => ?_)
      · refine zx_loc [0] rfl ?_
        exact mt_X10_readRun_b161 h0 M
      · refine zx_aload_n (i := 0) (zd me_X10_readRun 87 rfl) rfl 0 rfl ?_
        refine zx_iconst (v := 3) (zd me_X10_readRun 88 rfl) (by decide) ?_
        refine zx_putI (zd me_X10_readRun 89 rfl) fp_X10_57 (zi10_c h0) rfl (fun M21 _ => ?_)
        refine zx_loc [0] rfl ?_
        exact mt_X10_readRun_b161 h0 M21
def mf_X10_readRun_b114 (R : zRR) (a0 : Nat) (i1 : Int32) (i2 : Int32) (M : zMem) : Option (Unit × zMem) :=
  zlet (zwI M a0 4 (5 : Int32)) fun M9 =>
  if i2 = 0 then
    (if i1 < (1 : Int32) then
      (mf_X10_readRun_b142 R a0 i1 i2 M9)
    else
      (if (7 : Int32) < i1 then
        (mf_X10_readRun_b142 R a0 i1 i2 M9)
      else
        (zlet (zwI M9 a0 4 (1 : Int32)) fun M13 =>
        mf_X10_readRun_b161 R a0 M13)))
  else
    (mf_X10_readRun_b142 R a0 i1 i2 M9)
theorem mt_X10_readRun_b114 {C : zCx} {ad : Nat → Nat} {T : zTT} {R : zRR} {a0 : Nat} (h0 : zi10 T R a0) (i1 : Int32) (i2 : Int32) (M : zMem) : zX C mi_X10_readRun (zFin C zrvV ad T R) 0 0 (mf_X10_readRun_b114 R a0 i1 i2 M) 114 [(0, .ref a0), (1, .int i1), (2, .int i2)] [] ad T R M := by
  unfold mf_X10_readRun_b114
  refine zx_aload_n (i := 0) (zd me_X10_readRun 64 rfl) rfl 0 rfl ?_
  refine zx_iconst (v := 5) (zd me_X10_readRun 65 rfl) (by decide) ?_
  refine zx_putI (zd me_X10_readRun 66 rfl) fp_X10_57 (zi10_c h0) rfl (fun M9 _ => ?_)
  refine zx_iload_n (i := 2) (zd me_X10_readRun 67 rfl) rfl 2 rfl ?_
  refine zx_if_ne (tgt := 142) (zd me_X10_readRun 68 rfl) (by decide) (fun c10 => ?_) (fun c10 => ?_)
  · exact mt_X10_readRun_b142 h0 i1 i2 M9
  · refine zx_iload_n (i := 1) (zd me_X10_readRun 69 rfl) rfl 1 rfl ?_
    refine zx_iconst (v := 1) (zd me_X10_readRun 70 rfl) (by decide) ?_
    refine zx_icmp_lt (tgt := 142) (zd me_X10_readRun 71 rfl) (by decide) (fun c11 => ?_) (fun c11 => ?_)
    · exact mt_X10_readRun_b142 h0 i1 i2 M9
    · refine zx_iload_n (i := 1) (zd me_X10_readRun 72 rfl) rfl 1 rfl ?_
      refine zx_bipush (v := 7) (zd me_X10_readRun 73 rfl) (by decide) ?_
      refine zx_icmp_gt (tgt := 142) (zd me_X10_readRun 74 rfl) (by decide) (fun c12 => ?_) (fun c12 => ?_)
      · exact mt_X10_readRun_b142 h0 i1 i2 M9
      · refine zx_aload_n (i := 0) (zd me_X10_readRun 75 rfl) rfl 0 rfl ?_
        refine zx_iconst (v := 1) (zd me_X10_readRun 76 rfl) (by decide) ?_
        refine zx_putI (zd me_X10_readRun 77 rfl) fp_X10_57 (zi10_c h0) rfl (fun M13 _ => ?_)
        refine zx_goto (tgt := 161) (zd me_X10_readRun 78 rfl) (by decide) ?_
        refine zx_loc [0] rfl ?_
        exact mt_X10_readRun_b161 h0 M13
def mf_X10_readRun_b70 (R : zRR) (a0 : Nat) (H14 : Int32 → Int32 → zMem → Option (Unit × zMem)) (i1 : Int32) (i2 : Int32) (i3 : Int32) (M : zMem) : Option (Unit × zMem) :=
  if i3 < (48 : Int32) then
    (mf_X10_readRun_b114 R a0 i1 i2 M)
  else
    (if (57 : Int32) < i3 then
      (mf_X10_readRun_b114 R a0 i1 i2 M)
    else
      (zlet (zwI M a0 6 ((((M.1 a0 6) * (10 : Int32)) + i3) - (48 : Int32))) fun M16 =>
      mf_X10_readRun_b101 R a0 H14 i1 (i2 + 1) M16))
theorem mt_X10_readRun_b70 {C : zCx} {ad : Nat → Nat} {T : zTT} {R : zRR} {a0 : Nat} (h0 : zi10 T R a0) {H14 : Int32 → Int32 → zMem → Option (Unit × zMem)} (hH14 : ∀ (i1 : Int32) (i2 : Int32) (M : zMem), zX C mi_X10_readRun (zFin C zrvV ad T R) 0 0 (H14 i1 i2 M) 14 [(0, .ref a0), (1, .int i1), (2, .int i2)] [] ad T R M) (i1 : Int32) (i2 : Int32) (i3 : Int32) (M : zMem) : zX C mi_X10_readRun (zFin C zrvV ad T R) 0 0 (mf_X10_readRun_b70 R a0 H14 i1 i2 i3 M) 70 [(0, .ref a0), (1, .int i1), (2, .int i2), (3, .int i3)] [] ad T R M := by
  unfold mf_X10_readRun_b70
  refine zx_iload_n (i := 3) (zd me_X10_readRun 40 rfl) rfl 3 rfl ?_
  refine zx_bipush (v := 48) (zd me_X10_readRun 41 rfl) (by decide) ?_
  refine zx_icmp_lt (tgt := 114) (zd me_X10_readRun 42 rfl) (by decide) (fun c14 => ?_) (fun c14 => ?_)
  · refine zx_loc [0, 1, 2] rfl ?_
    exact mt_X10_readRun_b114 h0 i1 i2 M
  · refine zx_iload_n (i := 3) (zd me_X10_readRun 43 rfl) rfl 3 rfl ?_
    refine zx_bipush (v := 57) (zd me_X10_readRun 44 rfl) (by decide) ?_
    refine zx_icmp_gt (tgt := 114) (zd me_X10_readRun 45 rfl) (by decide) (fun c15 => ?_) (fun c15 => ?_)
    · refine zx_loc [0, 1, 2] rfl ?_
      exact mt_X10_readRun_b114 h0 i1 i2 M
    · refine zx_iinc (v := 1) (ls' := [(2, .int (i2 + 1)), (0, .ref a0), (1, .int i1), (3, .int i3)]) (zd me_X10_readRun 46 rfl) (Nat.le_of_ble_eq_true rfl) 2 rfl (by decide) rfl ?_
      refine zx_aload_n (i := 0) (zd me_X10_readRun 47 rfl) rfl 1 rfl ?_
      refine zx_aload_n (i := 0) (zd me_X10_readRun 48 rfl) rfl 1 rfl ?_
      refine zx_getI (zd me_X10_readRun 49 rfl) fl_X10_64 (zi10_c h0) rfl ?_
      refine zx_bipush (v := 10) (zd me_X10_readRun 50 rfl) (by decide) ?_
      refine zx_imul (zd me_X10_readRun 51 rfl) ?_
      refine zx_iload_n (i := 3) (zd me_X10_readRun 52 rfl) rfl 3 rfl ?_
      refine zx_iadd (zd me_X10_readRun 53 rfl) ?_
      refine zx_bipush (v := 48) (zd me_X10_readRun 54 rfl) (by decide) ?_
      refine zx_isub (zd me_X10_readRun 55 rfl) ?_
      refine zx_putI (zd me_X10_readRun 56 rfl) fp_X10_64 (zi10_c h0) rfl (fun M16 _ => ?_)
      refine zx_loc [1, 2, 0] rfl ?_
      exact mt_X10_readRun_b101 h0 hH14 i1 (i2 + 1) M16
def mf_X10_readRun_l14 (R : zRR) (a0 : Nat) : Nat → Int32 → Int32 → zMem → Option (Unit × zMem)
  | 0, _, _, _ => none
  | fuel + 1, i1, i2, M =>
    if (M.1 a0 1) ≤ (M.1 a0 9) then
      (mf_X10_readRun_b114 R a0 i1 i2 M)
    else
      (zald 940 (M.1 a0 9) fun j4 =>
      zlet ((M.1 (zrf R a0 0) j4) : Int32) fun x5 =>
      if x5 < (97 : Int32) then
        (mf_X10_readRun_b70 R a0 (mf_X10_readRun_l14 R a0 fuel) i1 i2 x5 M)
      else
        (if (122 : Int32) < x5 then
          (mf_X10_readRun_b70 R a0 (mf_X10_readRun_l14 R a0 fuel) i1 i2 x5 M)
        else
          (zlet (zwL M a0 7 ((((M.2 a0 7) <<< ((5 : Int32).toInt64 &&& 63)) + x5.toInt64) - (96 : Int64))) fun M8 =>
          mf_X10_readRun_b101 R a0 (mf_X10_readRun_l14 R a0 fuel) (i1 + 1) i2 M8)))
theorem mt_X10_readRun_l14 {C : zCx} {ad : Nat → Nat} {T : zTT} {R : zRR} {a0 : Nat} (h0 : zi10 T R a0) : ∀ (fuel : Nat) (i1 : Int32) (i2 : Int32) (M : zMem), zX C mi_X10_readRun (zFin C zrvV ad T R) 0 0 (mf_X10_readRun_l14 R a0 fuel i1 i2 M) 14 [(0, .ref a0), (1, .int i1), (2, .int i2)] [] ad T R M := by
  intro fuel
  induction fuel with
  | zero => intros; exact zx_none
  | succ fuel ih =>
    intro i1 i2 M
    rw [mf_X10_readRun_l14]
    refine zx_aload_n (i := 0) (zd me_X10_readRun 10 rfl) rfl 0 rfl ?_
    refine zx_getI (zd me_X10_readRun 11 rfl) fl_X10_45 (zi10_c h0) rfl ?_
    refine zx_aload_n (i := 0) (zd me_X10_readRun 12 rfl) rfl 0 rfl ?_
    refine zx_getI (zd me_X10_readRun 13 rfl) fl_X10_33 (zi10_c h0) rfl ?_
    refine zx_icmp_ge (tgt := 114) (zd me_X10_readRun 14 rfl) (by decide) (fun c3 => ?_) (fun c3 => ?_)
    · exact mt_X10_readRun_b114 h0 i1 i2 M
    · refine zx_aload_n (i := 0) (zd me_X10_readRun 15 rfl) rfl 0 rfl ?_
      refine zx_getR (zd me_X10_readRun 16 rfl) fl_X10_11 (zi10_c h0) rfl (zi10_r0 h0) ?_
      refine zx_aload_n (i := 0) (zd me_X10_readRun 17 rfl) rfl 0 rfl ?_
      refine zx_getI (zd me_X10_readRun 18 rfl) fl_X10_45 (zi10_c h0) rfl ?_
      refine zx_iald (zd me_X10_readRun 19 rfl) (zi10_t0 h0) (fun j4 hj4 => ?_)
      refine zx_leti (fun x5 => ?_)
      refine zx_istore_n (i := 3) (ls' := [(3, .int x5), (0, .ref a0), (1, .int i1), (2, .int i2)]) (zd me_X10_readRun 20 rfl) rfl (Nat.le_of_ble_eq_true rfl) rfl ?_
      refine zx_iload_n (i := 3) (zd me_X10_readRun 21 rfl) rfl 0 rfl ?_
      refine zx_bipush (v := 97) (zd me_X10_readRun 22 rfl) (by decide) ?_
      refine zx_icmp_lt (tgt := 70) (zd me_X10_readRun 23 rfl) (by decide) (fun c6 => ?_) (fun c6 => ?_)
      · refine zx_loc [1, 2, 3, 0] rfl ?_
        exact mt_X10_readRun_b70 h0 ih i1 i2 x5 M
      · refine zx_iload_n (i := 3) (zd me_X10_readRun 24 rfl) rfl 0 rfl ?_
        refine zx_bipush (v := 122) (zd me_X10_readRun 25 rfl) (by decide) ?_
        refine zx_icmp_gt (tgt := 70) (zd me_X10_readRun 26 rfl) (by decide) (fun c7 => ?_) (fun c7 => ?_)
        · refine zx_loc [1, 2, 3, 0] rfl ?_
          exact mt_X10_readRun_b70 h0 ih i1 i2 x5 M
        · refine zx_iinc (v := 1) (ls' := [(1, .int (i1 + 1)), (3, .int x5), (0, .ref a0), (2, .int i2)]) (zd me_X10_readRun 27 rfl) (Nat.le_of_ble_eq_true rfl) 2 rfl (by decide) rfl ?_
          refine zx_aload_n (i := 0) (zd me_X10_readRun 28 rfl) rfl 2 rfl ?_
          refine zx_aload_n (i := 0) (zd me_X10_readRun 29 rfl) rfl 2 rfl ?_
          refine zx_getL (zd me_X10_readRun 30 rfl) fl_X10_70 (zi10_c h0) rfl ?_
          refine zx_iconst (v := 5) (zd me_X10_readRun 31 rfl) (by decide) ?_
          refine zx_lshl (zd me_X10_readRun 32 rfl) ?_
          refine zx_iload_n (i := 3) (zd me_X10_readRun 33 rfl) rfl 1 rfl ?_
          refine zx_i2l (zd me_X10_readRun 34 rfl) ?_
          refine zx_ladd (zd me_X10_readRun 35 rfl) ?_
          refine zx_ldc2 (v := 96) (zd me_X10_readRun 36 rfl) (zt1 88 rfl rfl) ?_
          refine zx_lsub (zd me_X10_readRun 37 rfl) ?_
          refine zx_putL (zd me_X10_readRun 38 rfl) fp_X10_70 (zi10_c h0) rfl (fun M8 _ => ?_)
          refine zx_goto (tgt := 101) (zd me_X10_readRun 39 rfl) (by decide) ?_
          refine zx_loc [2, 0, 3] rfl ?_
          exact mt_X10_readRun_b101 h0 ih (i1 + 1) i2 M8
def mf_X10_readRun (R : zRR) (a0 : Nat) (M : zMem) : Option (Unit × zMem) :=
  zlet (zwL M a0 7 (0 : Int64)) fun M1 =>
  zlet (zwI M1 a0 6 (0 : Int32)) fun M2 =>
  mf_X10_readRun_l14 R a0 zF (0 : Int32) (0 : Int32) M2
theorem mc_X10_readRun (l : Launch) {T : zTT} {R : zRR} {a0 : Nat} (h0 : zi10 T R a0) (M : zMem) : zMS l yX10_readRun mi_X10_readRun zrvV (mf_X10_readRun R a0 M) [.ref a0] T R M := by
  refine zMS.of (by decide +kernel) rfl ⟨rfl, rfl⟩ (Nat.le_of_ble_eq_true rfl) (fun C ad _ => ?_)
  show zX C mi_X10_readRun (zFin C zrvV ad T R) 0 0 (mf_X10_readRun R a0 M) 0 [(0, .ref a0)] [] ad T R M
  unfold mf_X10_readRun
  refine zx_iconst (v := 0) (zd me_X10_readRun 0 rfl) (by decide) ?_
  refine zx_istore_n (i := 1) (ls' := [(1, .int (0 : Int32)), (0, .ref a0)]) (zd me_X10_readRun 1 rfl) rfl (Nat.le_of_ble_eq_true rfl) rfl ?_
  refine zx_iconst (v := 0) (zd me_X10_readRun 2 rfl) (by decide) ?_
  refine zx_istore_n (i := 2) (ls' := [(2, .int (0 : Int32)), (1, .int (0 : Int32)), (0, .ref a0)]) (zd me_X10_readRun 3 rfl) rfl (Nat.le_of_ble_eq_true rfl) rfl ?_
  refine zx_aload_n (i := 0) (zd me_X10_readRun 4 rfl) rfl 2 rfl ?_
  refine zx_lconst (v := 0) (zd me_X10_readRun 5 rfl) (by decide) ?_
  refine zx_putL (zd me_X10_readRun 6 rfl) fp_X10_70 (zi10_c h0) rfl (fun M1 _ => ?_)
  refine zx_aload_n (i := 0) (zd me_X10_readRun 7 rfl) rfl 2 rfl ?_
  refine zx_iconst (v := 0) (zd me_X10_readRun 8 rfl) (by decide) ?_
  refine zx_putI (zd me_X10_readRun 9 rfl) fp_X10_64 (zi10_c h0) rfl (fun M2 _ => ?_)
  refine zx_loc [2, 1, 0] rfl ?_
  exact mt_X10_readRun_l14 h0 zF (0 : Int32) (0 : Int32) M2
def mf_X10_next_b39 (R : zRR) (a0 : Nat) (H0 : zMem → Option (Unit × zMem)) (M : zMem) : Option (Unit × zMem) :=
  zlet (zwI M a0 9 ((M.1 a0 9) + (1 : Int32))) fun M12 =>
  H0 M12
theorem mt_X10_next_b39 {C : zCx} {ad : Nat → Nat} {T : zTT} {R : zRR} {a0 : Nat} (h0 : zi10 T R a0) {H0 : zMem → Option (Unit × zMem)} (hH0 : ∀  (M : zMem), zX C mi_X10_next (zFin C zrvV ad T R) 0 0 (H0  M) 0 [(0, .ref a0)] [] ad T R M) (M : zMem) : zX C mi_X10_next (zFin C zrvV ad T R) 0 0 (mf_X10_next_b39 R a0 H0 M) 39 [(0, .ref a0)] [] ad T R M := by
  unfold mf_X10_next_b39
  refine zx_aload_n (i := 0) (zd me_X10_next 19 rfl) rfl 0 rfl ?_
  refine zx_dup (zd me_X10_next 20 rfl) rfl ?_
  refine zx_getI (zd me_X10_next 21 rfl) fl_X10_45 (zi10_c h0) rfl ?_
  refine zx_iconst (v := 1) (zd me_X10_next 22 rfl) (by decide) ?_
  refine zx_iadd (zd me_X10_next 23 rfl) ?_
  refine zx_putI (zd me_X10_next 24 rfl) fp_X10_45 (zi10_c h0) rfl (fun M12 _ => ?_)
  refine zx_goto (tgt := 0) (zd me_X10_next 25 rfl) (by decide) ?_
  exact hH0 M12
def mf_X10_next_b103 (R : zRR) (a0 : Nat) (M : zMem) : Option (Unit × zMem) :=
  if (M.1 a0 9) < (M.1 a0 1) then
    (zald 940 (M.1 a0 9) fun j14 =>
    zcl (mf_X10_isMark R (M.1 (zrf R a0 0) j14) M) fun r16 M15 =>
    if r16 = 0 then
      (zcl (mf_X10_readRun R a0 M15) fun _ M18 =>
      some ((), M18))
    else
      (zald 940 (M15.1 a0 9) fun j20 =>
      zlet (zwI M15 a0 6 (M15.1 (zrf R a0 0) j20)) fun M21 =>
      zlet (zwI M21 a0 4 (4 : Int32)) fun M22 =>
      zlet (zwI M22 a0 9 ((M22.1 a0 9) + (1 : Int32))) fun M23 =>
      some ((), M23)))
  else
    (zlet (zwI M a0 4 (0 : Int32)) fun M24 =>
    some ((), M24))
theorem mt_X10_next_b103 {C : zCx} {ad : Nat → Nat} {T : zTT} {R : zRR} {a0 : Nat} (h0 : zi10 T R a0) (M : zMem) : zX C mi_X10_next (zFin C zrvV ad T R) 0 0 (mf_X10_next_b103 R a0 M) 103 [(0, .ref a0)] [] ad T R M := by
  unfold mf_X10_next_b103
  refine zx_aload_n (i := 0) (zd me_X10_next 51 rfl) rfl 0 rfl ?_
  refine zx_getI (zd me_X10_next 52 rfl) fl_X10_45 (zi10_c h0) rfl ?_
  refine zx_aload_n (i := 0) (zd me_X10_next 53 rfl) rfl 0 rfl ?_
  refine zx_getI (zd me_X10_next 54 rfl) fl_X10_33 (zi10_c h0) rfl ?_
  refine zx_icmp_lt (tgt := 122) (zd me_X10_next 55 rfl) (by decide) (fun c13 => ?_) (fun c13 => ?_)
  · refine zx_aload_n (i := 0) (zd me_X10_next 60 rfl) rfl 0 rfl ?_
    refine zx_getR (zd me_X10_next 61 rfl) fl_X10_11 (zi10_c h0) rfl (zi10_r0 h0) ?_
    refine zx_aload_n (i := 0) (zd me_X10_next 62 rfl) rfl 0 rfl ?_
    refine zx_getI (zd me_X10_next 63 rfl) fl_X10_45 (zi10_c h0) rfl ?_
    refine zx_iald (zd me_X10_next 64 rfl) (zi10_t0 h0) (fun j14 hj14 => ?_)
    refine zx_callSI1 (zd me_X10_next 65 rfl) (mc_X10_isMark (zl C) (M.1 (zrf R a0 0) j14) M) lk_X10_60 ⟨(Nat.le_of_ble_eq_true rfl), (Nat.le_of_ble_eq_true rfl)⟩ (Nat.le_of_ble_eq_true rfl) (fun r16 M15 => ?_)
    refine zx_if_eq (tgt := 168) (zd me_X10_next 66 rfl) (by decide) (fun c17 => ?_) (fun c17 => ?_)
    · refine zx_aload_n (i := 0) (zd me_X10_next 84 rfl) rfl 0 rfl ?_
      refine zx_callVV0 (zd me_X10_next 85 rfl) (mc_X10_readRun (zl C) h0 M15) lk_X10_67 ⟨(Nat.le_of_ble_eq_true rfl), (Nat.le_of_ble_eq_true rfl)⟩ (Nat.le_of_ble_eq_true rfl) (zi10_c h0) rfl (fun r19 M18 => ?_)
      exact zx_vret (zd me_X10_next 86 rfl) rfl
    · refine zx_aload_n (i := 0) (zd me_X10_next 67 rfl) rfl 0 rfl ?_
      refine zx_aload_n (i := 0) (zd me_X10_next 68 rfl) rfl 0 rfl ?_
      refine zx_getR (zd me_X10_next 69 rfl) fl_X10_11 (zi10_c h0) rfl (zi10_r0 h0) ?_
      refine zx_aload_n (i := 0) (zd me_X10_next 70 rfl) rfl 0 rfl ?_
      refine zx_getI (zd me_X10_next 71 rfl) fl_X10_45 (zi10_c h0) rfl ?_
      refine zx_iald (zd me_X10_next 72 rfl) (zi10_t0 h0) (fun j20 hj20 => ?_)
      refine zx_putI (zd me_X10_next 73 rfl) fp_X10_64 (zi10_c h0) rfl (fun M21 _ => ?_)
      refine zx_aload_n (i := 0) (zd me_X10_next 74 rfl) rfl 0 rfl ?_
      refine zx_iconst (v := 4) (zd me_X10_next 75 rfl) (by decide) ?_
      refine zx_putI (zd me_X10_next 76 rfl) fp_X10_57 (zi10_c h0) rfl (fun M22 _ => ?_)
      refine zx_aload_n (i := 0) (zd me_X10_next 77 rfl) rfl 0 rfl ?_
      refine zx_dup (zd me_X10_next 78 rfl) rfl ?_
      refine zx_getI (zd me_X10_next 79 rfl) fl_X10_45 (zi10_c h0) rfl ?_
      refine zx_iconst (v := 1) (zd me_X10_next 80 rfl) (by decide) ?_
      refine zx_iadd (zd me_X10_next 81 rfl) ?_
      refine zx_putI (zd me_X10_next 82 rfl) fp_X10_45 (zi10_c h0) rfl (fun M23 _ => ?_)
      refine zx_goto (tgt := 172) (zd me_X10_next 83 rfl) (by decide) ?_
      exact zx_vret (zd me_X10_next 86 rfl) rfl
  · refine zx_aload_n (i := 0) (zd me_X10_next 56 rfl) rfl 0 rfl ?_
    refine zx_iconst (v := 0) (zd me_X10_next 57 rfl) (by decide) ?_
    refine zx_putI (zd me_X10_next 58 rfl) fp_X10_57 (zi10_c h0) rfl (fun M24 _ => ?_)
    refine zx_goto (tgt := 172) (zd me_X10_next 59 rfl) (by decide) ?_
    exact zx_vret (zd me_X10_next 86 rfl) rfl
def mf_X10_next_b52 (R : zRR) (a0 : Nat) (M : zMem) : Option (Unit × zMem) :=
  zlet (zwI M a0 8 (M.1 a0 9)) fun M6 =>
  zlet (zwI M6 a0 5 (-1 : Int32)) fun M7 =>
  if (M7.1 a0 1) ≤ (M7.1 a0 10) then
    (mf_X10_next_b103 R a0 M7)
  else
    (if (M7.1 a0 9) < (M7.1 a0 10) then
      (mf_X10_next_b103 R a0 M7)
    else
      (zlet (zwI M7 a0 8 (M7.1 a0 10)) fun M10 =>
      zlet (zwI M10 a0 4 (5 : Int32)) fun M11 =>
      some ((), M11)))
theorem mt_X10_next_b52 {C : zCx} {ad : Nat → Nat} {T : zTT} {R : zRR} {a0 : Nat} (h0 : zi10 T R a0) (M : zMem) : zX C mi_X10_next (zFin C zrvV ad T R) 0 0 (mf_X10_next_b52 R a0 M) 52 [(0, .ref a0)] [] ad T R M := by
  unfold mf_X10_next_b52
  refine zx_aload_n (i := 0) (zd me_X10_next 26 rfl) rfl 0 rfl ?_
  refine zx_aload_n (i := 0) (zd me_X10_next 27 rfl) rfl 0 rfl ?_
  refine zx_getI (zd me_X10_next 28 rfl) fl_X10_45 (zi10_c h0) rfl ?_
  refine zx_putI (zd me_X10_next 29 rfl) fp_X10_51 (zi10_c h0) rfl (fun M6 _ => ?_)
  refine zx_aload_n (i := 0) (zd me_X10_next 30 rfl) rfl 0 rfl ?_
  refine zx_iconst (v := (-1)) (zd me_X10_next 31 rfl) (by decide) ?_
  refine zx_putI (zd me_X10_next 32 rfl) fp_X10_54 (zi10_c h0) rfl (fun M7 _ => ?_)
  refine zx_aload_n (i := 0) (zd me_X10_next 33 rfl) rfl 0 rfl ?_
  refine zx_getI (zd me_X10_next 34 rfl) fl_X10_33 (zi10_c h0) rfl ?_
  refine zx_aload_n (i := 0) (zd me_X10_next 35 rfl) rfl 0 rfl ?_
  refine zx_getI (zd me_X10_next 36 rfl) fl_X10_36 (zi10_c h0) rfl ?_
  refine zx_icmp_le (tgt := 103) (zd me_X10_next 37 rfl) (by decide) (fun c8 => ?_) (fun c8 => ?_)
  · exact mt_X10_next_b103 h0 M7
  · refine zx_aload_n (i := 0) (zd me_X10_next 38 rfl) rfl 0 rfl ?_
    refine zx_getI (zd me_X10_next 39 rfl) fl_X10_45 (zi10_c h0) rfl ?_
    refine zx_aload_n (i := 0) (zd me_X10_next 40 rfl) rfl 0 rfl ?_
    refine zx_getI (zd me_X10_next 41 rfl) fl_X10_36 (zi10_c h0) rfl ?_
    refine zx_icmp_lt (tgt := 103) (zd me_X10_next 42 rfl) (by decide) (fun c9 => ?_) (fun c9 => ?_)
    · exact mt_X10_next_b103 h0 M7
    · refine zx_aload_n (i := 0) (zd me_X10_next 43 rfl) rfl 0 rfl ?_
      refine zx_aload_n (i := 0) (zd me_X10_next 44 rfl) rfl 0 rfl ?_
      refine zx_getI (zd me_X10_next 45 rfl) fl_X10_36 (zi10_c h0) rfl ?_
      refine zx_putI (zd me_X10_next 46 rfl) fp_X10_51 (zi10_c h0) rfl (fun M10 _ => ?_)
      refine zx_aload_n (i := 0) (zd me_X10_next 47 rfl) rfl 0 rfl ?_
      refine zx_iconst (v := 5) (zd me_X10_next 48 rfl) (by decide) ?_
      refine zx_putI (zd me_X10_next 49 rfl) fp_X10_57 (zi10_c h0) rfl (fun M11 _ => ?_)
      refine zx_goto (tgt := 172) (zd me_X10_next 50 rfl) (by decide) ?_
      exact zx_vret (zd me_X10_next 86 rfl) rfl
def mf_X10_next_l0 (R : zRR) (a0 : Nat) : Nat → zMem → Option (Unit × zMem)
  | 0, _ => none
  | fuel + 1, M =>
    if (M.1 a0 1) ≤ (M.1 a0 9) then
      (mf_X10_next_b52 R a0 M)
    else
      (zald 940 (M.1 a0 9) fun j2 =>
      if (M.1 (zrf R a0 0) j2) = (32 : Int32) then
        (mf_X10_next_b39 R a0 (mf_X10_next_l0 R a0 fuel) M)
      else
        (zald 940 (M.1 a0 9) fun j4 =>
        if (M.1 (zrf R a0 0) j4) = (10 : Int32) then
          (mf_X10_next_b39 R a0 (mf_X10_next_l0 R a0 fuel) M)
        else
          (mf_X10_next_b52 R a0 M)))
theorem mt_X10_next_l0 {C : zCx} {ad : Nat → Nat} {T : zTT} {R : zRR} {a0 : Nat} (h0 : zi10 T R a0) : ∀ (fuel : Nat)  (M : zMem), zX C mi_X10_next (zFin C zrvV ad T R) 0 0 (mf_X10_next_l0 R a0 fuel  M) 0 [(0, .ref a0)] [] ad T R M := by
  intro fuel
  induction fuel with
  | zero => intros; exact zx_none
  | succ fuel ih =>
    intro M
    rw [mf_X10_next_l0]
    refine zx_aload_n (i := 0) (zd me_X10_next 0 rfl) rfl 0 rfl ?_
    refine zx_getI (zd me_X10_next 1 rfl) fl_X10_45 (zi10_c h0) rfl ?_
    refine zx_aload_n (i := 0) (zd me_X10_next 2 rfl) rfl 0 rfl ?_
    refine zx_getI (zd me_X10_next 3 rfl) fl_X10_33 (zi10_c h0) rfl ?_
    refine zx_icmp_ge (tgt := 52) (zd me_X10_next 4 rfl) (by decide) (fun c1 => ?_) (fun c1 => ?_)
    · exact mt_X10_next_b52 h0 M
    · refine zx_aload_n (i := 0) (zd me_X10_next 5 rfl) rfl 0 rfl ?_
      refine zx_getR (zd me_X10_next 6 rfl) fl_X10_11 (zi10_c h0) rfl (zi10_r0 h0) ?_
      refine zx_aload_n (i := 0) (zd me_X10_next 7 rfl) rfl 0 rfl ?_
      refine zx_getI (zd me_X10_next 8 rfl) fl_X10_45 (zi10_c h0) rfl ?_
      refine zx_iald (zd me_X10_next 9 rfl) (zi10_t0 h0) (fun j2 hj2 => ?_)
      refine zx_bipush (v := 32) (zd me_X10_next 10 rfl) (by decide) ?_
      refine zx_icmp_eq (tgt := 39) (zd me_X10_next 11 rfl) (by decide) (fun c3 => ?_) (fun c3 => ?_)
      · exact mt_X10_next_b39 h0 ih M
      · refine zx_aload_n (i := 0) (zd me_X10_next 12 rfl) rfl 0 rfl ?_
        refine zx_getR (zd me_X10_next 13 rfl) fl_X10_11 (zi10_c h0) rfl (zi10_r0 h0) ?_
        refine zx_aload_n (i := 0) (zd me_X10_next 14 rfl) rfl 0 rfl ?_
        refine zx_getI (zd me_X10_next 15 rfl) fl_X10_45 (zi10_c h0) rfl ?_
        refine zx_iald (zd me_X10_next 16 rfl) (zi10_t0 h0) (fun j4 hj4 => ?_)
        refine zx_bipush (v := 10) (zd me_X10_next 17 rfl) (by decide) ?_
        refine zx_icmp_ne (tgt := 52) (zd me_X10_next 18 rfl) (by decide) (fun c5 => ?_) (fun c5 => ?_)
        · exact mt_X10_next_b52 h0 M
        · exact mt_X10_next_b39 h0 ih M
def mf_X10_next (R : zRR) (a0 : Nat) (M : zMem) : Option (Unit × zMem) :=
  mf_X10_next_l0 R a0 zF M
theorem mc_X10_next (l : Launch) {T : zTT} {R : zRR} {a0 : Nat} (h0 : zi10 T R a0) (M : zMem) : zMS l yX10_next mi_X10_next zrvV (mf_X10_next R a0 M) [.ref a0] T R M := by
  refine zMS.of (by decide +kernel) rfl ⟨rfl, rfl⟩ (Nat.le_of_ble_eq_true rfl) (fun C ad _ => ?_)
  show zX C mi_X10_next (zFin C zrvV ad T R) 0 0 (mf_X10_next R a0 M) 0 [(0, .ref a0)] [] ad T R M
  unfold mf_X10_next
  exact mt_X10_next_l0 h0 zF M
def mf_X10_begin (R : zRR) (a0 : Nat) (i1 : Int32) (M : zMem) : Option (Unit × zMem) :=
  zlet (zwI M a0 10 i1) fun M1 =>
  zlet (zwI M1 a0 2 (0 : Int32)) fun M2 =>
  zlet (zwI M2 a0 3 (0 : Int32)) fun M3 =>
  zlet (zwI M3 a0 9 (0 : Int32)) fun M4 =>
  zcl (mf_X10_next R a0 M4) fun _ M5 =>
  some ((), M5)
theorem mc_X10_begin (l : Launch) {T : zTT} {R : zRR} {a0 : Nat} (h0 : zi10 T R a0) (i1 : Int32) (M : zMem) : zMS l yX10_begin mi_X10_begin zrvV (mf_X10_begin R a0 i1 M) [.ref a0, .int i1] T R M := by
  refine zMS.of (by decide +kernel) rfl ⟨rfl, rfl⟩ (Nat.le_of_ble_eq_true rfl) (fun C ad _ => ?_)
  show zX C mi_X10_begin (zFin C zrvV ad T R) 0 0 (mf_X10_begin R a0 i1 M) 0 [(0, .ref a0), (1, .int i1)] [] ad T R M
  unfold mf_X10_begin
  refine zx_aload_n (i := 0) (zd me_X10_begin 0 rfl) rfl 0 rfl ?_
  refine zx_iload_n (i := 1) (zd me_X10_begin 1 rfl) rfl 1 rfl ?_
  refine zx_putI (zd me_X10_begin 2 rfl) fp_X10_36 (zi10_c h0) rfl (fun M1 _ => ?_)
  refine zx_aload_n (i := 0) (zd me_X10_begin 3 rfl) rfl 0 rfl ?_
  refine zx_iconst (v := 0) (zd me_X10_begin 4 rfl) (by decide) ?_
  refine zx_putI (zd me_X10_begin 5 rfl) fp_X10_39 (zi10_c h0) rfl (fun M2 _ => ?_)
  refine zx_aload_n (i := 0) (zd me_X10_begin 6 rfl) rfl 0 rfl ?_
  refine zx_iconst (v := 0) (zd me_X10_begin 7 rfl) (by decide) ?_
  refine zx_putI (zd me_X10_begin 8 rfl) fp_X10_42 (zi10_c h0) rfl (fun M3 _ => ?_)
  refine zx_aload_n (i := 0) (zd me_X10_begin 9 rfl) rfl 0 rfl ?_
  refine zx_iconst (v := 0) (zd me_X10_begin 10 rfl) (by decide) ?_
  refine zx_putI (zd me_X10_begin 11 rfl) fp_X10_45 (zi10_c h0) rfl (fun M4 _ => ?_)
  refine zx_aload_n (i := 0) (zd me_X10_begin 12 rfl) rfl 0 rfl ?_
  refine zx_callVV0 (zd me_X10_begin 13 rfl) (mc_X10_next (zl C) h0 M4) lk_X10_48 ⟨(Nat.le_of_ble_eq_true rfl), (Nat.le_of_ble_eq_true rfl)⟩ (Nat.le_of_ble_eq_true rfl) (zi10_c h0) rfl (fun r6 M5 => ?_)
  exact zx_vret (zd me_X10_begin 14 rfl) rfl
def mf_X10_isEnd (R : zRR) (a0 : Nat) (M : zMem) : Option (Int32 × zMem) :=
  if (M.1 a0 4) = 0 then
    (some ((1 : Int32), M))
  else
    (some ((0 : Int32), M))
theorem mc_X10_isEnd (l : Launch) {T : zTT} {R : zRR} {a0 : Nat} (h0 : zi10 T R a0) (M : zMem) : zMS l yX10_isEnd mi_X10_isEnd zrvI (mf_X10_isEnd R a0 M) [.ref a0] T R M := by
  refine zMS.of (by decide +kernel) rfl ⟨rfl, rfl⟩ (Nat.le_of_ble_eq_true rfl) (fun C ad _ => ?_)
  show zX C mi_X10_isEnd (zFin C zrvI ad T R) 0 0 (mf_X10_isEnd R a0 M) 0 [(0, .ref a0)] [] ad T R M
  unfold mf_X10_isEnd
  refine zx_aload_n (i := 0) (zd me_X10_isEnd 0 rfl) rfl 0 rfl ?_
  refine zx_getI (zd me_X10_isEnd 1 rfl) fl_X10_57 (zi10_c h0) rfl ?_
  refine zx_if_ne (tgt := 11) (zd me_X10_isEnd 2 rfl) (by decide) (fun c1 => ?_) (fun c1 => ?_)
  · refine zx_iconst (v := 0) (zd me_X10_isEnd 5 rfl) (by decide) ?_
    exact zx_zret (zd me_X10_isEnd 6 rfl) rfl rfl
  · refine zx_iconst (v := 1) (zd me_X10_isEnd 3 rfl) (by decide) ?_
    refine zx_goto (tgt := 12) (zd me_X10_isEnd 4 rfl) (by decide) ?_
    exact zx_zret (zd me_X10_isEnd 6 rfl) rfl rfl
def mf_X10_fail (R : zRR) (a0 : Nat) (i1 : Int32) (M : zMem) : Option (Int32 × zMem) :=
  zlet (zwI M a0 2 i1) fun M1 =>
  zlet (zwI M1 a0 3 (M1.1 a0 8)) fun M2 =>
  some ((0 : Int32), M2)
theorem mc_X10_fail (l : Launch) {T : zTT} {R : zRR} {a0 : Nat} (h0 : zi10 T R a0) (i1 : Int32) (M : zMem) : zMS l yX10_fail mi_X10_fail zrvI (mf_X10_fail R a0 i1 M) [.ref a0, .int i1] T R M := by
  refine zMS.of (by decide +kernel) rfl ⟨rfl, rfl⟩ (Nat.le_of_ble_eq_true rfl) (fun C ad _ => ?_)
  show zX C mi_X10_fail (zFin C zrvI ad T R) 0 0 (mf_X10_fail R a0 i1 M) 0 [(0, .ref a0), (1, .int i1)] [] ad T R M
  unfold mf_X10_fail
  refine zx_aload_n (i := 0) (zd me_X10_fail 0 rfl) rfl 0 rfl ?_
  refine zx_iload_n (i := 1) (zd me_X10_fail 1 rfl) rfl 1 rfl ?_
  refine zx_putI (zd me_X10_fail 2 rfl) fp_X10_39 (zi10_c h0) rfl (fun M1 _ => ?_)
  refine zx_aload_n (i := 0) (zd me_X10_fail 3 rfl) rfl 0 rfl ?_
  refine zx_aload_n (i := 0) (zd me_X10_fail 4 rfl) rfl 0 rfl ?_
  refine zx_getI (zd me_X10_fail 5 rfl) fl_X10_51 (zi10_c h0) rfl ?_
  refine zx_putI (zd me_X10_fail 6 rfl) fp_X10_42 (zi10_c h0) rfl (fun M2 _ => ?_)
  refine zx_iconst (v := 0) (zd me_X10_fail 7 rfl) (by decide) ?_
  exact zx_zret (zd me_X10_fail 8 rfl) rfl rfl
def mf_X10_passNumber_b31 (R : zRR) (a0 : Nat) (M : zMem) : Option (Int32 × zMem) :=
  zcl (mf_X10_fail R a0 (2 : Int32) M) fun r10 M9 =>
  some ((-1 : Int32), M9)
theorem mt_X10_passNumber_b31 {C : zCx} {ad : Nat → Nat} {T : zTT} {R : zRR} {a0 : Nat} (h0 : zi10 T R a0) (M : zMem) : zX C mi_X10_passNumber (zFin C zrvI ad T R) 0 0 (mf_X10_passNumber_b31 R a0 M) 31 [(0, .ref a0)] [] ad T R M := by
  unfold mf_X10_passNumber_b31
  refine zx_aload_n (i := 0) (zd me_X10_passNumber 19 rfl) rfl 0 rfl ?_
  refine zx_iconst (v := 2) (zd me_X10_passNumber 20 rfl) (by decide) ?_
  refine zx_callVI1 (zd me_X10_passNumber 21 rfl) (mc_X10_fail (zl C) h0 (2 : Int32) M) lk_X10_77 ⟨(Nat.le_of_ble_eq_true rfl), (Nat.le_of_ble_eq_true rfl)⟩ (Nat.le_of_ble_eq_true rfl) (zi10_c h0) rfl (fun r10 M9 => ?_)
  refine zx_pop (zd me_X10_passNumber 22 rfl) rfl ?_
  refine zx_iconst (v := (-1)) (zd me_X10_passNumber 23 rfl) (by decide) ?_
  exact zx_iret (zd me_X10_passNumber 24 rfl) rfl
def mf_X10_passNumber (R : zRR) (a0 : Nat) (i1 : Int32) (i2 : Int32) (M : zMem) : Option (Int32 × zMem) :=
  zlet ((M.1 a0 6) : Int32) fun x1 =>
  if (M.1 a0 4) = (3 : Int32) then
    (if x1 < i1 then
      (mf_X10_passNumber_b31 R a0 M)
    else
      (if x1 ≤ i2 then
        (zcl (mf_X10_next R a0 M) fun _ M5 =>
        some (x1, M5))
      else
        (mf_X10_passNumber_b31 R a0 M)))
  else
    (zcl (mf_X10_fail R a0 (1 : Int32) M) fun r8 M7 =>
    some ((-1 : Int32), M7))
theorem mc_X10_passNumber (l : Launch) {T : zTT} {R : zRR} {a0 : Nat} (h0 : zi10 T R a0) (i1 : Int32) (i2 : Int32) (M : zMem) : zMS l yX10_passNumber mi_X10_passNumber zrvI (mf_X10_passNumber R a0 i1 i2 M) [.ref a0, .int i1, .int i2] T R M := by
  refine zMS.of (by decide +kernel) rfl ⟨rfl, rfl⟩ (Nat.le_of_ble_eq_true rfl) (fun C ad _ => ?_)
  show zX C mi_X10_passNumber (zFin C zrvI ad T R) 0 0 (mf_X10_passNumber R a0 i1 i2 M) 0 [(0, .ref a0), (1, .int i1), (2, .int i2)] [] ad T R M
  unfold mf_X10_passNumber
  refine zx_aload_n (i := 0) (zd me_X10_passNumber 0 rfl) rfl 0 rfl ?_
  refine zx_getI (zd me_X10_passNumber 1 rfl) fl_X10_64 (zi10_c h0) rfl ?_
  refine zx_leti (fun x1 => ?_)
  refine zx_istore_n (i := 3) (ls' := [(3, .int x1), (0, .ref a0), (1, .int i1), (2, .int i2)]) (zd me_X10_passNumber 2 rfl) rfl (Nat.le_of_ble_eq_true rfl) rfl ?_
  refine zx_aload_n (i := 0) (zd me_X10_passNumber 3 rfl) rfl 1 rfl ?_
  refine zx_getI (zd me_X10_passNumber 4 rfl) fl_X10_57 (zi10_c h0) rfl ?_
  refine zx_iconst (v := 3) (zd me_X10_passNumber 5 rfl) (by decide) ?_
  refine zx_icmp_eq (tgt := 21) (zd me_X10_passNumber 6 rfl) (by decide) (fun c2 => ?_) (fun c2 => ?_)
  · refine zx_iload_n (i := 3) (zd me_X10_passNumber 13 rfl) rfl 0 rfl ?_
    refine zx_iload_n (i := 1) (zd me_X10_passNumber 14 rfl) rfl 2 rfl ?_
    refine zx_icmp_lt (tgt := 31) (zd me_X10_passNumber 15 rfl) (by decide) (fun c3 => ?_) (fun c3 => ?_)
    · refine zx_loc [1] rfl ?_
      exact mt_X10_passNumber_b31 h0 M
    · refine zx_iload_n (i := 3) (zd me_X10_passNumber 16 rfl) rfl 0 rfl ?_
      refine zx_iload_n (i := 2) (zd me_X10_passNumber 17 rfl) rfl 3 rfl ?_
      refine zx_icmp_le (tgt := 39) (zd me_X10_passNumber 18 rfl) (by decide) (fun c4 => ?_) (fun c4 => ?_)
      · refine zx_aload_n (i := 0) (zd me_X10_passNumber 25 rfl) rfl 1 rfl ?_
        refine zx_callVV0 (zd me_X10_passNumber 26 rfl) (mc_X10_next (zl C) h0 M) lk_X10_48 ⟨(Nat.le_of_ble_eq_true rfl), (Nat.le_of_ble_eq_true rfl)⟩ (Nat.le_of_ble_eq_true rfl) (zi10_c h0) rfl (fun r6 M5 => ?_)
        refine zx_iload_n (i := 3) (zd me_X10_passNumber 27 rfl) rfl 0 rfl ?_
        exact zx_iret (zd me_X10_passNumber 28 rfl) rfl
      · refine zx_loc [1] rfl ?_
        exact mt_X10_passNumber_b31 h0 M
  · refine zx_aload_n (i := 0) (zd me_X10_passNumber 7 rfl) rfl 1 rfl ?_
    refine zx_iconst (v := 1) (zd me_X10_passNumber 8 rfl) (by decide) ?_
    refine zx_callVI1 (zd me_X10_passNumber 9 rfl) (mc_X10_fail (zl C) h0 (1 : Int32) M) lk_X10_77 ⟨(Nat.le_of_ble_eq_true rfl), (Nat.le_of_ble_eq_true rfl)⟩ (Nat.le_of_ble_eq_true rfl) (zi10_c h0) rfl (fun r8 M7 => ?_)
    refine zx_pop (zd me_X10_passNumber 10 rfl) rfl ?_
    refine zx_iconst (v := (-1)) (zd me_X10_passNumber 11 rfl) (by decide) ?_
    exact zx_iret (zd me_X10_passNumber 12 rfl) rfl
def mf_X7_numberOf_l3 (R : zRR) (a0 : Nat) : Nat → Int64 → Int32 → Int32 → Int32 → zMem → Option (Int32 × zMem)
  | 0, _, _, _, _, _ => none
  | fuel + 1, l1, i3, i4, i5, M =>
    if i4 ≤ i5 then
      (some ((-1 : Int32), M))
    else
      (if (19 : Int32) ≤ (i3 + i5) then
        (some ((-1 : Int32), M))
      else
        (zald 19 (i3 + i5) fun j3 =>
        if (lg_cmp (M.2 (zrf R a0 9) j3) l1) = 0 then
          (some (i5, M))
        else
          (mf_X7_numberOf_l3 R a0 fuel l1 i3 i4 (i5 + 1) M)))
theorem mt_X7_numberOf_l3 {C : zCx} {ad : Nat → Nat} {T : zTT} {R : zRR} {a0 : Nat} (h0 : zi7 T R a0) : ∀ (fuel : Nat) (l1 : Int64) (i3 : Int32) (i4 : Int32) (i5 : Int32) (M : zMem), zX C mi_X7_numberOf (zFin C zrvI ad T R) 0 0 (mf_X7_numberOf_l3 R a0 fuel l1 i3 i4 i5 M) 3 [(0, .ref a0), (1, .long l1), (3, .int i3), (4, .int i4), (5, .int i5)] [] ad T R M := by
  intro fuel
  induction fuel with
  | zero => intros; exact zx_none
  | succ fuel ih =>
    intro l1 i3 i4 i5 M
    rw [mf_X7_numberOf_l3]
    refine zx_iload (zd me_X7_numberOf 2 rfl) 4 rfl ?_
    refine zx_iload (zd me_X7_numberOf 3 rfl) 3 rfl ?_
    refine zx_icmp_ge (tgt := 42) (zd me_X7_numberOf 4 rfl) (by decide) (fun c1 => ?_) (fun c1 => ?_)
    · refine zx_iconst (v := (-1)) (zd me_X7_numberOf 23 rfl) (by decide) ?_
      exact zx_iret (zd me_X7_numberOf 24 rfl) rfl
    · refine zx_iload_n (i := 3) (zd me_X7_numberOf 5 rfl) rfl 2 rfl ?_
      refine zx_iload (zd me_X7_numberOf 6 rfl) 4 rfl ?_
      refine zx_iadd (zd me_X7_numberOf 7 rfl) ?_
      refine zx_bipush (v := 19) (zd me_X7_numberOf 8 rfl) (by decide) ?_
      refine zx_icmp_ge (tgt := 42) (zd me_X7_numberOf 9 rfl) (by decide) (fun c2 => ?_) (fun c2 => ?_)
      · refine zx_iconst (v := (-1)) (zd me_X7_numberOf 23 rfl) (by decide) ?_
        exact zx_iret (zd me_X7_numberOf 24 rfl) rfl
      · refine zx_aload_n (i := 0) (zd me_X7_numberOf 10 rfl) rfl 0 rfl ?_
        refine zx_getR (zd me_X7_numberOf 11 rfl) fl_X7_25 (zi7_c h0) rfl (zi7_r9 h0) ?_
        refine zx_iload_n (i := 3) (zd me_X7_numberOf 12 rfl) rfl 2 rfl ?_
        refine zx_iload (zd me_X7_numberOf 13 rfl) 4 rfl ?_
        refine zx_iadd (zd me_X7_numberOf 14 rfl) ?_
        refine zx_lald (zd me_X7_numberOf 15 rfl) (zi7_t9 h0) (fun j3 hj3 => ?_)
        refine zx_lload_n (i := 1) (zd me_X7_numberOf 16 rfl) rfl 1 rfl ?_
        refine zx_lcmp (zd me_X7_numberOf 17 rfl) ?_
        refine zx_if_ne (tgt := 36) (zd me_X7_numberOf 18 rfl) (by decide) (fun c4 => ?_) (fun c4 => ?_)
        · refine zx_iinc (v := 1) (ls' := [(5, .int (i5 + 1)), (0, .ref a0), (1, .long l1), (3, .int i3), (4, .int i4)]) (zd me_X7_numberOf 21 rfl) (Nat.le_of_ble_eq_true rfl) 4 rfl (by decide) rfl ?_
          refine zx_goto (tgt := 3) (zd me_X7_numberOf 22 rfl) (by decide) ?_
          refine zx_loc [1, 2, 3, 4, 0] rfl ?_
          exact ih l1 i3 i4 (i5 + 1) M
        · refine zx_iload (zd me_X7_numberOf 19 rfl) 4 rfl ?_
          exact zx_iret (zd me_X7_numberOf 20 rfl) rfl
def mf_X7_numberOf (R : zRR) (a0 : Nat) (l1 : Int64) (i3 : Int32) (i4 : Int32) (M : zMem) : Option (Int32 × zMem) :=
  mf_X7_numberOf_l3 R a0 zF l1 i3 i4 (0 : Int32) M
theorem mc_X7_numberOf (l : Launch) {T : zTT} {R : zRR} {a0 : Nat} (h0 : zi7 T R a0) (l1 : Int64) (i3 : Int32) (i4 : Int32) (M : zMem) : zMS l yX7_numberOf mi_X7_numberOf zrvI (mf_X7_numberOf R a0 l1 i3 i4 M) [.ref a0, .long l1, .int i3, .int i4] T R M := by
  refine zMS.of (by decide +kernel) rfl ⟨rfl, rfl⟩ (Nat.le_of_ble_eq_true rfl) (fun C ad _ => ?_)
  show zX C mi_X7_numberOf (zFin C zrvI ad T R) 0 0 (mf_X7_numberOf R a0 l1 i3 i4 M) 0 [(0, .ref a0), (1, .long l1), (3, .int i3), (4, .int i4)] [] ad T R M
  unfold mf_X7_numberOf
  refine zx_iconst (v := 0) (zd me_X7_numberOf 0 rfl) (by decide) ?_
  refine zx_istore (ls' := [(5, .int (0 : Int32)), (0, .ref a0), (1, .long l1), (3, .int i3), (4, .int i4)]) (zd me_X7_numberOf 1 rfl) (Nat.le_of_ble_eq_true rfl) rfl ?_
  refine zx_loc [1, 2, 3, 4, 0] rfl ?_
  exact mt_X7_numberOf_l3 h0 zF l1 i3 i4 (0 : Int32) M
def mf_X7_passKnown (R : zRR) (a0 : Nat) (a1 : Nat) (i2 : Int32) (i3 : Int32) (M : zMem) : Option (Int32 × zMem) :=
  if (M.1 a1 4) = (1 : Int32) then
    (zcl (mf_X7_numberOf R a0 (M.2 a1 7) i2 i3 M) fun r3 M2 =>
    if r3 = (-1 : Int32) then
      (zcl (mf_X10_fail R a1 (3 : Int32) M2) fun r8 M7 =>
      some ((-1 : Int32), M7))
    else
      (zcl (mf_X10_next R a1 M2) fun _ M5 =>
      some (r3, M5)))
  else
    (zcl (mf_X10_fail R a1 (1 : Int32) M) fun r10 M9 =>
    some ((-1 : Int32), M9))
theorem mc_X7_passKnown (l : Launch) {T : zTT} {R : zRR} {a0 : Nat} {a1 : Nat} (h0 : zi7 T R a0) (h1 : zi10 T R a1) (i2 : Int32) (i3 : Int32) (M : zMem) : zMS l yX7_passKnown mi_X7_passKnown zrvI (mf_X7_passKnown R a0 a1 i2 i3 M) [.ref a0, .ref a1, .int i2, .int i3] T R M := by
  refine zMS.of (by decide +kernel) rfl ⟨rfl, rfl⟩ (Nat.le_of_ble_eq_true rfl) (fun C ad _ => ?_)
  show zX C mi_X7_passKnown (zFin C zrvI ad T R) 0 0 (mf_X7_passKnown R a0 a1 i2 i3 M) 0 [(0, .ref a0), (1, .ref a1), (2, .int i2), (3, .int i3)] [] ad T R M
  unfold mf_X7_passKnown
  refine zx_aload_n (i := 1) (zd me_X7_passKnown 0 rfl) rfl 1 rfl ?_
  refine zx_getI (zd me_X7_passKnown 1 rfl) fl_X7_113 (zi10_c h1) rfl ?_
  refine zx_iconst (v := 1) (zd me_X7_passKnown 2 rfl) (by decide) ?_
  refine zx_icmp_eq (tgt := 16) (zd me_X7_passKnown 3 rfl) (by decide) (fun c1 => ?_) (fun c1 => ?_)
  · refine zx_aload_n (i := 0) (zd me_X7_passKnown 10 rfl) rfl 0 rfl ?_
    refine zx_aload_n (i := 1) (zd me_X7_passKnown 11 rfl) rfl 1 rfl ?_
    refine zx_getL (zd me_X7_passKnown 12 rfl) fl_X7_116 (zi10_c h1) rfl ?_
    refine zx_iload_n (i := 2) (zd me_X7_passKnown 13 rfl) rfl 2 rfl ?_
    refine zx_iload_n (i := 3) (zd me_X7_passKnown 14 rfl) rfl 3 rfl ?_
    refine zx_callVI3 (zd me_X7_passKnown 15 rfl) (mc_X7_numberOf (zl C) h0 (M.2 a1 7) i2 i3 M) lk_X7_120 ⟨(Nat.le_of_ble_eq_true rfl), (Nat.le_of_ble_eq_true rfl)⟩ (Nat.le_of_ble_eq_true rfl) (zi7_c h0) rfl (fun r3 M2 => ?_)
    refine zx_istore (ls' := [(4, .int r3), (0, .ref a0), (1, .ref a1), (2, .int i2), (3, .int i3)]) (zd me_X7_passKnown 16 rfl) (Nat.le_of_ble_eq_true rfl) rfl ?_
    refine zx_iload (zd me_X7_passKnown 17 rfl) 0 rfl ?_
    refine zx_iconst (v := (-1)) (zd me_X7_passKnown 18 rfl) (by decide) ?_
    refine zx_icmp_ne (tgt := 42) (zd me_X7_passKnown 19 rfl) (by decide) (fun c4 => ?_) (fun c4 => ?_)
    · refine zx_aload_n (i := 1) (zd me_X7_passKnown 26 rfl) rfl 2 rfl ?_
      refine zx_callVV0 (zd me_X7_passKnown 27 rfl) (mc_X10_next (zl C) h1 M2) lk_X7_98 ⟨(Nat.le_of_ble_eq_true rfl), (Nat.le_of_ble_eq_true rfl)⟩ (Nat.le_of_ble_eq_true rfl) (zi10_c h1) rfl (fun r6 M5 => ?_)
      refine zx_iload (zd me_X7_passKnown 28 rfl) 0 rfl ?_
      exact zx_iret (zd me_X7_passKnown 29 rfl) rfl
    · refine zx_aload_n (i := 1) (zd me_X7_passKnown 20 rfl) rfl 2 rfl ?_
      refine zx_iconst (v := 3) (zd me_X7_passKnown 21 rfl) (by decide) ?_
      refine zx_callVI1 (zd me_X7_passKnown 22 rfl) (mc_X10_fail (zl C) h1 (3 : Int32) M2) lk_X7_95 ⟨(Nat.le_of_ble_eq_true rfl), (Nat.le_of_ble_eq_true rfl)⟩ (Nat.le_of_ble_eq_true rfl) (zi10_c h1) rfl (fun r8 M7 => ?_)
      refine zx_pop (zd me_X7_passKnown 23 rfl) rfl ?_
      refine zx_iconst (v := (-1)) (zd me_X7_passKnown 24 rfl) (by decide) ?_
      exact zx_iret (zd me_X7_passKnown 25 rfl) rfl
  · refine zx_aload_n (i := 1) (zd me_X7_passKnown 4 rfl) rfl 1 rfl ?_
    refine zx_iconst (v := 1) (zd me_X7_passKnown 5 rfl) (by decide) ?_
    refine zx_callVI1 (zd me_X7_passKnown 6 rfl) (mc_X10_fail (zl C) h1 (1 : Int32) M) lk_X7_95 ⟨(Nat.le_of_ble_eq_true rfl), (Nat.le_of_ble_eq_true rfl)⟩ (Nat.le_of_ble_eq_true rfl) (zi10_c h1) rfl (fun r10 M9 => ?_)
    refine zx_pop (zd me_X7_passKnown 7 rfl) rfl ?_
    refine zx_iconst (v := (-1)) (zd me_X7_passKnown 8 rfl) (by decide) ?_
    exact zx_iret (zd me_X7_passKnown 9 rfl) rfl
def mf_X10_isSign (R : zRR) (a0 : Nat) (i1 : Int32) (M : zMem) : Option (Int32 × zMem) :=
  if (M.1 a0 4) = (4 : Int32) then
    (if (M.1 a0 6) = i1 then
      (some ((1 : Int32), M))
    else
      (some ((0 : Int32), M)))
  else
    (some ((0 : Int32), M))
theorem mc_X10_isSign (l : Launch) {T : zTT} {R : zRR} {a0 : Nat} (h0 : zi10 T R a0) (i1 : Int32) (M : zMem) : zMS l yX10_isSign mi_X10_isSign zrvI (mf_X10_isSign R a0 i1 M) [.ref a0, .int i1] T R M := by
  refine zMS.of (by decide +kernel) rfl ⟨rfl, rfl⟩ (Nat.le_of_ble_eq_true rfl) (fun C ad _ => ?_)
  show zX C mi_X10_isSign (zFin C zrvI ad T R) 0 0 (mf_X10_isSign R a0 i1 M) 0 [(0, .ref a0), (1, .int i1)] [] ad T R M
  unfold mf_X10_isSign
  refine zx_aload_n (i := 0) (zd me_X10_isSign 0 rfl) rfl 0 rfl ?_
  refine zx_getI (zd me_X10_isSign 1 rfl) fl_X10_57 (zi10_c h0) rfl ?_
  refine zx_iconst (v := 4) (zd me_X10_isSign 2 rfl) (by decide) ?_
  refine zx_icmp_ne (tgt := 20) (zd me_X10_isSign 3 rfl) (by decide) (fun c1 => ?_) (fun c1 => ?_)
  · refine zx_iconst (v := 0) (zd me_X10_isSign 10 rfl) (by decide) ?_
    exact zx_zret (zd me_X10_isSign 11 rfl) rfl rfl
  · refine zx_aload_n (i := 0) (zd me_X10_isSign 4 rfl) rfl 0 rfl ?_
    refine zx_getI (zd me_X10_isSign 5 rfl) fl_X10_64 (zi10_c h0) rfl ?_
    refine zx_iload_n (i := 1) (zd me_X10_isSign 6 rfl) rfl 1 rfl ?_
    refine zx_icmp_ne (tgt := 20) (zd me_X10_isSign 7 rfl) (by decide) (fun c2 => ?_) (fun c2 => ?_)
    · refine zx_iconst (v := 0) (zd me_X10_isSign 10 rfl) (by decide) ?_
      exact zx_zret (zd me_X10_isSign 11 rfl) rfl rfl
    · refine zx_iconst (v := 1) (zd me_X10_isSign 8 rfl) (by decide) ?_
      refine zx_goto (tgt := 21) (zd me_X10_isSign 9 rfl) (by decide) ?_
      exact zx_zret (zd me_X10_isSign 11 rfl) rfl rfl
def mf_X10_passSign (R : zRR) (a0 : Nat) (i1 : Int32) (M : zMem) : Option (Int32 × zMem) :=
  zcl (mf_X10_isSign R a0 i1 M) fun r2 M1 =>
  if r2 = 0 then
    (zcl (mf_X10_fail R a0 (1 : Int32) M1) fun r7 M6 =>
    zchk (r7 = 0 ∨ r7 = 1) (some (r7, M6)))
  else
    (zcl (mf_X10_next R a0 M1) fun _ M4 =>
    some ((1 : Int32), M4))
theorem mc_X10_passSign (l : Launch) {T : zTT} {R : zRR} {a0 : Nat} (h0 : zi10 T R a0) (i1 : Int32) (M : zMem) : zMS l yX10_passSign mi_X10_passSign zrvI (mf_X10_passSign R a0 i1 M) [.ref a0, .int i1] T R M := by
  refine zMS.of (by decide +kernel) rfl ⟨rfl, rfl⟩ (Nat.le_of_ble_eq_true rfl) (fun C ad _ => ?_)
  show zX C mi_X10_passSign (zFin C zrvI ad T R) 0 0 (mf_X10_passSign R a0 i1 M) 0 [(0, .ref a0), (1, .int i1)] [] ad T R M
  unfold mf_X10_passSign
  refine zx_aload_n (i := 0) (zd me_X10_passSign 0 rfl) rfl 0 rfl ?_
  refine zx_iload_n (i := 1) (zd me_X10_passSign 1 rfl) rfl 1 rfl ?_
  refine zx_callVI1 (zd me_X10_passSign 2 rfl) (mc_X10_isSign (zl C) h0 i1 M) lk_X10_74 ⟨(Nat.le_of_ble_eq_true rfl), (Nat.le_of_ble_eq_true rfl)⟩ (Nat.le_of_ble_eq_true rfl) (zi10_c h0) rfl (fun r2 M1 => ?_)
  refine zx_if_ne (tgt := 14) (zd me_X10_passSign 3 rfl) (by decide) (fun c3 => ?_) (fun c3 => ?_)
  · refine zx_aload_n (i := 0) (zd me_X10_passSign 8 rfl) rfl 0 rfl ?_
    refine zx_callVV0 (zd me_X10_passSign 9 rfl) (mc_X10_next (zl C) h0 M1) lk_X10_48 ⟨(Nat.le_of_ble_eq_true rfl), (Nat.le_of_ble_eq_true rfl)⟩ (Nat.le_of_ble_eq_true rfl) (zi10_c h0) rfl (fun r5 M4 => ?_)
    refine zx_iconst (v := 1) (zd me_X10_passSign 10 rfl) (by decide) ?_
    exact zx_zret (zd me_X10_passSign 11 rfl) rfl rfl
  · refine zx_aload_n (i := 0) (zd me_X10_passSign 4 rfl) rfl 0 rfl ?_
    refine zx_iconst (v := 1) (zd me_X10_passSign 5 rfl) (by decide) ?_
    refine zx_callVI1 (zd me_X10_passSign 6 rfl) (mc_X10_fail (zl C) h0 (1 : Int32) M1) lk_X10_77 ⟨(Nat.le_of_ble_eq_true rfl), (Nat.le_of_ble_eq_true rfl)⟩ (Nat.le_of_ble_eq_true rfl) (zi10_c h0) rfl (fun r7 M6 => ?_)
    exact zx_zretC (zd me_X10_passSign 7 rfl) rfl
def mf_X7_hasSheet (R : zRR) (a0 : Nat) (i1 : Int32) (M : zMem) : Option (Int32 × zMem) :=
  if i1 < 0 then
    (some ((0 : Int32), M))
  else
    (if (M.1 a0 2) ≤ i1 then
      (some ((0 : Int32), M))
    else
      (some ((1 : Int32), M)))
theorem mc_X7_hasSheet (l : Launch) {T : zTT} {R : zRR} {a0 : Nat} (h0 : zi7 T R a0) (i1 : Int32) (M : zMem) : zMS l yX7_hasSheet mi_X7_hasSheet zrvI (mf_X7_hasSheet R a0 i1 M) [.ref a0, .int i1] T R M := by
  refine zMS.of (by decide +kernel) rfl ⟨rfl, rfl⟩ (Nat.le_of_ble_eq_true rfl) (fun C ad _ => ?_)
  show zX C mi_X7_hasSheet (zFin C zrvI ad T R) 0 0 (mf_X7_hasSheet R a0 i1 M) 0 [(0, .ref a0), (1, .int i1)] [] ad T R M
  unfold mf_X7_hasSheet
  refine zx_iload_n (i := 1) (zd me_X7_hasSheet 0 rfl) rfl 1 rfl ?_
  refine zx_if_lt (tgt := 16) (zd me_X7_hasSheet 1 rfl) (by decide) (fun c1 => ?_) (fun c1 => ?_)
  · refine zx_iconst (v := 0) (zd me_X7_hasSheet 8 rfl) (by decide) ?_
    exact zx_zret (zd me_X7_hasSheet 9 rfl) rfl rfl
  · refine zx_iload_n (i := 1) (zd me_X7_hasSheet 2 rfl) rfl 1 rfl ?_
    refine zx_aload_n (i := 0) (zd me_X7_hasSheet 3 rfl) rfl 0 rfl ?_
    refine zx_getI (zd me_X7_hasSheet 4 rfl) fl_X7_38 (zi7_c h0) rfl ?_
    refine zx_icmp_ge (tgt := 16) (zd me_X7_hasSheet 5 rfl) (by decide) (fun c2 => ?_) (fun c2 => ?_)
    · refine zx_iconst (v := 0) (zd me_X7_hasSheet 8 rfl) (by decide) ?_
      exact zx_zret (zd me_X7_hasSheet 9 rfl) rfl rfl
    · refine zx_iconst (v := 1) (zd me_X7_hasSheet 6 rfl) (by decide) ?_
      refine zx_goto (tgt := 17) (zd me_X7_hasSheet 7 rfl) (by decide) ?_
      exact zx_zret (zd me_X7_hasSheet 9 rfl) rfl rfl
def mf_X7_bathAfter_l19 (R : zRR) (a0 : Nat) : Nat → Int32 → Int32 → zMem → Option (Int32 × zMem)
  | 0, _, _, _ => none
  | fuel + 1, i1, i3, M =>
    if (M.1 a0 0) ≤ i3 then
      (some ((-1 : Int32), M))
    else
      (zald 8 i1 fun j7 =>
      zald 30 (((M.1 (zrf R a0 8) j7) * (6 : Int32)) + i3) fun j8 =>
      if (M.1 (zrf R a0 10) j8) ≤ 0 then
        (mf_X7_bathAfter_l19 R a0 fuel i1 (i3 + 1) M)
      else
        (some (i3, M)))
theorem mt_X7_bathAfter_l19 {C : zCx} {ad : Nat → Nat} {T : zTT} {R : zRR} {a0 : Nat} (h0 : zi7 T R a0) : ∀ (fuel : Nat) (i1 : Int32) (i3 : Int32) (M : zMem), zX C mi_X7_bathAfter (zFin C zrvI ad T R) 0 0 (mf_X7_bathAfter_l19 R a0 fuel i1 i3 M) 19 [(0, .ref a0), (1, .int i1), (3, .int i3)] [] ad T R M := by
  intro fuel
  induction fuel with
  | zero => intros; exact zx_none
  | succ fuel ih =>
    intro i1 i3 M
    rw [mf_X7_bathAfter_l19]
    refine zx_iload_n (i := 3) (zd me_X7_bathAfter 13 rfl) rfl 2 rfl ?_
    refine zx_aload_n (i := 0) (zd me_X7_bathAfter 14 rfl) rfl 0 rfl ?_
    refine zx_getI (zd me_X7_bathAfter 15 rfl) fl_X7_32 (zi7_c h0) rfl ?_
    refine zx_icmp_ge (tgt := 54) (zd me_X7_bathAfter 16 rfl) (by decide) (fun c6 => ?_) (fun c6 => ?_)
    · refine zx_iconst (v := (-1)) (zd me_X7_bathAfter 33 rfl) (by decide) ?_
      exact zx_iret (zd me_X7_bathAfter 34 rfl) rfl
    · refine zx_aload_n (i := 0) (zd me_X7_bathAfter 17 rfl) rfl 0 rfl ?_
      refine zx_getR (zd me_X7_bathAfter 18 rfl) fl_X7_29 (zi7_c h0) rfl (zi7_r10 h0) ?_
      refine zx_aload_n (i := 0) (zd me_X7_bathAfter 19 rfl) rfl 0 rfl ?_
      refine zx_getR (zd me_X7_bathAfter 20 rfl) fl_X7_22 (zi7_c h0) rfl (zi7_r8 h0) ?_
      refine zx_iload_n (i := 1) (zd me_X7_bathAfter 21 rfl) rfl 1 rfl ?_
      refine zx_iald (zd me_X7_bathAfter 22 rfl) (zi7_t8 h0) (fun j7 hj7 => ?_)
      refine zx_bipush (v := 6) (zd me_X7_bathAfter 23 rfl) (by decide) ?_
      refine zx_imul (zd me_X7_bathAfter 24 rfl) ?_
      refine zx_iload_n (i := 3) (zd me_X7_bathAfter 25 rfl) rfl 2 rfl ?_
      refine zx_iadd (zd me_X7_bathAfter 26 rfl) ?_
      refine zx_iald (zd me_X7_bathAfter 27 rfl) (zi7_t10 h0) (fun j8 hj8 => ?_)
      refine zx_if_le (tgt := 48) (zd me_X7_bathAfter 28 rfl) (by decide) (fun c9 => ?_) (fun c9 => ?_)
      · refine zx_iinc (v := 1) (ls' := [(3, .int (i3 + 1)), (0, .ref a0), (1, .int i1)]) (zd me_X7_bathAfter 31 rfl) (Nat.le_of_ble_eq_true rfl) 2 rfl (by decide) rfl ?_
        refine zx_goto (tgt := 19) (zd me_X7_bathAfter 32 rfl) (by decide) ?_
        refine zx_loc [1, 2, 0] rfl ?_
        exact ih i1 (i3 + 1) M
      · refine zx_iload_n (i := 3) (zd me_X7_bathAfter 29 rfl) rfl 2 rfl ?_
        exact zx_iret (zd me_X7_bathAfter 30 rfl) rfl
def mf_X7_bathAfter (R : zRR) (a0 : Nat) (i1 : Int32) (i2 : Int32) (M : zMem) : Option (Int32 × zMem) :=
  zcl (mf_X7_hasSheet R a0 i1 M) fun r2 M1 =>
  if r2 = 0 then
    (some ((-1 : Int32), M1))
  else
    (if (-1 : Int32) ≤ i2 then
      (zlet ((i2 + (1 : Int32)) : Int32) fun x5 =>
      mf_X7_bathAfter_l19 R a0 zF i1 x5 M1)
    else
      (some ((-1 : Int32), M1)))
theorem mc_X7_bathAfter (l : Launch) {T : zTT} {R : zRR} {a0 : Nat} (h0 : zi7 T R a0) (i1 : Int32) (i2 : Int32) (M : zMem) : zMS l yX7_bathAfter mi_X7_bathAfter zrvI (mf_X7_bathAfter R a0 i1 i2 M) [.ref a0, .int i1, .int i2] T R M := by
  refine zMS.of (by decide +kernel) rfl ⟨rfl, rfl⟩ (Nat.le_of_ble_eq_true rfl) (fun C ad _ => ?_)
  show zX C mi_X7_bathAfter (zFin C zrvI ad T R) 0 0 (mf_X7_bathAfter R a0 i1 i2 M) 0 [(0, .ref a0), (1, .int i1), (2, .int i2)] [] ad T R M
  unfold mf_X7_bathAfter
  refine zx_aload_n (i := 0) (zd me_X7_bathAfter 0 rfl) rfl 0 rfl ?_
  refine zx_iload_n (i := 1) (zd me_X7_bathAfter 1 rfl) rfl 1 rfl ?_
  refine zx_callVI1 (zd me_X7_bathAfter 2 rfl) (mc_X7_hasSheet (zl C) h0 i1 M) lk_X7_41 ⟨(Nat.le_of_ble_eq_true rfl), (Nat.le_of_ble_eq_true rfl)⟩ (Nat.le_of_ble_eq_true rfl) (zi7_c h0) rfl (fun r2 M1 => ?_)
  refine zx_if_eq (tgt := 13) (zd me_X7_bathAfter 3 rfl) (by decide) (fun c3 => ?_) (fun c3 => ?_)
  · refine zx_iconst (v := (-1)) (zd me_X7_bathAfter 7 rfl) (by decide) ?_
    exact zx_iret (zd me_X7_bathAfter 8 rfl) rfl
  · refine zx_iload_n (i := 2) (zd me_X7_bathAfter 4 rfl) rfl 2 rfl ?_
    refine zx_iconst (v := (-1)) (zd me_X7_bathAfter 5 rfl) (by decide) ?_
    refine zx_icmp_ge (tgt := 15) (zd me_X7_bathAfter 6 rfl) (by decide) (fun c4 => ?_) (fun c4 => ?_)
    · refine zx_iload_n (i := 2) (zd me_X7_bathAfter 9 rfl) rfl 2 rfl ?_
      refine zx_iconst (v := 1) (zd me_X7_bathAfter 10 rfl) (by decide) ?_
      refine zx_iadd (zd me_X7_bathAfter 11 rfl) ?_
      refine zx_leti (fun x5 => ?_)
      refine zx_istore_n (i := 3) (ls' := [(3, .int x5), (0, .ref a0), (1, .int i1), (2, .int i2)]) (zd me_X7_bathAfter 12 rfl) rfl (Nat.le_of_ble_eq_true rfl) rfl ?_
      refine zx_loc [1, 2, 0] rfl ?_
      exact mt_X7_bathAfter_l19 h0 zF i1 x5 M1
    · refine zx_iconst (v := (-1)) (zd me_X7_bathAfter 7 rfl) (by decide) ?_
      exact zx_iret (zd me_X7_bathAfter 8 rfl) rfl
def mf_X7_hasBath (R : zRR) (a0 : Nat) (i1 : Int32) (M : zMem) : Option (Int32 × zMem) :=
  if i1 < 0 then
    (some ((0 : Int32), M))
  else
    (if (M.1 a0 0) ≤ i1 then
      (some ((0 : Int32), M))
    else
      (some ((1 : Int32), M)))
theorem mc_X7_hasBath (l : Launch) {T : zTT} {R : zRR} {a0 : Nat} (h0 : zi7 T R a0) (i1 : Int32) (M : zMem) : zMS l yX7_hasBath mi_X7_hasBath zrvI (mf_X7_hasBath R a0 i1 M) [.ref a0, .int i1] T R M := by
  refine zMS.of (by decide +kernel) rfl ⟨rfl, rfl⟩ (Nat.le_of_ble_eq_true rfl) (fun C ad _ => ?_)
  show zX C mi_X7_hasBath (zFin C zrvI ad T R) 0 0 (mf_X7_hasBath R a0 i1 M) 0 [(0, .ref a0), (1, .int i1)] [] ad T R M
  unfold mf_X7_hasBath
  refine zx_iload_n (i := 1) (zd me_X7_hasBath 0 rfl) rfl 1 rfl ?_
  refine zx_if_lt (tgt := 16) (zd me_X7_hasBath 1 rfl) (by decide) (fun c1 => ?_) (fun c1 => ?_)
  · refine zx_iconst (v := 0) (zd me_X7_hasBath 8 rfl) (by decide) ?_
    exact zx_zret (zd me_X7_hasBath 9 rfl) rfl rfl
  · refine zx_iload_n (i := 1) (zd me_X7_hasBath 2 rfl) rfl 1 rfl ?_
    refine zx_aload_n (i := 0) (zd me_X7_hasBath 3 rfl) rfl 0 rfl ?_
    refine zx_getI (zd me_X7_hasBath 4 rfl) fl_X7_32 (zi7_c h0) rfl ?_
    refine zx_icmp_ge (tgt := 16) (zd me_X7_hasBath 5 rfl) (by decide) (fun c2 => ?_) (fun c2 => ?_)
    · refine zx_iconst (v := 0) (zd me_X7_hasBath 8 rfl) (by decide) ?_
      exact zx_zret (zd me_X7_hasBath 9 rfl) rfl rfl
    · refine zx_iconst (v := 1) (zd me_X7_hasBath 6 rfl) (by decide) ?_
      refine zx_goto (tgt := 17) (zd me_X7_hasBath 7 rfl) (by decide) ?_
      exact zx_zret (zd me_X7_hasBath 9 rfl) rfl rfl
def mf_J6_bitCount_0f7a4 (R : zRR) (i0 : Int32) (M : zMem) : Option (Int32 × zMem) :=
  zlet ((i0 - ((i0.toUInt32 >>> ((1 : Int32).toUInt32 &&& Int32.toUInt32 31)).toInt32 &&& (1431655765 : Int32))) : Int32) fun x1 =>
  zlet (((x1 &&& (858993459 : Int32)) + ((x1.toUInt32 >>> ((2 : Int32).toUInt32 &&& Int32.toUInt32 31)).toInt32 &&& (858993459 : Int32))) : Int32) fun x2 =>
  zlet (((x2 + (x2.toUInt32 >>> ((4 : Int32).toUInt32 &&& Int32.toUInt32 31)).toInt32) &&& (252645135 : Int32)) : Int32) fun x3 =>
  zlet ((x3 + (x3.toUInt32 >>> ((8 : Int32).toUInt32 &&& Int32.toUInt32 31)).toInt32) : Int32) fun x4 =>
  zlet ((x4 + (x4.toUInt32 >>> ((16 : Int32).toUInt32 &&& Int32.toUInt32 31)).toInt32) : Int32) fun x5 =>
  some ((x5 &&& (63 : Int32)), M)
theorem mc_J6_bitCount_0f7a4 (l : Launch) {T : zTT} {R : zRR}  (i0 : Int32) (M : zMem) : zMS l yJ6_bitCount_0f7a4 mi_J6_bitCount_0f7a4 zrvI (mf_J6_bitCount_0f7a4 R i0 M) [.int i0] T R M := by
  refine zMS.of (by decide +kernel) rfl ⟨rfl, rfl⟩ (Nat.le_of_ble_eq_true rfl) (fun C ad _ => ?_)
  show zX C mi_J6_bitCount_0f7a4 (zFin C zrvI ad T R) 0 0 (mf_J6_bitCount_0f7a4 R i0 M) 0 [(0, .int i0)] [] ad T R M
  unfold mf_J6_bitCount_0f7a4
  refine zx_iload_n (i := 0) (zd me_J6_bitCount_0f7a4 0 rfl) rfl 0 rfl ?_
  refine zx_iload_n (i := 0) (zd me_J6_bitCount_0f7a4 1 rfl) rfl 0 rfl ?_
  refine zx_iconst (v := 1) (zd me_J6_bitCount_0f7a4 2 rfl) (by decide) ?_
  refine zx_iushr (zd me_J6_bitCount_0f7a4 3 rfl) ?_
  refine zx_ldcw (v := 1431655765) (zd me_J6_bitCount_0f7a4 4 rfl) (zt3 132 rfl rfl) ?_
  refine zx_iand (zd me_J6_bitCount_0f7a4 5 rfl) ?_
  refine zx_isub (zd me_J6_bitCount_0f7a4 6 rfl) ?_
  refine zx_leti (fun x1 => ?_)
  refine zx_istore_n (i := 0) (ls' := [(0, .int x1)]) (zd me_J6_bitCount_0f7a4 7 rfl) rfl (Nat.le_of_ble_eq_true rfl) rfl ?_
  refine zx_iload_n (i := 0) (zd me_J6_bitCount_0f7a4 8 rfl) rfl 0 rfl ?_
  refine zx_ldcw (v := 858993459) (zd me_J6_bitCount_0f7a4 9 rfl) (zt3 133 rfl rfl) ?_
  refine zx_iand (zd me_J6_bitCount_0f7a4 10 rfl) ?_
  refine zx_iload_n (i := 0) (zd me_J6_bitCount_0f7a4 11 rfl) rfl 0 rfl ?_
  refine zx_iconst (v := 2) (zd me_J6_bitCount_0f7a4 12 rfl) (by decide) ?_
  refine zx_iushr (zd me_J6_bitCount_0f7a4 13 rfl) ?_
  refine zx_ldcw (v := 858993459) (zd me_J6_bitCount_0f7a4 14 rfl) (zt3 133 rfl rfl) ?_
  refine zx_iand (zd me_J6_bitCount_0f7a4 15 rfl) ?_
  refine zx_iadd (zd me_J6_bitCount_0f7a4 16 rfl) ?_
  refine zx_leti (fun x2 => ?_)
  refine zx_istore_n (i := 0) (ls' := [(0, .int x2)]) (zd me_J6_bitCount_0f7a4 17 rfl) rfl (Nat.le_of_ble_eq_true rfl) rfl ?_
  refine zx_iload_n (i := 0) (zd me_J6_bitCount_0f7a4 18 rfl) rfl 0 rfl ?_
  refine zx_iload_n (i := 0) (zd me_J6_bitCount_0f7a4 19 rfl) rfl 0 rfl ?_
  refine zx_iconst (v := 4) (zd me_J6_bitCount_0f7a4 20 rfl) (by decide) ?_
  refine zx_iushr (zd me_J6_bitCount_0f7a4 21 rfl) ?_
  refine zx_iadd (zd me_J6_bitCount_0f7a4 22 rfl) ?_
  refine zx_ldcw (v := 252645135) (zd me_J6_bitCount_0f7a4 23 rfl) (zt3 134 rfl rfl) ?_
  refine zx_iand (zd me_J6_bitCount_0f7a4 24 rfl) ?_
  refine zx_leti (fun x3 => ?_)
  refine zx_istore_n (i := 0) (ls' := [(0, .int x3)]) (zd me_J6_bitCount_0f7a4 25 rfl) rfl (Nat.le_of_ble_eq_true rfl) rfl ?_
  refine zx_iload_n (i := 0) (zd me_J6_bitCount_0f7a4 26 rfl) rfl 0 rfl ?_
  refine zx_iload_n (i := 0) (zd me_J6_bitCount_0f7a4 27 rfl) rfl 0 rfl ?_
  refine zx_bipush (v := 8) (zd me_J6_bitCount_0f7a4 28 rfl) (by decide) ?_
  refine zx_iushr (zd me_J6_bitCount_0f7a4 29 rfl) ?_
  refine zx_iadd (zd me_J6_bitCount_0f7a4 30 rfl) ?_
  refine zx_leti (fun x4 => ?_)
  refine zx_istore_n (i := 0) (ls' := [(0, .int x4)]) (zd me_J6_bitCount_0f7a4 31 rfl) rfl (Nat.le_of_ble_eq_true rfl) rfl ?_
  refine zx_iload_n (i := 0) (zd me_J6_bitCount_0f7a4 32 rfl) rfl 0 rfl ?_
  refine zx_iload_n (i := 0) (zd me_J6_bitCount_0f7a4 33 rfl) rfl 0 rfl ?_
  refine zx_bipush (v := 16) (zd me_J6_bitCount_0f7a4 34 rfl) (by decide) ?_
  refine zx_iushr (zd me_J6_bitCount_0f7a4 35 rfl) ?_
  refine zx_iadd (zd me_J6_bitCount_0f7a4 36 rfl) ?_
  refine zx_leti (fun x5 => ?_)
  refine zx_istore_n (i := 0) (ls' := [(0, .int x5)]) (zd me_J6_bitCount_0f7a4 37 rfl) rfl (Nat.le_of_ble_eq_true rfl) rfl ?_
  refine zx_iload_n (i := 0) (zd me_J6_bitCount_0f7a4 38 rfl) rfl 0 rfl ?_
  refine zx_bipush (v := 63) (zd me_J6_bitCount_0f7a4 39 rfl) (by decide) ?_
  refine zx_iand (zd me_J6_bitCount_0f7a4 40 rfl) ?_
  exact zx_iret (zd me_J6_bitCount_0f7a4 41 rfl) rfl
def mf_X7_asked (R : zRR) (a0 : Nat) (i1 : Int32) (i2 : Int32) (M : zMem) : Option (Int32 × zMem) :=
  if i1 < 0 then
    (some ((0 : Int32), M))
  else
    (if (M.1 a0 1) ≤ i1 then
      (some ((0 : Int32), M))
    else
      (if i2 < 0 then
        (some ((0 : Int32), M))
      else
        (if (M.1 a0 0) ≤ i2 then
          (some ((0 : Int32), M))
        else
          (zald 30 ((i1 * (6 : Int32)) + i2) fun j5 =>
          some ((M.1 (zrf R a0 10) j5), M)))))
theorem mc_X7_asked (l : Launch) {T : zTT} {R : zRR} {a0 : Nat} (h0 : zi7 T R a0) (i1 : Int32) (i2 : Int32) (M : zMem) : zMS l yX7_asked mi_X7_asked zrvI (mf_X7_asked R a0 i1 i2 M) [.ref a0, .int i1, .int i2] T R M := by
  refine zMS.of (by decide +kernel) rfl ⟨rfl, rfl⟩ (Nat.le_of_ble_eq_true rfl) (fun C ad _ => ?_)
  show zX C mi_X7_asked (zFin C zrvI ad T R) 0 0 (mf_X7_asked R a0 i1 i2 M) 0 [(0, .ref a0), (1, .int i1), (2, .int i2)] [] ad T R M
  unfold mf_X7_asked
  refine zx_iload_n (i := 1) (zd me_X7_asked 0 rfl) rfl 1 rfl ?_
  refine zx_if_lt (tgt := 38) (zd me_X7_asked 1 rfl) (by decide) (fun c1 => ?_) (fun c1 => ?_)
  · refine zx_iconst (v := 0) (zd me_X7_asked 21 rfl) (by decide) ?_
    exact zx_iret (zd me_X7_asked 22 rfl) rfl
  · refine zx_iload_n (i := 1) (zd me_X7_asked 2 rfl) rfl 1 rfl ?_
    refine zx_aload_n (i := 0) (zd me_X7_asked 3 rfl) rfl 0 rfl ?_
    refine zx_getI (zd me_X7_asked 4 rfl) fl_X7_35 (zi7_c h0) rfl ?_
    refine zx_icmp_ge (tgt := 38) (zd me_X7_asked 5 rfl) (by decide) (fun c2 => ?_) (fun c2 => ?_)
    · refine zx_iconst (v := 0) (zd me_X7_asked 21 rfl) (by decide) ?_
      exact zx_iret (zd me_X7_asked 22 rfl) rfl
    · refine zx_iload_n (i := 2) (zd me_X7_asked 6 rfl) rfl 2 rfl ?_
      refine zx_if_lt (tgt := 38) (zd me_X7_asked 7 rfl) (by decide) (fun c3 => ?_) (fun c3 => ?_)
      · refine zx_iconst (v := 0) (zd me_X7_asked 21 rfl) (by decide) ?_
        exact zx_iret (zd me_X7_asked 22 rfl) rfl
      · refine zx_iload_n (i := 2) (zd me_X7_asked 8 rfl) rfl 2 rfl ?_
        refine zx_aload_n (i := 0) (zd me_X7_asked 9 rfl) rfl 0 rfl ?_
        refine zx_getI (zd me_X7_asked 10 rfl) fl_X7_32 (zi7_c h0) rfl ?_
        refine zx_icmp_ge (tgt := 38) (zd me_X7_asked 11 rfl) (by decide) (fun c4 => ?_) (fun c4 => ?_)
        · refine zx_iconst (v := 0) (zd me_X7_asked 21 rfl) (by decide) ?_
          exact zx_iret (zd me_X7_asked 22 rfl) rfl
        · refine zx_aload_n (i := 0) (zd me_X7_asked 12 rfl) rfl 0 rfl ?_
          refine zx_getR (zd me_X7_asked 13 rfl) fl_X7_29 (zi7_c h0) rfl (zi7_r10 h0) ?_
          refine zx_iload_n (i := 1) (zd me_X7_asked 14 rfl) rfl 1 rfl ?_
          refine zx_bipush (v := 6) (zd me_X7_asked 15 rfl) (by decide) ?_
          refine zx_imul (zd me_X7_asked 16 rfl) ?_
          refine zx_iload_n (i := 2) (zd me_X7_asked 17 rfl) rfl 2 rfl ?_
          refine zx_iadd (zd me_X7_asked 18 rfl) ?_
          refine zx_iald (zd me_X7_asked 19 rfl) (zi7_t10 h0) (fun j5 hj5 => ?_)
          refine zx_goto (tgt := 39) (zd me_X7_asked 20 rfl) (by decide) ?_
          exact zx_iret (zd me_X7_asked 22 rfl) rfl
def mf_X7_copyFrom (R : zRR) (a0 : Nat) (a1 : Nat) (M : zMem) : Option (Unit × zMem) :=
  zlet (zwI M a0 0 (M.1 a1 0)) fun M1 =>
  zlet (zwI M1 a0 1 (M1.1 a1 1)) fun M2 =>
  zlet (zwI M2 a0 2 (M2.1 a1 2)) fun M3 =>
  zlet (zwI M3 a0 3 (M3.1 a1 3)) fun M4 =>
  zlet (zwI M4 a0 4 (M4.1 a1 4)) fun M5 =>
  zlet (zwI M5 a0 5 (M5.1 a1 5)) fun M6 =>
  zlet (zrowI M6 (zrf R a0 6) (va_cpy (M6.1 (zrf R a1 6)) (M6.1 (zrf R a0 6)) (0 : Int32).toNatClampNeg (0 : Int32).toNatClampNeg (6 : Int32).toNatClampNeg)) fun M7 =>
  zlet (zrowI M7 (zrf R a0 7) (va_cpy (M7.1 (zrf R a1 7)) (M7.1 (zrf R a0 7)) (0 : Int32).toNatClampNeg (0 : Int32).toNatClampNeg (6 : Int32).toNatClampNeg)) fun M8 =>
  zlet (zrowI M8 (zrf R a0 8) (va_cpy (M8.1 (zrf R a1 8)) (M8.1 (zrf R a0 8)) (0 : Int32).toNatClampNeg (0 : Int32).toNatClampNeg (8 : Int32).toNatClampNeg)) fun M9 =>
  zlet (zrowL M9 (zrf R a0 9) (va_cpy (M9.2 (zrf R a1 9)) (M9.2 (zrf R a0 9)) (0 : Int32).toNatClampNeg (0 : Int32).toNatClampNeg (19 : Int32).toNatClampNeg)) fun M10 =>
  zlet (zrowI M10 (zrf R a0 10) (va_cpy (M10.1 (zrf R a1 10)) (M10.1 (zrf R a0 10)) (0 : Int32).toNatClampNeg (0 : Int32).toNatClampNeg (30 : Int32).toNatClampNeg)) fun M11 =>
  some ((), M11)
theorem mc_X7_copyFrom (l : Launch) {T : zTT} {R : zRR} {a0 : Nat} {a1 : Nat} (h0 : zi7 T R a0) (h1 : zi7 T R a1) (M : zMem) : zMS l yX7_copyFrom mi_X7_copyFrom zrvV (mf_X7_copyFrom R a0 a1 M) [.ref a0, .ref a1] T R M := by
  refine zMS.of (by decide +kernel) rfl ⟨rfl, rfl⟩ (Nat.le_of_ble_eq_true rfl) (fun C ad _ => ?_)
  show zX C mi_X7_copyFrom (zFin C zrvV ad T R) 0 0 (mf_X7_copyFrom R a0 a1 M) 0 [(0, .ref a0), (1, .ref a1)] [] ad T R M
  unfold mf_X7_copyFrom
  refine zx_aload_n (i := 0) (zd me_X7_copyFrom 0 rfl) rfl 0 rfl ?_
  refine zx_aload_n (i := 1) (zd me_X7_copyFrom 1 rfl) rfl 1 rfl ?_
  refine zx_getI (zd me_X7_copyFrom 2 rfl) fl_X7_32 (zi7_c h1) rfl ?_
  refine zx_putI (zd me_X7_copyFrom 3 rfl) fp_X7_32 (zi7_c h0) rfl (fun M1 _ => ?_)
  refine zx_aload_n (i := 0) (zd me_X7_copyFrom 4 rfl) rfl 0 rfl ?_
  refine zx_aload_n (i := 1) (zd me_X7_copyFrom 5 rfl) rfl 1 rfl ?_
  refine zx_getI (zd me_X7_copyFrom 6 rfl) fl_X7_35 (zi7_c h1) rfl ?_
  refine zx_putI (zd me_X7_copyFrom 7 rfl) fp_X7_35 (zi7_c h0) rfl (fun M2 _ => ?_)
  refine zx_aload_n (i := 0) (zd me_X7_copyFrom 8 rfl) rfl 0 rfl ?_
  refine zx_aload_n (i := 1) (zd me_X7_copyFrom 9 rfl) rfl 1 rfl ?_
  refine zx_getI (zd me_X7_copyFrom 10 rfl) fl_X7_38 (zi7_c h1) rfl ?_
  refine zx_putI (zd me_X7_copyFrom 11 rfl) fp_X7_38 (zi7_c h0) rfl (fun M3 _ => ?_)
  refine zx_aload_n (i := 0) (zd me_X7_copyFrom 12 rfl) rfl 0 rfl ?_
  refine zx_aload_n (i := 1) (zd me_X7_copyFrom 13 rfl) rfl 1 rfl ?_
  refine zx_getI (zd me_X7_copyFrom 14 rfl) fl_X7_45 (zi7_c h1) rfl ?_
  refine zx_putI (zd me_X7_copyFrom 15 rfl) fp_X7_45 (zi7_c h0) rfl (fun M4 _ => ?_)
  refine zx_aload_n (i := 0) (zd me_X7_copyFrom 16 rfl) rfl 0 rfl ?_
  refine zx_aload_n (i := 1) (zd me_X7_copyFrom 17 rfl) rfl 1 rfl ?_
  refine zx_getI (zd me_X7_copyFrom 18 rfl) fl_X7_48 (zi7_c h1) rfl ?_
  refine zx_putI (zd me_X7_copyFrom 19 rfl) fp_X7_48 (zi7_c h0) rfl (fun M5 _ => ?_)
  refine zx_aload_n (i := 0) (zd me_X7_copyFrom 20 rfl) rfl 0 rfl ?_
  refine zx_aload_n (i := 1) (zd me_X7_copyFrom 21 rfl) rfl 1 rfl ?_
  refine zx_getI (zd me_X7_copyFrom 22 rfl) fl_X7_11 (zi7_c h1) rfl ?_
  refine zx_putI (zd me_X7_copyFrom 23 rfl) fp_X7_11 (zi7_c h0) rfl (fun M6 _ => ?_)
  refine zx_aload_n (i := 1) (zd me_X7_copyFrom 24 rfl) rfl 1 rfl ?_
  refine zx_getR (zd me_X7_copyFrom 25 rfl) fl_X7_15 (zi7_c h1) rfl (zi7_r6 h1) ?_
  refine zx_iconst (v := 0) (zd me_X7_copyFrom 26 rfl) (by decide) ?_
  refine zx_aload_n (i := 0) (zd me_X7_copyFrom 27 rfl) rfl 0 rfl ?_
  refine zx_getR (zd me_X7_copyFrom 28 rfl) fl_X7_15 (zi7_c h0) rfl (zi7_r6 h0) ?_
  refine zx_iconst (v := 0) (zd me_X7_copyFrom 29 rfl) (by decide) ?_
  refine zx_bipush (v := 6) (zd me_X7_copyFrom 30 rfl) (by decide) ?_
  refine zx_copyI (zd me_X7_copyFrom 31 rfl) lk_X7_51 ⟨(Nat.le_of_ble_eq_true rfl), (Nat.le_of_ble_eq_true rfl)⟩ (zi7_t6 h1) (zi7_t6 h0) ⟨by decide, by decide, by decide, by decide, by decide⟩ (fun M7 => ?_)
  refine zx_aload_n (i := 1) (zd me_X7_copyFrom 32 rfl) rfl 1 rfl ?_
  refine zx_getR (zd me_X7_copyFrom 33 rfl) fl_X7_19 (zi7_c h1) rfl (zi7_r7 h1) ?_
  refine zx_iconst (v := 0) (zd me_X7_copyFrom 34 rfl) (by decide) ?_
  refine zx_aload_n (i := 0) (zd me_X7_copyFrom 35 rfl) rfl 0 rfl ?_
  refine zx_getR (zd me_X7_copyFrom 36 rfl) fl_X7_19 (zi7_c h0) rfl (zi7_r7 h0) ?_
  refine zx_iconst (v := 0) (zd me_X7_copyFrom 37 rfl) (by decide) ?_
  refine zx_bipush (v := 6) (zd me_X7_copyFrom 38 rfl) (by decide) ?_
  refine zx_copyI (zd me_X7_copyFrom 39 rfl) lk_X7_51 ⟨(Nat.le_of_ble_eq_true rfl), (Nat.le_of_ble_eq_true rfl)⟩ (zi7_t7 h1) (zi7_t7 h0) ⟨by decide, by decide, by decide, by decide, by decide⟩ (fun M8 => ?_)
  refine zx_aload_n (i := 1) (zd me_X7_copyFrom 40 rfl) rfl 1 rfl ?_
  refine zx_getR (zd me_X7_copyFrom 41 rfl) fl_X7_22 (zi7_c h1) rfl (zi7_r8 h1) ?_
  refine zx_iconst (v := 0) (zd me_X7_copyFrom 42 rfl) (by decide) ?_
  refine zx_aload_n (i := 0) (zd me_X7_copyFrom 43 rfl) rfl 0 rfl ?_
  refine zx_getR (zd me_X7_copyFrom 44 rfl) fl_X7_22 (zi7_c h0) rfl (zi7_r8 h0) ?_
  refine zx_iconst (v := 0) (zd me_X7_copyFrom 45 rfl) (by decide) ?_
  refine zx_bipush (v := 8) (zd me_X7_copyFrom 46 rfl) (by decide) ?_
  refine zx_copyI (zd me_X7_copyFrom 47 rfl) lk_X7_51 ⟨(Nat.le_of_ble_eq_true rfl), (Nat.le_of_ble_eq_true rfl)⟩ (zi7_t8 h1) (zi7_t8 h0) ⟨by decide, by decide, by decide, by decide, by decide⟩ (fun M9 => ?_)
  refine zx_aload_n (i := 1) (zd me_X7_copyFrom 48 rfl) rfl 1 rfl ?_
  refine zx_getR (zd me_X7_copyFrom 49 rfl) fl_X7_25 (zi7_c h1) rfl (zi7_r9 h1) ?_
  refine zx_iconst (v := 0) (zd me_X7_copyFrom 50 rfl) (by decide) ?_
  refine zx_aload_n (i := 0) (zd me_X7_copyFrom 51 rfl) rfl 0 rfl ?_
  refine zx_getR (zd me_X7_copyFrom 52 rfl) fl_X7_25 (zi7_c h0) rfl (zi7_r9 h0) ?_
  refine zx_iconst (v := 0) (zd me_X7_copyFrom 53 rfl) (by decide) ?_
  refine zx_bipush (v := 19) (zd me_X7_copyFrom 54 rfl) (by decide) ?_
  refine zx_copyL (zd me_X7_copyFrom 55 rfl) lk_X7_51 ⟨(Nat.le_of_ble_eq_true rfl), (Nat.le_of_ble_eq_true rfl)⟩ (zi7_t9 h1) (zi7_t9 h0) ⟨by decide, by decide, by decide, by decide, by decide⟩ (fun M10 => ?_)
  refine zx_aload_n (i := 1) (zd me_X7_copyFrom 56 rfl) rfl 1 rfl ?_
  refine zx_getR (zd me_X7_copyFrom 57 rfl) fl_X7_29 (zi7_c h1) rfl (zi7_r10 h1) ?_
  refine zx_iconst (v := 0) (zd me_X7_copyFrom 58 rfl) (by decide) ?_
  refine zx_aload_n (i := 0) (zd me_X7_copyFrom 59 rfl) rfl 0 rfl ?_
  refine zx_getR (zd me_X7_copyFrom 60 rfl) fl_X7_29 (zi7_c h0) rfl (zi7_r10 h0) ?_
  refine zx_iconst (v := 0) (zd me_X7_copyFrom 61 rfl) (by decide) ?_
  refine zx_bipush (v := 30) (zd me_X7_copyFrom 62 rfl) (by decide) ?_
  refine zx_copyI (zd me_X7_copyFrom 63 rfl) lk_X7_51 ⟨(Nat.le_of_ble_eq_true rfl), (Nat.le_of_ble_eq_true rfl)⟩ (zi7_t10 h1) (zi7_t10 h0) ⟨by decide, by decide, by decide, by decide, by decide⟩ (fun M11 => ?_)
  exact zx_vret (zd me_X7_copyFrom 64 rfl) rfl
def mf_X7_hasPaper (R : zRR) (a0 : Nat) (i1 : Int32) (M : zMem) : Option (Int32 × zMem) :=
  if i1 < 0 then
    (some ((0 : Int32), M))
  else
    (if (M.1 a0 1) ≤ i1 then
      (some ((0 : Int32), M))
    else
      (some ((1 : Int32), M)))
theorem mc_X7_hasPaper (l : Launch) {T : zTT} {R : zRR} {a0 : Nat} (h0 : zi7 T R a0) (i1 : Int32) (M : zMem) : zMS l yX7_hasPaper mi_X7_hasPaper zrvI (mf_X7_hasPaper R a0 i1 M) [.ref a0, .int i1] T R M := by
  refine zMS.of (by decide +kernel) rfl ⟨rfl, rfl⟩ (Nat.le_of_ble_eq_true rfl) (fun C ad _ => ?_)
  show zX C mi_X7_hasPaper (zFin C zrvI ad T R) 0 0 (mf_X7_hasPaper R a0 i1 M) 0 [(0, .ref a0), (1, .int i1)] [] ad T R M
  unfold mf_X7_hasPaper
  refine zx_iload_n (i := 1) (zd me_X7_hasPaper 0 rfl) rfl 1 rfl ?_
  refine zx_if_lt (tgt := 16) (zd me_X7_hasPaper 1 rfl) (by decide) (fun c1 => ?_) (fun c1 => ?_)
  · refine zx_iconst (v := 0) (zd me_X7_hasPaper 8 rfl) (by decide) ?_
    exact zx_zret (zd me_X7_hasPaper 9 rfl) rfl rfl
  · refine zx_iload_n (i := 1) (zd me_X7_hasPaper 2 rfl) rfl 1 rfl ?_
    refine zx_aload_n (i := 0) (zd me_X7_hasPaper 3 rfl) rfl 0 rfl ?_
    refine zx_getI (zd me_X7_hasPaper 4 rfl) fl_X7_35 (zi7_c h0) rfl ?_
    refine zx_icmp_ge (tgt := 16) (zd me_X7_hasPaper 5 rfl) (by decide) (fun c2 => ?_) (fun c2 => ?_)
    · refine zx_iconst (v := 0) (zd me_X7_hasPaper 8 rfl) (by decide) ?_
      exact zx_zret (zd me_X7_hasPaper 9 rfl) rfl rfl
    · refine zx_iconst (v := 1) (zd me_X7_hasPaper 6 rfl) (by decide) ?_
      refine zx_goto (tgt := 17) (zd me_X7_hasPaper 7 rfl) (by decide) ?_
      exact zx_zret (zd me_X7_hasPaper 9 rfl) rfl rfl
def mf_X11_swap (R : zRR) (a0 n0 : Nat) (i1 : Int32) (i2 : Int32) (M : zMem) : Option (Unit × zMem) :=
  zald n0 i1 fun j1 =>
  zlet ((M.1 a0 j1) : Int32) fun x2 =>
  zald n0 i2 fun j3 =>
  zald n0 i1 fun j4 =>
  zlet (zwI M a0 j4 (M.1 a0 j3)) fun M5 =>
  zald n0 i2 fun j6 =>
  zlet (zwI M5 a0 j6 x2) fun M7 =>
  some ((), M7)
theorem mc_X11_swap (l : Launch) {T : zTT} {R : zRR} {a0 n0 : Nat} (h0 : T[a0]? = some (1, n0)) (i1 : Int32) (i2 : Int32) (M : zMem) : zMS l yX11_swap mi_X11_swap zrvV (mf_X11_swap R a0 n0 i1 i2 M) [.ref a0, .int i1, .int i2] T R M := by
  refine zMS.of (by decide +kernel) rfl ⟨rfl, rfl⟩ (Nat.le_of_ble_eq_true rfl) (fun C ad _ => ?_)
  show zX C mi_X11_swap (zFin C zrvV ad T R) 0 0 (mf_X11_swap R a0 n0 i1 i2 M) 0 [(0, .ref a0), (1, .int i1), (2, .int i2)] [] ad T R M
  unfold mf_X11_swap
  refine zx_aload_n (i := 0) (zd me_X11_swap 0 rfl) rfl 0 rfl ?_
  refine zx_iload_n (i := 1) (zd me_X11_swap 1 rfl) rfl 1 rfl ?_
  refine zx_iald (zd me_X11_swap 2 rfl) h0 (fun j1 hj1 => ?_)
  refine zx_leti (fun x2 => ?_)
  refine zx_istore_n (i := 3) (ls' := [(3, .int x2), (0, .ref a0), (1, .int i1), (2, .int i2)]) (zd me_X11_swap 3 rfl) rfl (Nat.le_of_ble_eq_true rfl) rfl ?_
  refine zx_aload_n (i := 0) (zd me_X11_swap 4 rfl) rfl 1 rfl ?_
  refine zx_iload_n (i := 1) (zd me_X11_swap 5 rfl) rfl 2 rfl ?_
  refine zx_aload_n (i := 0) (zd me_X11_swap 6 rfl) rfl 1 rfl ?_
  refine zx_iload_n (i := 2) (zd me_X11_swap 7 rfl) rfl 3 rfl ?_
  refine zx_iald (zd me_X11_swap 8 rfl) h0 (fun j3 hj3 => ?_)
  refine zx_iast (zd me_X11_swap 9 rfl) h0 (fun M5 => ?_)
  refine zx_aload_n (i := 0) (zd me_X11_swap 10 rfl) rfl 1 rfl ?_
  refine zx_iload_n (i := 2) (zd me_X11_swap 11 rfl) rfl 3 rfl ?_
  refine zx_iload_n (i := 3) (zd me_X11_swap 12 rfl) rfl 0 rfl ?_
  refine zx_iast (zd me_X11_swap 13 rfl) h0 (fun M7 => ?_)
  exact zx_vret (zd me_X11_swap 14 rfl) rfl
def mf_X11_makeNextRow_l71 (R : zRR) (a0 n0 : Nat) : Nat → Int32 → Int32 → zMem → Option (Int32 × zMem)
  | 0, _, _, _ => none
  | fuel + 1, i4, i5, M =>
    if i4 ≤ i5 then
      (some ((1 : Int32), M))
    else
      (zcl (mf_X11_swap R a0 n0 i5 i4 M) fun _ M17 =>
      mf_X11_makeNextRow_l71 R a0 n0 fuel (i4 + (-1)) (i5 + 1) M17)
theorem mt_X11_makeNextRow_l71 {C : zCx} {ad : Nat → Nat} {T : zTT} {R : zRR} {a0 n0 : Nat} (h0 : T[a0]? = some (1, n0)) : ∀ (fuel : Nat) (i4 : Int32) (i5 : Int32) (M : zMem), zX C mi_X11_makeNextRow (zFin C zrvI ad T R) 0 0 (mf_X11_makeNextRow_l71 R a0 n0 fuel i4 i5 M) 71 [(0, .ref a0), (4, .int i4), (5, .int i5)] [] ad T R M := by
  intro fuel
  induction fuel with
  | zero => intros; exact zx_none
  | succ fuel ih =>
    intro i4 i5 M
    rw [mf_X11_makeNextRow_l71]
    refine zx_iload (zd me_X11_makeNextRow 49 rfl) 2 rfl ?_
    refine zx_iload (zd me_X11_makeNextRow 50 rfl) 1 rfl ?_
    refine zx_icmp_ge (tgt := 95) (zd me_X11_makeNextRow 51 rfl) (by decide) (fun c16 => ?_) (fun c16 => ?_)
    · refine zx_iconst (v := 1) (zd me_X11_makeNextRow 59 rfl) (by decide) ?_
      exact zx_zret (zd me_X11_makeNextRow 60 rfl) rfl rfl
    · refine zx_aload_n (i := 0) (zd me_X11_makeNextRow 52 rfl) rfl 0 rfl ?_
      refine zx_iload (zd me_X11_makeNextRow 53 rfl) 2 rfl ?_
      refine zx_iload (zd me_X11_makeNextRow 54 rfl) 1 rfl ?_
      refine zx_callSV3 (zd me_X11_makeNextRow 55 rfl) (mc_X11_swap (zl C) h0 i5 i4 M) lk_X11_379 ⟨(Nat.le_of_ble_eq_true rfl), (Nat.le_of_ble_eq_true rfl)⟩ (Nat.le_of_ble_eq_true rfl) (fun r18 M17 => ?_)
      refine zx_iinc (v := (-1)) (ls' := [(4, .int (i4 + (-1))), (0, .ref a0), (5, .int i5)]) (zd me_X11_makeNextRow 56 rfl) (Nat.le_of_ble_eq_true rfl) 1 rfl (by decide) rfl ?_
      refine zx_iinc (v := 1) (ls' := [(5, .int (i5 + 1)), (4, .int (i4 + (-1))), (0, .ref a0)]) (zd me_X11_makeNextRow 57 rfl) (Nat.le_of_ble_eq_true rfl) 2 rfl (by decide) rfl ?_
      refine zx_goto (tgt := 71) (zd me_X11_makeNextRow 58 rfl) (by decide) ?_
      refine zx_loc [2, 1, 0] rfl ?_
      exact ih (i4 + (-1)) (i5 + 1) M17
def mf_X11_makeNextRow_b55 (R : zRR) (a0 n0 : Nat) (i1 : Int32) (i2 : Int32) (i3 : Int32) (M : zMem) : Option (Int32 × zMem) :=
  zcl (mf_X11_swap R a0 n0 i2 i3 M) fun _ M12 =>
  zlet ((i1 - (1 : Int32)) : Int32) fun x14 =>
  zlet ((i2 + (1 : Int32)) : Int32) fun x15 =>
  mf_X11_makeNextRow_l71 R a0 n0 zF x14 x15 M12
theorem mt_X11_makeNextRow_b55 {C : zCx} {ad : Nat → Nat} {T : zTT} {R : zRR} {a0 n0 : Nat} (h0 : T[a0]? = some (1, n0)) (i1 : Int32) (i2 : Int32) (i3 : Int32) (M : zMem) : zX C mi_X11_makeNextRow (zFin C zrvI ad T R) 0 0 (mf_X11_makeNextRow_b55 R a0 n0 i1 i2 i3 M) 55 [(0, .ref a0), (1, .int i1), (2, .int i2), (3, .int i3)] [] ad T R M := by
  unfold mf_X11_makeNextRow_b55
  refine zx_aload_n (i := 0) (zd me_X11_makeNextRow 37 rfl) rfl 0 rfl ?_
  refine zx_iload_n (i := 2) (zd me_X11_makeNextRow 38 rfl) rfl 2 rfl ?_
  refine zx_iload_n (i := 3) (zd me_X11_makeNextRow 39 rfl) rfl 3 rfl ?_
  refine zx_callSV3 (zd me_X11_makeNextRow 40 rfl) (mc_X11_swap (zl C) h0 i2 i3 M) lk_X11_379 ⟨(Nat.le_of_ble_eq_true rfl), (Nat.le_of_ble_eq_true rfl)⟩ (Nat.le_of_ble_eq_true rfl) (fun r13 M12 => ?_)
  refine zx_iload_n (i := 1) (zd me_X11_makeNextRow 41 rfl) rfl 1 rfl ?_
  refine zx_iconst (v := 1) (zd me_X11_makeNextRow 42 rfl) (by decide) ?_
  refine zx_isub (zd me_X11_makeNextRow 43 rfl) ?_
  refine zx_leti (fun x14 => ?_)
  refine zx_istore (ls' := [(4, .int x14), (0, .ref a0), (1, .int i1), (2, .int i2), (3, .int i3)]) (zd me_X11_makeNextRow 44 rfl) (Nat.le_of_ble_eq_true rfl) rfl ?_
  refine zx_iload_n (i := 2) (zd me_X11_makeNextRow 45 rfl) rfl 3 rfl ?_
  refine zx_iconst (v := 1) (zd me_X11_makeNextRow 46 rfl) (by decide) ?_
  refine zx_iadd (zd me_X11_makeNextRow 47 rfl) ?_
  refine zx_leti (fun x15 => ?_)
  refine zx_istore (ls' := [(5, .int x15), (4, .int x14), (0, .ref a0), (1, .int i1), (2, .int i2), (3, .int i3)]) (zd me_X11_makeNextRow 48 rfl) (Nat.le_of_ble_eq_true rfl) rfl ?_
  refine zx_loc [2, 1, 0] rfl ?_
  exact mt_X11_makeNextRow_l71 h0 zF x14 x15 M12
def mf_X11_makeNextRow_l35 (R : zRR) (a0 n0 : Nat) : Nat → Int32 → Int32 → Int32 → zMem → Option (Int32 × zMem)
  | 0, _, _, _, _ => none
  | fuel + 1, i1, i2, i3, M =>
    if i3 ≤ i2 then
      (mf_X11_makeNextRow_b55 R a0 n0 i1 i2 i3 M)
    else
      (zald n0 i3 fun j9 =>
      zald n0 i2 fun j10 =>
      if (M.1 a0 j10) < (M.1 a0 j9) then
        (mf_X11_makeNextRow_b55 R a0 n0 i1 i2 i3 M)
      else
        (mf_X11_makeNextRow_l35 R a0 n0 fuel i1 i2 (i3 + (-1)) M))
theorem mt_X11_makeNextRow_l35 {C : zCx} {ad : Nat → Nat} {T : zTT} {R : zRR} {a0 n0 : Nat} (h0 : T[a0]? = some (1, n0)) : ∀ (fuel : Nat) (i1 : Int32) (i2 : Int32) (i3 : Int32) (M : zMem), zX C mi_X11_makeNextRow (zFin C zrvI ad T R) 0 0 (mf_X11_makeNextRow_l35 R a0 n0 fuel i1 i2 i3 M) 35 [(0, .ref a0), (1, .int i1), (2, .int i2), (3, .int i3)] [] ad T R M := by
  intro fuel
  induction fuel with
  | zero => intros; exact zx_none
  | succ fuel ih =>
    intro i1 i2 i3 M
    rw [mf_X11_makeNextRow_l35]
    refine zx_iload_n (i := 3) (zd me_X11_makeNextRow 25 rfl) rfl 3 rfl ?_
    refine zx_iload_n (i := 2) (zd me_X11_makeNextRow 26 rfl) rfl 2 rfl ?_
    refine zx_icmp_le (tgt := 55) (zd me_X11_makeNextRow 27 rfl) (by decide) (fun c8 => ?_) (fun c8 => ?_)
    · exact mt_X11_makeNextRow_b55 h0 i1 i2 i3 M
    · refine zx_aload_n (i := 0) (zd me_X11_makeNextRow 28 rfl) rfl 0 rfl ?_
      refine zx_iload_n (i := 3) (zd me_X11_makeNextRow 29 rfl) rfl 3 rfl ?_
      refine zx_iald (zd me_X11_makeNextRow 30 rfl) h0 (fun j9 hj9 => ?_)
      refine zx_aload_n (i := 0) (zd me_X11_makeNextRow 31 rfl) rfl 0 rfl ?_
      refine zx_iload_n (i := 2) (zd me_X11_makeNextRow 32 rfl) rfl 2 rfl ?_
      refine zx_iald (zd me_X11_makeNextRow 33 rfl) h0 (fun j10 hj10 => ?_)
      refine zx_icmp_gt (tgt := 55) (zd me_X11_makeNextRow 34 rfl) (by decide) (fun c11 => ?_) (fun c11 => ?_)
      · exact mt_X11_makeNextRow_b55 h0 i1 i2 i3 M
      · refine zx_iinc (v := (-1)) (ls' := [(3, .int (i3 + (-1))), (0, .ref a0), (1, .int i1), (2, .int i2)]) (zd me_X11_makeNextRow 35 rfl) (Nat.le_of_ble_eq_true rfl) 3 rfl (by decide) rfl ?_
        refine zx_goto (tgt := 35) (zd me_X11_makeNextRow 36 rfl) (by decide) ?_
        refine zx_loc [1, 2, 3, 0] rfl ?_
        exact ih i1 i2 (i3 + (-1)) M
def mf_X11_makeNextRow_b25 (R : zRR) (a0 n0 : Nat) (i1 : Int32) (i2 : Int32) (M : zMem) : Option (Int32 × zMem) :=
  if 0 ≤ i2 then
    (zlet ((i1 - (1 : Int32)) : Int32) fun x7 =>
    mf_X11_makeNextRow_l35 R a0 n0 zF i1 i2 x7 M)
  else
    (some ((0 : Int32), M))
theorem mt_X11_makeNextRow_b25 {C : zCx} {ad : Nat → Nat} {T : zTT} {R : zRR} {a0 n0 : Nat} (h0 : T[a0]? = some (1, n0)) (i1 : Int32) (i2 : Int32) (M : zMem) : zX C mi_X11_makeNextRow (zFin C zrvI ad T R) 0 0 (mf_X11_makeNextRow_b25 R a0 n0 i1 i2 M) 25 [(0, .ref a0), (1, .int i1), (2, .int i2)] [] ad T R M := by
  unfold mf_X11_makeNextRow_b25
  refine zx_iload_n (i := 2) (zd me_X11_makeNextRow 17 rfl) rfl 2 rfl ?_
  refine zx_if_ge (tgt := 31) (zd me_X11_makeNextRow 18 rfl) (by decide) (fun c6 => ?_) (fun c6 => ?_)
  · refine zx_iload_n (i := 1) (zd me_X11_makeNextRow 21 rfl) rfl 1 rfl ?_
    refine zx_iconst (v := 1) (zd me_X11_makeNextRow 22 rfl) (by decide) ?_
    refine zx_isub (zd me_X11_makeNextRow 23 rfl) ?_
    refine zx_leti (fun x7 => ?_)
    refine zx_istore_n (i := 3) (ls' := [(3, .int x7), (0, .ref a0), (1, .int i1), (2, .int i2)]) (zd me_X11_makeNextRow 24 rfl) rfl (Nat.le_of_ble_eq_true rfl) rfl ?_
    refine zx_loc [1, 2, 3, 0] rfl ?_
    exact mt_X11_makeNextRow_l35 h0 zF i1 i2 x7 M
  · refine zx_iconst (v := 0) (zd me_X11_makeNextRow 19 rfl) (by decide) ?_
    exact zx_zret (zd me_X11_makeNextRow 20 rfl) rfl rfl
def mf_X11_makeNextRow_l4 (R : zRR) (a0 n0 : Nat) : Nat → Int32 → Int32 → zMem → Option (Int32 × zMem)
  | 0, _, _, _ => none
  | fuel + 1, i1, i2, M =>
    if i2 < 0 then
      (mf_X11_makeNextRow_b25 R a0 n0 i1 i2 M)
    else
      (zald n0 i2 fun j3 =>
      zald n0 (i2 + (1 : Int32)) fun j4 =>
      if (M.1 a0 j3) < (M.1 a0 j4) then
        (mf_X11_makeNextRow_b25 R a0 n0 i1 i2 M)
      else
        (mf_X11_makeNextRow_l4 R a0 n0 fuel i1 (i2 + (-1)) M))
theorem mt_X11_makeNextRow_l4 {C : zCx} {ad : Nat → Nat} {T : zTT} {R : zRR} {a0 n0 : Nat} (h0 : T[a0]? = some (1, n0)) : ∀ (fuel : Nat) (i1 : Int32) (i2 : Int32) (M : zMem), zX C mi_X11_makeNextRow (zFin C zrvI ad T R) 0 0 (mf_X11_makeNextRow_l4 R a0 n0 fuel i1 i2 M) 4 [(0, .ref a0), (1, .int i1), (2, .int i2)] [] ad T R M := by
  intro fuel
  induction fuel with
  | zero => intros; exact zx_none
  | succ fuel ih =>
    intro i1 i2 M
    rw [mf_X11_makeNextRow_l4]
    refine zx_iload_n (i := 2) (zd me_X11_makeNextRow 4 rfl) rfl 2 rfl ?_
    refine zx_if_lt (tgt := 25) (zd me_X11_makeNextRow 5 rfl) (by decide) (fun c2 => ?_) (fun c2 => ?_)
    · exact mt_X11_makeNextRow_b25 h0 i1 i2 M
    · refine zx_aload_n (i := 0) (zd me_X11_makeNextRow 6 rfl) rfl 0 rfl ?_
      refine zx_iload_n (i := 2) (zd me_X11_makeNextRow 7 rfl) rfl 2 rfl ?_
      refine zx_iald (zd me_X11_makeNextRow 8 rfl) h0 (fun j3 hj3 => ?_)
      refine zx_aload_n (i := 0) (zd me_X11_makeNextRow 9 rfl) rfl 0 rfl ?_
      refine zx_iload_n (i := 2) (zd me_X11_makeNextRow 10 rfl) rfl 2 rfl ?_
      refine zx_iconst (v := 1) (zd me_X11_makeNextRow 11 rfl) (by decide) ?_
      refine zx_iadd (zd me_X11_makeNextRow 12 rfl) ?_
      refine zx_iald (zd me_X11_makeNextRow 13 rfl) h0 (fun j4 hj4 => ?_)
      refine zx_icmp_lt (tgt := 25) (zd me_X11_makeNextRow 14 rfl) (by decide) (fun c5 => ?_) (fun c5 => ?_)
      · exact mt_X11_makeNextRow_b25 h0 i1 i2 M
      · refine zx_iinc (v := (-1)) (ls' := [(2, .int (i2 + (-1))), (0, .ref a0), (1, .int i1)]) (zd me_X11_makeNextRow 15 rfl) (Nat.le_of_ble_eq_true rfl) 2 rfl (by decide) rfl ?_
        refine zx_goto (tgt := 4) (zd me_X11_makeNextRow 16 rfl) (by decide) ?_
        refine zx_loc [1, 2, 0] rfl ?_
        exact ih i1 (i2 + (-1)) M
def mf_X11_makeNextRow (R : zRR) (a0 n0 : Nat) (i1 : Int32) (M : zMem) : Option (Int32 × zMem) :=
  zlet ((i1 - (2 : Int32)) : Int32) fun x1 =>
  mf_X11_makeNextRow_l4 R a0 n0 zF i1 x1 M
theorem mc_X11_makeNextRow (l : Launch) {T : zTT} {R : zRR} {a0 n0 : Nat} (h0 : T[a0]? = some (1, n0)) (i1 : Int32) (M : zMem) : zMS l yX11_makeNextRow mi_X11_makeNextRow zrvI (mf_X11_makeNextRow R a0 n0 i1 M) [.ref a0, .int i1] T R M := by
  refine zMS.of (by decide +kernel) rfl ⟨rfl, rfl⟩ (Nat.le_of_ble_eq_true rfl) (fun C ad _ => ?_)
  show zX C mi_X11_makeNextRow (zFin C zrvI ad T R) 0 0 (mf_X11_makeNextRow R a0 n0 i1 M) 0 [(0, .ref a0), (1, .int i1)] [] ad T R M
  unfold mf_X11_makeNextRow
  refine zx_iload_n (i := 1) (zd me_X11_makeNextRow 0 rfl) rfl 1 rfl ?_
  refine zx_iconst (v := 2) (zd me_X11_makeNextRow 1 rfl) (by decide) ?_
  refine zx_isub (zd me_X11_makeNextRow 2 rfl) ?_
  refine zx_leti (fun x1 => ?_)
  refine zx_istore_n (i := 2) (ls' := [(2, .int x1), (0, .ref a0), (1, .int i1)]) (zd me_X11_makeNextRow 3 rfl) rfl (Nat.le_of_ble_eq_true rfl) rfl ?_
  refine zx_loc [1, 2, 0] rfl ?_
  exact mt_X11_makeNextRow_l4 h0 zF i1 x1 M
def mf_X7_wipe (R : zRR) (a0 : Nat) (M : zMem) : Option (Unit × zMem) :=
  zlet (zwI M a0 0 (0 : Int32)) fun M1 =>
  zlet (zwI M1 a0 1 (0 : Int32)) fun M2 =>
  zlet (zwI M2 a0 2 (0 : Int32)) fun M3 =>
  zlet (zwI M3 a0 3 (0 : Int32)) fun M4 =>
  zlet (zwI M4 a0 4 (0 : Int32)) fun M5 =>
  zlet (zwI M5 a0 5 (5 : Int32)) fun M6 =>
  zlet (zwI M6 a0 11 (0 : Int32)) fun M7 =>
  some ((), M7)
theorem mc_X7_wipe (l : Launch) {T : zTT} {R : zRR} {a0 : Nat} (h0 : zi7 T R a0) (M : zMem) : zMS l yX7_wipe mi_X7_wipe zrvV (mf_X7_wipe R a0 M) [.ref a0] T R M := by
  refine zMS.of (by decide +kernel) rfl ⟨rfl, rfl⟩ (Nat.le_of_ble_eq_true rfl) (fun C ad _ => ?_)
  show zX C mi_X7_wipe (zFin C zrvV ad T R) 0 0 (mf_X7_wipe R a0 M) 0 [(0, .ref a0)] [] ad T R M
  unfold mf_X7_wipe
  refine zx_aload_n (i := 0) (zd me_X7_wipe 0 rfl) rfl 0 rfl ?_
  refine zx_iconst (v := 0) (zd me_X7_wipe 1 rfl) (by decide) ?_
  refine zx_putI (zd me_X7_wipe 2 rfl) fp_X7_32 (zi7_c h0) rfl (fun M1 _ => ?_)
  refine zx_aload_n (i := 0) (zd me_X7_wipe 3 rfl) rfl 0 rfl ?_
  refine zx_iconst (v := 0) (zd me_X7_wipe 4 rfl) (by decide) ?_
  refine zx_putI (zd me_X7_wipe 5 rfl) fp_X7_35 (zi7_c h0) rfl (fun M2 _ => ?_)
  refine zx_aload_n (i := 0) (zd me_X7_wipe 6 rfl) rfl 0 rfl ?_
  refine zx_iconst (v := 0) (zd me_X7_wipe 7 rfl) (by decide) ?_
  refine zx_putI (zd me_X7_wipe 8 rfl) fp_X7_38 (zi7_c h0) rfl (fun M3 _ => ?_)
  refine zx_aload_n (i := 0) (zd me_X7_wipe 9 rfl) rfl 0 rfl ?_
  refine zx_iconst (v := 0) (zd me_X7_wipe 10 rfl) (by decide) ?_
  refine zx_putI (zd me_X7_wipe 11 rfl) fp_X7_45 (zi7_c h0) rfl (fun M4 _ => ?_)
  refine zx_aload_n (i := 0) (zd me_X7_wipe 12 rfl) rfl 0 rfl ?_
  refine zx_iconst (v := 0) (zd me_X7_wipe 13 rfl) (by decide) ?_
  refine zx_putI (zd me_X7_wipe 14 rfl) fp_X7_48 (zi7_c h0) rfl (fun M5 _ => ?_)
  refine zx_aload_n (i := 0) (zd me_X7_wipe 15 rfl) rfl 0 rfl ?_
  refine zx_iconst (v := 5) (zd me_X7_wipe 16 rfl) (by decide) ?_
  refine zx_putI (zd me_X7_wipe 17 rfl) fp_X7_11 (zi7_c h0) rfl (fun M6 _ => ?_)
  refine zx_aload_n (i := 0) (zd me_X7_wipe 18 rfl) rfl 0 rfl ?_
  refine zx_iconst (v := 0) (zd me_X7_wipe 19 rfl) (by decide) ?_
  refine zx_putI (zd me_X7_wipe 20 rfl) fp_X7_57 (zi7_c h0) rfl (fun M7 _ => ?_)
  exact zx_vret (zd me_X7_wipe 21 rfl) rfl
def mf_X7_passNewName_b63 (R : zRR) (a0 : Nat) (a1 : Nat) (M : zMem) : Option (Int32 × zMem) :=
  zcl (mf_X10_fail R a1 (3 : Int32) M) fun r19 M18 =>
  zchk (r19 = 0 ∨ r19 = 1) (some (r19, M18))
theorem mt_X7_passNewName_b63 {C : zCx} {ad : Nat → Nat} {T : zTT} {R : zRR} {a0 : Nat} {a1 : Nat} (h0 : zi7 T R a0) (h1 : zi10 T R a1) (M : zMem) : zX C mi_X7_passNewName (zFin C zrvI ad T R) 0 0 (mf_X7_passNewName_b63 R a0 a1 M) 63 [(1, .ref a1)] [] ad T R M := by
  unfold mf_X7_passNewName_b63
  refine zx_aload_n (i := 1) (zd me_X7_passNewName 35 rfl) rfl 0 rfl ?_
  refine zx_iconst (v := 3) (zd me_X7_passNewName 36 rfl) (by decide) ?_
  refine zx_callVI1 (zd me_X7_passNewName 37 rfl) (mc_X10_fail (zl C) h1 (3 : Int32) M) lk_X7_95 ⟨(Nat.le_of_ble_eq_true rfl), (Nat.le_of_ble_eq_true rfl)⟩ (Nat.le_of_ble_eq_true rfl) (zi10_c h1) rfl (fun r19 M18 => ?_)
  exact zx_zretC (zd me_X7_passNewName 38 rfl) rfl
def mf_X7_passNewName_b86 (R : zRR) (a0 : Nat) (a1 : Nat) (M : zMem) : Option (Int32 × zMem) :=
  zcl (mf_X10_next R a1 M) fun _ M20 =>
  some ((1 : Int32), M20)
theorem mt_X7_passNewName_b86 {C : zCx} {ad : Nat → Nat} {T : zTT} {R : zRR} {a0 : Nat} {a1 : Nat} (h0 : zi7 T R a0) (h1 : zi10 T R a1) (M : zMem) : zX C mi_X7_passNewName (zFin C zrvI ad T R) 0 0 (mf_X7_passNewName_b86 R a0 a1 M) 86 [(1, .ref a1)] [] ad T R M := by
  unfold mf_X7_passNewName_b86
  refine zx_aload_n (i := 1) (zd me_X7_passNewName 49 rfl) rfl 0 rfl ?_
  refine zx_callVV0 (zd me_X7_passNewName 50 rfl) (mc_X10_next (zl C) h1 M) lk_X7_98 ⟨(Nat.le_of_ble_eq_true rfl), (Nat.le_of_ble_eq_true rfl)⟩ (Nat.le_of_ble_eq_true rfl) (zi10_c h1) rfl (fun r21 M20 => ?_)
  refine zx_iconst (v := 1) (zd me_X7_passNewName 51 rfl) (by decide) ?_
  exact zx_zret (zd me_X7_passNewName 52 rfl) rfl rfl
def mf_X7_passNewName (R : zRR) (a0 : Nat) (a1 : Nat) (i2 : Int32) (M : zMem) : Option (Int32 × zMem) :=
  if (M.1 a1 4) = (1 : Int32) then
    (zlet ((M.2 a1 7) : Int64) fun x2 =>
    zcl (mf_X7_numberOf R a0 x2 (0 : Int32) (M.1 a0 0) M) fun r4 M3 =>
    if r4 = (-1 : Int32) then
      (zcl (mf_X7_numberOf R a0 x2 (6 : Int32) (M3.1 a0 1) M3) fun r7 M6 =>
      if r7 = (-1 : Int32) then
        (zcl (mf_X7_numberOf R a0 x2 (11 : Int32) (M6.1 a0 2) M6) fun r10 M9 =>
        if r10 = (-1 : Int32) then
          (if i2 < 0 then
            (mf_X7_passNewName_b86 R a0 a1 M9)
          else
            (if (19 : Int32) ≤ i2 then
              (mf_X7_passNewName_b86 R a0 a1 M9)
            else
              (zald 19 i2 fun j14 =>
              zlet (zwL M9 (zrf R a0 9) j14 x2) fun M15 =>
              mf_X7_passNewName_b86 R a0 a1 M15)))
        else
          (mf_X7_passNewName_b63 R a0 a1 M9))
      else
        (mf_X7_passNewName_b63 R a0 a1 M6))
    else
      (mf_X7_passNewName_b63 R a0 a1 M3))
  else
    (zcl (mf_X10_fail R a1 (1 : Int32) M) fun r17 M16 =>
    zchk (r17 = 0 ∨ r17 = 1) (some (r17, M16)))
theorem mc_X7_passNewName (l : Launch) {T : zTT} {R : zRR} {a0 : Nat} {a1 : Nat} (h0 : zi7 T R a0) (h1 : zi10 T R a1) (i2 : Int32) (M : zMem) : zMS l yX7_passNewName mi_X7_passNewName zrvI (mf_X7_passNewName R a0 a1 i2 M) [.ref a0, .ref a1, .int i2] T R M := by
  refine zMS.of (by decide +kernel) rfl ⟨rfl, rfl⟩ (Nat.le_of_ble_eq_true rfl) (fun C ad _ => ?_)
  show zX C mi_X7_passNewName (zFin C zrvI ad T R) 0 0 (mf_X7_passNewName R a0 a1 i2 M) 0 [(0, .ref a0), (1, .ref a1), (2, .int i2)] [] ad T R M
  unfold mf_X7_passNewName
  refine zx_aload_n (i := 1) (zd me_X7_passNewName 0 rfl) rfl 1 rfl ?_
  refine zx_getI (zd me_X7_passNewName 1 rfl) fl_X7_113 (zi10_c h1) rfl ?_
  refine zx_iconst (v := 1) (zd me_X7_passNewName 2 rfl) (by decide) ?_
  refine zx_icmp_eq (tgt := 14) (zd me_X7_passNewName 3 rfl) (by decide) (fun c1 => ?_) (fun c1 => ?_)
  · refine zx_aload_n (i := 1) (zd me_X7_passNewName 8 rfl) rfl 1 rfl ?_
    refine zx_getL (zd me_X7_passNewName 9 rfl) fl_X7_116 (zi10_c h1) rfl ?_
    refine zx_letl (fun x2 => ?_)
    refine zx_lstore_n (i := 3) (ls' := [(3, .long x2), (0, .ref a0), (1, .ref a1), (2, .int i2)]) (zd me_X7_passNewName 10 rfl) rfl (Nat.le_of_ble_eq_true rfl) rfl ?_
    refine zx_aload_n (i := 0) (zd me_X7_passNewName 11 rfl) rfl 1 rfl ?_
    refine zx_lload_n (i := 3) (zd me_X7_passNewName 12 rfl) rfl 0 rfl ?_
    refine zx_iconst (v := 0) (zd me_X7_passNewName 13 rfl) (by decide) ?_
    refine zx_aload_n (i := 0) (zd me_X7_passNewName 14 rfl) rfl 1 rfl ?_
    refine zx_getI (zd me_X7_passNewName 15 rfl) fl_X7_32 (zi7_c h0) rfl ?_
    refine zx_callVI3 (zd me_X7_passNewName 16 rfl) (mc_X7_numberOf (zl C) h0 x2 (0 : Int32) (M.1 a0 0) M) lk_X7_120 ⟨(Nat.le_of_ble_eq_true rfl), (Nat.le_of_ble_eq_true rfl)⟩ (Nat.le_of_ble_eq_true rfl) (zi7_c h0) rfl (fun r4 M3 => ?_)
    refine zx_iconst (v := (-1)) (zd me_X7_passNewName 17 rfl) (by decide) ?_
    refine zx_icmp_ne (tgt := 63) (zd me_X7_passNewName 18 rfl) (by decide) (fun c5 => ?_) (fun c5 => ?_)
    · refine zx_loc [2] rfl ?_
      exact mt_X7_passNewName_b63 h0 h1 M3
    · refine zx_aload_n (i := 0) (zd me_X7_passNewName 19 rfl) rfl 1 rfl ?_
      refine zx_lload_n (i := 3) (zd me_X7_passNewName 20 rfl) rfl 0 rfl ?_
      refine zx_bipush (v := 6) (zd me_X7_passNewName 21 rfl) (by decide) ?_
      refine zx_aload_n (i := 0) (zd me_X7_passNewName 22 rfl) rfl 1 rfl ?_
      refine zx_getI (zd me_X7_passNewName 23 rfl) fl_X7_35 (zi7_c h0) rfl ?_
      refine zx_callVI3 (zd me_X7_passNewName 24 rfl) (mc_X7_numberOf (zl C) h0 x2 (6 : Int32) (M3.1 a0 1) M3) lk_X7_120 ⟨(Nat.le_of_ble_eq_true rfl), (Nat.le_of_ble_eq_true rfl)⟩ (Nat.le_of_ble_eq_true rfl) (zi7_c h0) rfl (fun r7 M6 => ?_)
      refine zx_iconst (v := (-1)) (zd me_X7_passNewName 25 rfl) (by decide) ?_
      refine zx_icmp_ne (tgt := 63) (zd me_X7_passNewName 26 rfl) (by decide) (fun c8 => ?_) (fun c8 => ?_)
      · refine zx_loc [2] rfl ?_
        exact mt_X7_passNewName_b63 h0 h1 M6
      · refine zx_aload_n (i := 0) (zd me_X7_passNewName 27 rfl) rfl 1 rfl ?_
        refine zx_lload_n (i := 3) (zd me_X7_passNewName 28 rfl) rfl 0 rfl ?_
        refine zx_bipush (v := 11) (zd me_X7_passNewName 29 rfl) (by decide) ?_
        refine zx_aload_n (i := 0) (zd me_X7_passNewName 30 rfl) rfl 1 rfl ?_
        refine zx_getI (zd me_X7_passNewName 31 rfl) fl_X7_38 (zi7_c h0) rfl ?_
        refine zx_callVI3 (zd me_X7_passNewName 32 rfl) (mc_X7_numberOf (zl C) h0 x2 (11 : Int32) (M6.1 a0 2) M6) lk_X7_120 ⟨(Nat.le_of_ble_eq_true rfl), (Nat.le_of_ble_eq_true rfl)⟩ (Nat.le_of_ble_eq_true rfl) (zi7_c h0) rfl (fun r10 M9 => ?_)
        refine zx_iconst (v := (-1)) (zd me_X7_passNewName 33 rfl) (by decide) ?_
        refine zx_icmp_eq (tgt := 69) (zd me_X7_passNewName 34 rfl) (by decide) (fun c11 => ?_) (fun c11 => ?_)
        · refine zx_iload_n (i := 2) (zd me_X7_passNewName 39 rfl) rfl 3 rfl ?_
          refine zx_if_lt (tgt := 86) (zd me_X7_passNewName 40 rfl) (by decide) (fun c12 => ?_) (fun c12 => ?_)
          · refine zx_loc [2] rfl ?_
            exact mt_X7_passNewName_b86 h0 h1 M9
          · refine zx_iload_n (i := 2) (zd me_X7_passNewName 41 rfl) rfl 3 rfl ?_
            refine zx_bipush (v := 19) (zd me_X7_passNewName 42 rfl) (by decide) ?_
            refine zx_icmp_ge (tgt := 86) (zd me_X7_passNewName 43 rfl) (by decide) (fun c13 => ?_) (fun c13 => ?_)
            · refine zx_loc [2] rfl ?_
              exact mt_X7_passNewName_b86 h0 h1 M9
            · refine zx_aload_n (i := 0) (zd me_X7_passNewName 44 rfl) rfl 1 rfl ?_
              refine zx_getR (zd me_X7_passNewName 45 rfl) fl_X7_25 (zi7_c h0) rfl (zi7_r9 h0) ?_
              refine zx_iload_n (i := 2) (zd me_X7_passNewName 46 rfl) rfl 3 rfl ?_
              refine zx_lload_n (i := 3) (zd me_X7_passNewName 47 rfl) rfl 0 rfl ?_
              refine zx_last (zd me_X7_passNewName 48 rfl) (zi7_t9 h0) (fun M15 => ?_)
              refine zx_loc [2] rfl ?_
              exact mt_X7_passNewName_b86 h0 h1 M15
        · refine zx_loc [2] rfl ?_
          exact mt_X7_passNewName_b63 h0 h1 M9
  · refine zx_aload_n (i := 1) (zd me_X7_passNewName 4 rfl) rfl 1 rfl ?_
    refine zx_iconst (v := 1) (zd me_X7_passNewName 5 rfl) (by decide) ?_
    refine zx_callVI1 (zd me_X7_passNewName 6 rfl) (mc_X10_fail (zl C) h1 (1 : Int32) M) lk_X7_95 ⟨(Nat.le_of_ble_eq_true rfl), (Nat.le_of_ble_eq_true rfl)⟩ (Nat.le_of_ble_eq_true rfl) (zi10_c h1) rfl (fun r17 M16 => ?_)
    exact zx_zretC (zd me_X7_passNewName 7 rfl) rfl
def mf_X7_readBath_b71 (R : zRR) (a0 : Nat) (a1 : Nat) (i2 : Int32) (s0 : Int32) (M : zMem) : Option (Int32 × zMem) :=
  if s0 = (-1 : Int32) then
    (some ((0 : Int32), M))
  else
    (zald 6 (M.1 a0 0) fun j18 =>
    zlet (zwI M (zrf R a0 6) j18 i2) fun M19 =>
    zald 6 (M19.1 a0 0) fun j20 =>
    zlet (zwI M19 (zrf R a0 7) j20 s0) fun M21 =>
    zlet (zwI M21 a0 0 ((M21.1 a0 0) + (1 : Int32))) fun M22 =>
    some ((1 : Int32), M22))
theorem mt_X7_readBath_b71 {C : zCx} {ad : Nat → Nat} {T : zTT} {R : zRR} {a0 : Nat} {a1 : Nat} (h0 : zi7 T R a0) (h1 : zi10 T R a1) (i2 : Int32) (s0 : Int32) (M : zMem) : zX C mi_X7_readBath (zFin C zrvI ad T R) 0 0 (mf_X7_readBath_b71 R a0 a1 i2 s0 M) 71 [(0, .ref a0), (2, .int i2)] [.int s0] ad T R M := by
  unfold mf_X7_readBath_b71
  refine zx_istore_n (i := 3) (ls' := [(3, .int s0), (0, .ref a0), (2, .int i2)]) (zd me_X7_readBath 41 rfl) rfl (Nat.le_of_ble_eq_true rfl) rfl ?_
  refine zx_iload_n (i := 3) (zd me_X7_readBath 42 rfl) rfl 0 rfl ?_
  refine zx_iconst (v := (-1)) (zd me_X7_readBath 43 rfl) (by decide) ?_
  refine zx_icmp_ne (tgt := 79) (zd me_X7_readBath 44 rfl) (by decide) (fun c17 => ?_) (fun c17 => ?_)
  · refine zx_aload_n (i := 0) (zd me_X7_readBath 47 rfl) rfl 1 rfl ?_
    refine zx_getR (zd me_X7_readBath 48 rfl) fl_X7_15 (zi7_c h0) rfl (zi7_r6 h0) ?_
    refine zx_aload_n (i := 0) (zd me_X7_readBath 49 rfl) rfl 1 rfl ?_
    refine zx_getI (zd me_X7_readBath 50 rfl) fl_X7_32 (zi7_c h0) rfl ?_
    refine zx_iload_n (i := 2) (zd me_X7_readBath 51 rfl) rfl 2 rfl ?_
    refine zx_iast (zd me_X7_readBath 52 rfl) (zi7_t6 h0) (fun M19 => ?_)
    refine zx_aload_n (i := 0) (zd me_X7_readBath 53 rfl) rfl 1 rfl ?_
    refine zx_getR (zd me_X7_readBath 54 rfl) fl_X7_19 (zi7_c h0) rfl (zi7_r7 h0) ?_
    refine zx_aload_n (i := 0) (zd me_X7_readBath 55 rfl) rfl 1 rfl ?_
    refine zx_getI (zd me_X7_readBath 56 rfl) fl_X7_32 (zi7_c h0) rfl ?_
    refine zx_iload_n (i := 3) (zd me_X7_readBath 57 rfl) rfl 0 rfl ?_
    refine zx_iast (zd me_X7_readBath 58 rfl) (zi7_t7 h0) (fun M21 => ?_)
    refine zx_aload_n (i := 0) (zd me_X7_readBath 59 rfl) rfl 1 rfl ?_
    refine zx_dup (zd me_X7_readBath 60 rfl) rfl ?_
    refine zx_getI (zd me_X7_readBath 61 rfl) fl_X7_32 (zi7_c h0) rfl ?_
    refine zx_iconst (v := 1) (zd me_X7_readBath 62 rfl) (by decide) ?_
    refine zx_iadd (zd me_X7_readBath 63 rfl) ?_
    refine zx_putI (zd me_X7_readBath 64 rfl) fp_X7_32 (zi7_c h0) rfl (fun M22 _ => ?_)
    refine zx_iconst (v := 1) (zd me_X7_readBath 65 rfl) (by decide) ?_
    exact zx_zret (zd me_X7_readBath 66 rfl) rfl rfl
  · refine zx_iconst (v := 0) (zd me_X7_readBath 45 rfl) (by decide) ?_
    exact zx_zret (zd me_X7_readBath 46 rfl) rfl rfl
def mf_X7_readBath (R : zRR) (a0 : Nat) (a1 : Nat) (M : zMem) : Option (Int32 × zMem) :=
  if (M.1 a0 1) ≤ 0 then
    (if (M.1 a0 0) < (6 : Int32) then
      (zcl (mf_X10_next R a1 M) fun _ M3 =>
      zcl (mf_X7_passNewName R a0 a1 ((0 : Int32) + (M3.1 a0 0)) M3) fun r6 M5 =>
      if r6 = 0 then
        (some ((0 : Int32), M5))
      else
        (zcl (mf_X10_passNumber R a1 (1 : Int32) (4 : Int32) M5) fun r9 M8 =>
        if r9 = (-1 : Int32) then
          (mf_X7_readBath_b71 R a0 a1 r9 (-1 : Int32) M8)
        else
          (zcl (mf_X10_passNumber R a1 (1 : Int32) (99 : Int32) M8) fun r12 M11 =>
          mf_X7_readBath_b71 R a0 a1 r9 r12 M11)))
    else
      (zcl (mf_X10_fail R a1 (4 : Int32) M) fun r14 M13 =>
      zchk (r14 = 0 ∨ r14 = 1) (some (r14, M13))))
  else
    (zcl (mf_X10_fail R a1 (3 : Int32) M) fun r16 M15 =>
    zchk (r16 = 0 ∨ r16 = 1) (some (r16, M15)))
theorem mc_X7_readBath (l : Launch) {T : zTT} {R : zRR} {a0 : Nat} {a1 : Nat} (h0 : zi7 T R a0) (h1 : zi10 T R a1) (M : zMem) : zMS l yX7_readBath mi_X7_readBath zrvI (mf_X7_readBath R a0 a1 M) [.ref a0, .ref a1] T R M := by
  refine zMS.of (by decide +kernel) rfl ⟨rfl, rfl⟩ (Nat.le_of_ble_eq_true rfl) (fun C ad _ => ?_)
  show zX C mi_X7_readBath (zFin C zrvI ad T R) 0 0 (mf_X7_readBath R a0 a1 M) 0 [(0, .ref a0), (1, .ref a1)] [] ad T R M
  unfold mf_X7_readBath
  refine zx_aload_n (i := 0) (zd me_X7_readBath 0 rfl) rfl 0 rfl ?_
  refine zx_getI (zd me_X7_readBath 1 rfl) fl_X7_35 (zi7_c h0) rfl ?_
  refine zx_if_le (tgt := 13) (zd me_X7_readBath 2 rfl) (by decide) (fun c1 => ?_) (fun c1 => ?_)
  · refine zx_aload_n (i := 0) (zd me_X7_readBath 7 rfl) rfl 0 rfl ?_
    refine zx_getI (zd me_X7_readBath 8 rfl) fl_X7_32 (zi7_c h0) rfl ?_
    refine zx_bipush (v := 6) (zd me_X7_readBath 9 rfl) (by decide) ?_
    refine zx_icmp_lt (tgt := 28) (zd me_X7_readBath 10 rfl) (by decide) (fun c2 => ?_) (fun c2 => ?_)
    · refine zx_aload_n (i := 1) (zd me_X7_readBath 15 rfl) rfl 1 rfl ?_
      refine zx_callVV0 (zd me_X7_readBath 16 rfl) (mc_X10_next (zl C) h1 M) lk_X7_98 ⟨(Nat.le_of_ble_eq_true rfl), (Nat.le_of_ble_eq_true rfl)⟩ (Nat.le_of_ble_eq_true rfl) (zi10_c h1) rfl (fun r4 M3 => ?_)
      refine zx_aload_n (i := 0) (zd me_X7_readBath 17 rfl) rfl 0 rfl ?_
      refine zx_aload_n (i := 1) (zd me_X7_readBath 18 rfl) rfl 1 rfl ?_
      refine zx_iconst (v := 0) (zd me_X7_readBath 19 rfl) (by decide) ?_
      refine zx_aload_n (i := 0) (zd me_X7_readBath 20 rfl) rfl 0 rfl ?_
      refine zx_getI (zd me_X7_readBath 21 rfl) fl_X7_32 (zi7_c h0) rfl ?_
      refine zx_iadd (zd me_X7_readBath 22 rfl) ?_
      refine zx_callVI2 (zd me_X7_readBath 23 rfl) (mc_X7_passNewName (zl C) h0 h1 ((0 : Int32) + (M3.1 a0 0)) M3) lk_X7_101 ⟨(Nat.le_of_ble_eq_true rfl), (Nat.le_of_ble_eq_true rfl)⟩ (Nat.le_of_ble_eq_true rfl) (zi7_c h0) rfl (fun r6 M5 => ?_)
      refine zx_if_ne (tgt := 48) (zd me_X7_readBath 24 rfl) (by decide) (fun c7 => ?_) (fun c7 => ?_)
      · refine zx_aload_n (i := 1) (zd me_X7_readBath 27 rfl) rfl 1 rfl ?_
        refine zx_iconst (v := 1) (zd me_X7_readBath 28 rfl) (by decide) ?_
        refine zx_iconst (v := 4) (zd me_X7_readBath 29 rfl) (by decide) ?_
        refine zx_callVI2 (zd me_X7_readBath 30 rfl) (mc_X10_passNumber (zl C) h1 (1 : Int32) (4 : Int32) M5) lk_X7_105 ⟨(Nat.le_of_ble_eq_true rfl), (Nat.le_of_ble_eq_true rfl)⟩ (Nat.le_of_ble_eq_true rfl) (zi10_c h1) rfl (fun r9 M8 => ?_)
        refine zx_istore_n (i := 2) (ls' := [(2, .int r9), (0, .ref a0), (1, .ref a1)]) (zd me_X7_readBath 31 rfl) rfl (Nat.le_of_ble_eq_true rfl) rfl ?_
        refine zx_iload_n (i := 2) (zd me_X7_readBath 32 rfl) rfl 0 rfl ?_
        refine zx_iconst (v := (-1)) (zd me_X7_readBath 33 rfl) (by decide) ?_
        refine zx_icmp_ne (tgt := 64) (zd me_X7_readBath 34 rfl) (by decide) (fun c10 => ?_) (fun c10 => ?_)
        · refine zx_aload_n (i := 1) (zd me_X7_readBath 37 rfl) rfl 2 rfl ?_
          refine zx_iconst (v := 1) (zd me_X7_readBath 38 rfl) (by decide) ?_
          refine zx_bipush (v := 99) (zd me_X7_readBath 39 rfl) (by decide) ?_
          refine zx_callVI2 (zd me_X7_readBath 40 rfl) (mc_X10_passNumber (zl C) h1 (1 : Int32) (99 : Int32) M8) lk_X7_105 ⟨(Nat.le_of_ble_eq_true rfl), (Nat.le_of_ble_eq_true rfl)⟩ (Nat.le_of_ble_eq_true rfl) (zi10_c h1) rfl (fun r12 M11 => ?_)
          refine zx_loc [1, 0] rfl ?_
          exact mt_X7_readBath_b71 h0 h1 r9 r12 M11
        · refine zx_iconst (v := (-1)) (zd me_X7_readBath 35 rfl) (by decide) ?_
          refine zx_goto (tgt := 71) (zd me_X7_readBath 36 rfl) (by decide) ?_
          refine zx_loc [1, 0] rfl ?_
          exact mt_X7_readBath_b71 h0 h1 r9 (-1 : Int32) M8
      · refine zx_iconst (v := 0) (zd me_X7_readBath 25 rfl) (by decide) ?_
        exact zx_zret (zd me_X7_readBath 26 rfl) rfl rfl
    · refine zx_aload_n (i := 1) (zd me_X7_readBath 11 rfl) rfl 1 rfl ?_
      refine zx_iconst (v := 4) (zd me_X7_readBath 12 rfl) (by decide) ?_
      refine zx_callVI1 (zd me_X7_readBath 13 rfl) (mc_X10_fail (zl C) h1 (4 : Int32) M) lk_X7_95 ⟨(Nat.le_of_ble_eq_true rfl), (Nat.le_of_ble_eq_true rfl)⟩ (Nat.le_of_ble_eq_true rfl) (zi10_c h1) rfl (fun r14 M13 => ?_)
      exact zx_zretC (zd me_X7_readBath 14 rfl) rfl
  · refine zx_aload_n (i := 1) (zd me_X7_readBath 3 rfl) rfl 1 rfl ?_
    refine zx_iconst (v := 3) (zd me_X7_readBath 4 rfl) (by decide) ?_
    refine zx_callVI1 (zd me_X7_readBath 5 rfl) (mc_X10_fail (zl C) h1 (3 : Int32) M) lk_X7_95 ⟨(Nat.le_of_ble_eq_true rfl), (Nat.le_of_ble_eq_true rfl)⟩ (Nat.le_of_ble_eq_true rfl) (zi10_c h1) rfl (fun r16 M15 => ?_)
    exact zx_zretC (zd me_X7_readBath 6 rfl) rfl
def mf_X7_readPaper_l37 (R : zRR) (a0 : Nat) (a1 : Nat) : Nat → Int32 → zMem → Option (Int32 × zMem)
  | 0, _, _ => none
  | fuel + 1, i2, M =>
    if (M.1 a0 0) ≤ i2 then
      (zlet (zwI M a0 1 ((M.1 a0 1) + (1 : Int32))) fun M10 =>
      some ((1 : Int32), M10))
    else
      (zcl (mf_X10_passNumber R a1 (0 : Int32) (30 : Int32) M) fun r12 M11 =>
      if r12 = (-1 : Int32) then
        (some ((0 : Int32), M11))
      else
        (zald 30 (((M11.1 a0 1) * (6 : Int32)) + i2) fun j14 =>
        zlet (zwI M11 (zrf R a0 10) j14 r12) fun M15 =>
        mf_X7_readPaper_l37 R a0 a1 fuel (i2 + 1) M15))
theorem mt_X7_readPaper_l37 {C : zCx} {ad : Nat → Nat} {T : zTT} {R : zRR} {a0 : Nat} {a1 : Nat} (h0 : zi7 T R a0) (h1 : zi10 T R a1) : ∀ (fuel : Nat) (i2 : Int32) (M : zMem), zX C mi_X7_readPaper (zFin C zrvI ad T R) 0 0 (mf_X7_readPaper_l37 R a0 a1 fuel i2 M) 37 [(0, .ref a0), (1, .ref a1), (2, .int i2)] [] ad T R M := by
  intro fuel
  induction fuel with
  | zero => intros; exact zx_none
  | succ fuel ih =>
    intro i2 M
    rw [mf_X7_readPaper_l37]
    refine zx_iload_n (i := 2) (zd me_X7_readPaper 22 rfl) rfl 2 rfl ?_
    refine zx_aload_n (i := 0) (zd me_X7_readPaper 23 rfl) rfl 0 rfl ?_
    refine zx_getI (zd me_X7_readPaper 24 rfl) fl_X7_32 (zi7_c h0) rfl ?_
    refine zx_icmp_ge (tgt := 81) (zd me_X7_readPaper 25 rfl) (by decide) (fun c9 => ?_) (fun c9 => ?_)
    · refine zx_aload_n (i := 0) (zd me_X7_readPaper 48 rfl) rfl 0 rfl ?_
      refine zx_dup (zd me_X7_readPaper 49 rfl) rfl ?_
      refine zx_getI (zd me_X7_readPaper 50 rfl) fl_X7_35 (zi7_c h0) rfl ?_
      refine zx_iconst (v := 1) (zd me_X7_readPaper 51 rfl) (by decide) ?_
      refine zx_iadd (zd me_X7_readPaper 52 rfl) ?_
      refine zx_putI (zd me_X7_readPaper 53 rfl) fp_X7_35 (zi7_c h0) rfl (fun M10 _ => ?_)
      refine zx_iconst (v := 1) (zd me_X7_readPaper 54 rfl) (by decide) ?_
      exact zx_zret (zd me_X7_readPaper 55 rfl) rfl rfl
    · refine zx_aload_n (i := 1) (zd me_X7_readPaper 26 rfl) rfl 1 rfl ?_
      refine zx_iconst (v := 0) (zd me_X7_readPaper 27 rfl) (by decide) ?_
      refine zx_bipush (v := 30) (zd me_X7_readPaper 28 rfl) (by decide) ?_
      refine zx_callVI2 (zd me_X7_readPaper 29 rfl) (mc_X10_passNumber (zl C) h1 (0 : Int32) (30 : Int32) M) lk_X7_105 ⟨(Nat.le_of_ble_eq_true rfl), (Nat.le_of_ble_eq_true rfl)⟩ (Nat.le_of_ble_eq_true rfl) (zi10_c h1) rfl (fun r12 M11 => ?_)
      refine zx_istore_n (i := 3) (ls' := [(3, .int r12), (0, .ref a0), (1, .ref a1), (2, .int i2)]) (zd me_X7_readPaper 30 rfl) rfl (Nat.le_of_ble_eq_true rfl) rfl ?_
      refine zx_iload_n (i := 3) (zd me_X7_readPaper 31 rfl) rfl 0 rfl ?_
      refine zx_iconst (v := (-1)) (zd me_X7_readPaper 32 rfl) (by decide) ?_
      refine zx_icmp_ne (tgt := 60) (zd me_X7_readPaper 33 rfl) (by decide) (fun c13 => ?_) (fun c13 => ?_)
      · refine zx_aload_n (i := 0) (zd me_X7_readPaper 36 rfl) rfl 1 rfl ?_
        refine zx_getR (zd me_X7_readPaper 37 rfl) fl_X7_29 (zi7_c h0) rfl (zi7_r10 h0) ?_
        refine zx_aload_n (i := 0) (zd me_X7_readPaper 38 rfl) rfl 1 rfl ?_
        refine zx_getI (zd me_X7_readPaper 39 rfl) fl_X7_35 (zi7_c h0) rfl ?_
        refine zx_bipush (v := 6) (zd me_X7_readPaper 40 rfl) (by decide) ?_
        refine zx_imul (zd me_X7_readPaper 41 rfl) ?_
        refine zx_iload_n (i := 2) (zd me_X7_readPaper 42 rfl) rfl 3 rfl ?_
        refine zx_iadd (zd me_X7_readPaper 43 rfl) ?_
        refine zx_iload_n (i := 3) (zd me_X7_readPaper 44 rfl) rfl 0 rfl ?_
        refine zx_iast (zd me_X7_readPaper 45 rfl) (zi7_t10 h0) (fun M15 => ?_)
        refine zx_iinc (v := 1) (ls' := [(2, .int (i2 + 1)), (3, .int r12), (0, .ref a0), (1, .ref a1)]) (zd me_X7_readPaper 46 rfl) (Nat.le_of_ble_eq_true rfl) 3 rfl (by decide) rfl ?_
        refine zx_goto (tgt := 37) (zd me_X7_readPaper 47 rfl) (by decide) ?_
        refine zx_loc [2, 3, 0] rfl ?_
        exact ih (i2 + 1) M15
      · refine zx_iconst (v := 0) (zd me_X7_readPaper 34 rfl) (by decide) ?_
        exact zx_zret (zd me_X7_readPaper 35 rfl) rfl rfl
def mf_X7_readPaper (R : zRR) (a0 : Nat) (a1 : Nat) (M : zMem) : Option (Int32 × zMem) :=
  if (M.1 a0 1) < (5 : Int32) then
    (zcl (mf_X10_next R a1 M) fun _ M2 =>
    zcl (mf_X7_passNewName R a0 a1 ((6 : Int32) + (M2.1 a0 1)) M2) fun r5 M4 =>
    if r5 = 0 then
      (some ((0 : Int32), M4))
    else
      (mf_X7_readPaper_l37 R a0 a1 zF (0 : Int32) M4))
  else
    (zcl (mf_X10_fail R a1 (4 : Int32) M) fun r8 M7 =>
    zchk (r8 = 0 ∨ r8 = 1) (some (r8, M7)))
theorem mc_X7_readPaper (l : Launch) {T : zTT} {R : zRR} {a0 : Nat} {a1 : Nat} (h0 : zi7 T R a0) (h1 : zi10 T R a1) (M : zMem) : zMS l yX7_readPaper mi_X7_readPaper zrvI (mf_X7_readPaper R a0 a1 M) [.ref a0, .ref a1] T R M := by
  refine zMS.of (by decide +kernel) rfl ⟨rfl, rfl⟩ (Nat.le_of_ble_eq_true rfl) (fun C ad _ => ?_)
  show zX C mi_X7_readPaper (zFin C zrvI ad T R) 0 0 (mf_X7_readPaper R a0 a1 M) 0 [(0, .ref a0), (1, .ref a1)] [] ad T R M
  unfold mf_X7_readPaper
  refine zx_aload_n (i := 0) (zd me_X7_readPaper 0 rfl) rfl 0 rfl ?_
  refine zx_getI (zd me_X7_readPaper 1 rfl) fl_X7_35 (zi7_c h0) rfl ?_
  refine zx_iconst (v := 5) (zd me_X7_readPaper 2 rfl) (by decide) ?_
  refine zx_icmp_lt (tgt := 14) (zd me_X7_readPaper 3 rfl) (by decide) (fun c1 => ?_) (fun c1 => ?_)
  · refine zx_aload_n (i := 1) (zd me_X7_readPaper 8 rfl) rfl 1 rfl ?_
    refine zx_callVV0 (zd me_X7_readPaper 9 rfl) (mc_X10_next (zl C) h1 M) lk_X7_98 ⟨(Nat.le_of_ble_eq_true rfl), (Nat.le_of_ble_eq_true rfl)⟩ (Nat.le_of_ble_eq_true rfl) (zi10_c h1) rfl (fun r3 M2 => ?_)
    refine zx_aload_n (i := 0) (zd me_X7_readPaper 10 rfl) rfl 0 rfl ?_
    refine zx_aload_n (i := 1) (zd me_X7_readPaper 11 rfl) rfl 1 rfl ?_
    refine zx_bipush (v := 6) (zd me_X7_readPaper 12 rfl) (by decide) ?_
    refine zx_aload_n (i := 0) (zd me_X7_readPaper 13 rfl) rfl 0 rfl ?_
    refine zx_getI (zd me_X7_readPaper 14 rfl) fl_X7_35 (zi7_c h0) rfl ?_
    refine zx_iadd (zd me_X7_readPaper 15 rfl) ?_
    refine zx_callVI2 (zd me_X7_readPaper 16 rfl) (mc_X7_passNewName (zl C) h0 h1 ((6 : Int32) + (M2.1 a0 1)) M2) lk_X7_101 ⟨(Nat.le_of_ble_eq_true rfl), (Nat.le_of_ble_eq_true rfl)⟩ (Nat.le_of_ble_eq_true rfl) (zi7_c h0) rfl (fun r5 M4 => ?_)
    refine zx_if_ne (tgt := 35) (zd me_X7_readPaper 17 rfl) (by decide) (fun c6 => ?_) (fun c6 => ?_)
    · refine zx_iconst (v := 0) (zd me_X7_readPaper 20 rfl) (by decide) ?_
      refine zx_istore_n (i := 2) (ls' := [(2, .int (0 : Int32)), (0, .ref a0), (1, .ref a1)]) (zd me_X7_readPaper 21 rfl) rfl (Nat.le_of_ble_eq_true rfl) rfl ?_
      refine zx_loc [1, 2, 0] rfl ?_
      exact mt_X7_readPaper_l37 h0 h1 zF (0 : Int32) M4
    · refine zx_iconst (v := 0) (zd me_X7_readPaper 18 rfl) (by decide) ?_
      exact zx_zret (zd me_X7_readPaper 19 rfl) rfl rfl
  · refine zx_aload_n (i := 1) (zd me_X7_readPaper 4 rfl) rfl 1 rfl ?_
    refine zx_iconst (v := 4) (zd me_X7_readPaper 5 rfl) (by decide) ?_
    refine zx_callVI1 (zd me_X7_readPaper 6 rfl) (mc_X10_fail (zl C) h1 (4 : Int32) M) lk_X7_95 ⟨(Nat.le_of_ble_eq_true rfl), (Nat.le_of_ble_eq_true rfl)⟩ (Nat.le_of_ble_eq_true rfl) (zi10_c h1) rfl (fun r8 M7 => ?_)
    exact zx_zretC (zd me_X7_readPaper 7 rfl) rfl
def mf_X7_readSheet (R : zRR) (a0 : Nat) (a1 : Nat) (M : zMem) : Option (Int32 × zMem) :=
  if (M.1 a0 2) < (8 : Int32) then
    (zcl (mf_X10_next R a1 M) fun _ M2 =>
    zcl (mf_X7_passNewName R a0 a1 ((11 : Int32) + (M2.1 a0 2)) M2) fun r5 M4 =>
    if r5 = 0 then
      (some ((0 : Int32), M4))
    else
      (zcl (mf_X7_passKnown R a0 a1 (6 : Int32) (M4.1 a0 1) M4) fun r8 M7 =>
      if r8 = (-1 : Int32) then
        (some ((0 : Int32), M7))
      else
        (zald 8 (M7.1 a0 2) fun j10 =>
        zlet (zwI M7 (zrf R a0 8) j10 r8) fun M11 =>
        zlet (zwI M11 a0 2 ((M11.1 a0 2) + (1 : Int32))) fun M12 =>
        some ((1 : Int32), M12))))
  else
    (zcl (mf_X10_fail R a1 (4 : Int32) M) fun r14 M13 =>
    zchk (r14 = 0 ∨ r14 = 1) (some (r14, M13)))
theorem mc_X7_readSheet (l : Launch) {T : zTT} {R : zRR} {a0 : Nat} {a1 : Nat} (h0 : zi7 T R a0) (h1 : zi10 T R a1) (M : zMem) : zMS l yX7_readSheet mi_X7_readSheet zrvI (mf_X7_readSheet R a0 a1 M) [.ref a0, .ref a1] T R M := by
  refine zMS.of (by decide +kernel) rfl ⟨rfl, rfl⟩ (Nat.le_of_ble_eq_true rfl) (fun C ad _ => ?_)
  show zX C mi_X7_readSheet (zFin C zrvI ad T R) 0 0 (mf_X7_readSheet R a0 a1 M) 0 [(0, .ref a0), (1, .ref a1)] [] ad T R M
  unfold mf_X7_readSheet
  refine zx_aload_n (i := 0) (zd me_X7_readSheet 0 rfl) rfl 0 rfl ?_
  refine zx_getI (zd me_X7_readSheet 1 rfl) fl_X7_38 (zi7_c h0) rfl ?_
  refine zx_bipush (v := 8) (zd me_X7_readSheet 2 rfl) (by decide) ?_
  refine zx_icmp_lt (tgt := 15) (zd me_X7_readSheet 3 rfl) (by decide) (fun c1 => ?_) (fun c1 => ?_)
  · refine zx_aload_n (i := 1) (zd me_X7_readSheet 8 rfl) rfl 1 rfl ?_
    refine zx_callVV0 (zd me_X7_readSheet 9 rfl) (mc_X10_next (zl C) h1 M) lk_X7_98 ⟨(Nat.le_of_ble_eq_true rfl), (Nat.le_of_ble_eq_true rfl)⟩ (Nat.le_of_ble_eq_true rfl) (zi10_c h1) rfl (fun r3 M2 => ?_)
    refine zx_aload_n (i := 0) (zd me_X7_readSheet 10 rfl) rfl 0 rfl ?_
    refine zx_aload_n (i := 1) (zd me_X7_readSheet 11 rfl) rfl 1 rfl ?_
    refine zx_bipush (v := 11) (zd me_X7_readSheet 12 rfl) (by decide) ?_
    refine zx_aload_n (i := 0) (zd me_X7_readSheet 13 rfl) rfl 0 rfl ?_
    refine zx_getI (zd me_X7_readSheet 14 rfl) fl_X7_38 (zi7_c h0) rfl ?_
    refine zx_iadd (zd me_X7_readSheet 15 rfl) ?_
    refine zx_callVI2 (zd me_X7_readSheet 16 rfl) (mc_X7_passNewName (zl C) h0 h1 ((11 : Int32) + (M2.1 a0 2)) M2) lk_X7_101 ⟨(Nat.le_of_ble_eq_true rfl), (Nat.le_of_ble_eq_true rfl)⟩ (Nat.le_of_ble_eq_true rfl) (zi7_c h0) rfl (fun r5 M4 => ?_)
    refine zx_if_ne (tgt := 36) (zd me_X7_readSheet 17 rfl) (by decide) (fun c6 => ?_) (fun c6 => ?_)
    · refine zx_aload_n (i := 0) (zd me_X7_readSheet 20 rfl) rfl 0 rfl ?_
      refine zx_aload_n (i := 1) (zd me_X7_readSheet 21 rfl) rfl 1 rfl ?_
      refine zx_bipush (v := 6) (zd me_X7_readSheet 22 rfl) (by decide) ?_
      refine zx_aload_n (i := 0) (zd me_X7_readSheet 23 rfl) rfl 0 rfl ?_
      refine zx_getI (zd me_X7_readSheet 24 rfl) fl_X7_35 (zi7_c h0) rfl ?_
      refine zx_callVI3 (zd me_X7_readSheet 25 rfl) (mc_X7_passKnown (zl C) h0 h1 (6 : Int32) (M4.1 a0 1) M4) lk_X7_109 ⟨(Nat.le_of_ble_eq_true rfl), (Nat.le_of_ble_eq_true rfl)⟩ (Nat.le_of_ble_eq_true rfl) (zi7_c h0) rfl (fun r8 M7 => ?_)
      refine zx_istore_n (i := 2) (ls' := [(2, .int r8), (0, .ref a0), (1, .ref a1)]) (zd me_X7_readSheet 26 rfl) rfl (Nat.le_of_ble_eq_true rfl) rfl ?_
      refine zx_iload_n (i := 2) (zd me_X7_readSheet 27 rfl) rfl 0 rfl ?_
      refine zx_iconst (v := (-1)) (zd me_X7_readSheet 28 rfl) (by decide) ?_
      refine zx_icmp_ne (tgt := 55) (zd me_X7_readSheet 29 rfl) (by decide) (fun c9 => ?_) (fun c9 => ?_)
      · refine zx_aload_n (i := 0) (zd me_X7_readSheet 32 rfl) rfl 1 rfl ?_
        refine zx_getR (zd me_X7_readSheet 33 rfl) fl_X7_22 (zi7_c h0) rfl (zi7_r8 h0) ?_
        refine zx_aload_n (i := 0) (zd me_X7_readSheet 34 rfl) rfl 1 rfl ?_
        refine zx_getI (zd me_X7_readSheet 35 rfl) fl_X7_38 (zi7_c h0) rfl ?_
        refine zx_iload_n (i := 2) (zd me_X7_readSheet 36 rfl) rfl 0 rfl ?_
        refine zx_iast (zd me_X7_readSheet 37 rfl) (zi7_t8 h0) (fun M11 => ?_)
        refine zx_aload_n (i := 0) (zd me_X7_readSheet 38 rfl) rfl 1 rfl ?_
        refine zx_dup (zd me_X7_readSheet 39 rfl) rfl ?_
        refine zx_getI (zd me_X7_readSheet 40 rfl) fl_X7_38 (zi7_c h0) rfl ?_
        refine zx_iconst (v := 1) (zd me_X7_readSheet 41 rfl) (by decide) ?_
        refine zx_iadd (zd me_X7_readSheet 42 rfl) ?_
        refine zx_putI (zd me_X7_readSheet 43 rfl) fp_X7_38 (zi7_c h0) rfl (fun M12 _ => ?_)
        refine zx_iconst (v := 1) (zd me_X7_readSheet 44 rfl) (by decide) ?_
        exact zx_zret (zd me_X7_readSheet 45 rfl) rfl rfl
      · refine zx_iconst (v := 0) (zd me_X7_readSheet 30 rfl) (by decide) ?_
        exact zx_zret (zd me_X7_readSheet 31 rfl) rfl rfl
    · refine zx_iconst (v := 0) (zd me_X7_readSheet 18 rfl) (by decide) ?_
      exact zx_zret (zd me_X7_readSheet 19 rfl) rfl rfl
  · refine zx_aload_n (i := 1) (zd me_X7_readSheet 4 rfl) rfl 1 rfl ?_
    refine zx_iconst (v := 4) (zd me_X7_readSheet 5 rfl) (by decide) ?_
    refine zx_callVI1 (zd me_X7_readSheet 6 rfl) (mc_X10_fail (zl C) h1 (4 : Int32) M) lk_X7_95 ⟨(Nat.le_of_ble_eq_true rfl), (Nat.le_of_ble_eq_true rfl)⟩ (Nat.le_of_ble_eq_true rfl) (zi10_c h1) rfl (fun r14 M13 => ?_)
    exact zx_zretC (zd me_X7_readSheet 7 rfl) rfl
def mf_X7_readOnce_b52 (R : zRR) (a0 : Nat) (a1 : Nat) (i2 : Int32) (s0 : Int32) (s1 : Int32) (M : zMem) : Option (Int32 × zMem) :=
  zcl (mf_X10_passNumber R a1 s1 s0 M) fun r10 M9 =>
  if r10 = (-1 : Int32) then
    (some ((0 : Int32), M9))
  else
    (if i2 = (3 : Int32) then
      (zlet (zwI M9 a0 3 r10) fun M16 =>
      some ((1 : Int32), M16))
    else
      (if i2 = (4 : Int32) then
        (zlet (zwI M9 a0 4 r10) fun M15 =>
        some ((1 : Int32), M15))
      else
        (zlet (zwI M9 a0 5 r10) fun M14 =>
        some ((1 : Int32), M14))))
theorem mt_X7_readOnce_b52 {C : zCx} {ad : Nat → Nat} {T : zTT} {R : zRR} {a0 : Nat} {a1 : Nat} (h0 : zi7 T R a0) (h1 : zi10 T R a1) (i2 : Int32) (s0 : Int32) (s1 : Int32) (M : zMem) : zX C mi_X7_readOnce (zFin C zrvI ad T R) 0 0 (mf_X7_readOnce_b52 R a0 a1 i2 s0 s1 M) 52 [(0, .ref a0), (2, .int i2)] [.int s0, .int s1, .ref a1] ad T R M := by
  unfold mf_X7_readOnce_b52
  refine zx_callVI2 (zd me_X7_readOnce 32 rfl) (mc_X10_passNumber (zl C) h1 s1 s0 M) lk_X7_105 ⟨(Nat.le_of_ble_eq_true rfl), (Nat.le_of_ble_eq_true rfl)⟩ (Nat.le_of_ble_eq_true rfl) (zi10_c h1) rfl (fun r10 M9 => ?_)
  refine zx_istore_n (i := 3) (ls' := [(3, .int r10), (0, .ref a0), (2, .int i2)]) (zd me_X7_readOnce 33 rfl) rfl (Nat.le_of_ble_eq_true rfl) rfl ?_
  refine zx_iload_n (i := 3) (zd me_X7_readOnce 34 rfl) rfl 0 rfl ?_
  refine zx_iconst (v := (-1)) (zd me_X7_readOnce 35 rfl) (by decide) ?_
  refine zx_icmp_ne (tgt := 63) (zd me_X7_readOnce 36 rfl) (by decide) (fun c11 => ?_) (fun c11 => ?_)
  · refine zx_iload_n (i := 2) (zd me_X7_readOnce 39 rfl) rfl 2 rfl ?_
    refine zx_iconst (v := 3) (zd me_X7_readOnce 40 rfl) (by decide) ?_
    refine zx_icmp_ne (tgt := 76) (zd me_X7_readOnce 41 rfl) (by decide) (fun c12 => ?_) (fun c12 => ?_)
    · refine zx_iload_n (i := 2) (zd me_X7_readOnce 46 rfl) rfl 2 rfl ?_
      refine zx_iconst (v := 4) (zd me_X7_readOnce 47 rfl) (by decide) ?_
      refine zx_icmp_ne (tgt := 89) (zd me_X7_readOnce 48 rfl) (by decide) (fun c13 => ?_) (fun c13 => ?_)
      · refine zx_aload_n (i := 0) (zd me_X7_readOnce 53 rfl) rfl 1 rfl ?_
        refine zx_iload_n (i := 3) (zd me_X7_readOnce 54 rfl) rfl 0 rfl ?_
        refine zx_putI (zd me_X7_readOnce 55 rfl) fp_X7_11 (zi7_c h0) rfl (fun M14 _ => ?_)
        refine zx_iconst (v := 1) (zd me_X7_readOnce 56 rfl) (by decide) ?_
        exact zx_zret (zd me_X7_readOnce 57 rfl) rfl rfl
      · refine zx_aload_n (i := 0) (zd me_X7_readOnce 49 rfl) rfl 1 rfl ?_
        refine zx_iload_n (i := 3) (zd me_X7_readOnce 50 rfl) rfl 0 rfl ?_
        refine zx_putI (zd me_X7_readOnce 51 rfl) fp_X7_48 (zi7_c h0) rfl (fun M15 _ => ?_)
        refine zx_goto (tgt := 94) (zd me_X7_readOnce 52 rfl) (by decide) ?_
        refine zx_iconst (v := 1) (zd me_X7_readOnce 56 rfl) (by decide) ?_
        exact zx_zret (zd me_X7_readOnce 57 rfl) rfl rfl
    · refine zx_aload_n (i := 0) (zd me_X7_readOnce 42 rfl) rfl 1 rfl ?_
      refine zx_iload_n (i := 3) (zd me_X7_readOnce 43 rfl) rfl 0 rfl ?_
      refine zx_putI (zd me_X7_readOnce 44 rfl) fp_X7_45 (zi7_c h0) rfl (fun M16 _ => ?_)
      refine zx_goto (tgt := 94) (zd me_X7_readOnce 45 rfl) (by decide) ?_
      refine zx_iconst (v := 1) (zd me_X7_readOnce 56 rfl) (by decide) ?_
      exact zx_zret (zd me_X7_readOnce 57 rfl) rfl rfl
  · refine zx_iconst (v := 0) (zd me_X7_readOnce 37 rfl) (by decide) ?_
    exact zx_zret (zd me_X7_readOnce 38 rfl) rfl rfl
def mf_X7_readOnce (R : zRR) (a0 : Nat) (a1 : Nat) (M : zMem) : Option (Int32 × zMem) :=
  zlet ((M.1 a1 5) : Int32) fun x1 =>
  if (((M.1 a0 11) >>> (x1 &&& 31)) &&& (1 : Int32)) = 0 then
    (zlet (zwI M a0 11 ((M.1 a0 11) ||| ((1 : Int32) <<< (x1 &&& 31)))) fun M3 =>
    zcl (mf_X10_next R a1 M3) fun _ M4 =>
    if x1 = (5 : Int32) then
      (mf_X7_readOnce_b52 R a0 a1 x1 (99 : Int32) (0 : Int32) M4)
    else
      (mf_X7_readOnce_b52 R a0 a1 x1 (9 : Int32) (0 : Int32) M4))
  else
    (zcl (mf_X10_fail R a1 (3 : Int32) M) fun r8 M7 =>
    zchk (r8 = 0 ∨ r8 = 1) (some (r8, M7)))
theorem mc_X7_readOnce (l : Launch) {T : zTT} {R : zRR} {a0 : Nat} {a1 : Nat} (h0 : zi7 T R a0) (h1 : zi10 T R a1) (M : zMem) : zMS l yX7_readOnce mi_X7_readOnce zrvI (mf_X7_readOnce R a0 a1 M) [.ref a0, .ref a1] T R M := by
  refine zMS.of (by decide +kernel) rfl ⟨rfl, rfl⟩ (Nat.le_of_ble_eq_true rfl) (fun C ad _ => ?_)
  show zX C mi_X7_readOnce (zFin C zrvI ad T R) 0 0 (mf_X7_readOnce R a0 a1 M) 0 [(0, .ref a0), (1, .ref a1)] [] ad T R M
  unfold mf_X7_readOnce
  refine zx_aload_n (i := 1) (zd me_X7_readOnce 0 rfl) rfl 1 rfl ?_
  refine zx_getI (zd me_X7_readOnce 1 rfl) fl_X7_80 (zi10_c h1) rfl ?_
  refine zx_leti (fun x1 => ?_)
  refine zx_istore_n (i := 2) (ls' := [(2, .int x1), (0, .ref a0), (1, .ref a1)]) (zd me_X7_readOnce 2 rfl) rfl (Nat.le_of_ble_eq_true rfl) rfl ?_
  refine zx_aload_n (i := 0) (zd me_X7_readOnce 3 rfl) rfl 1 rfl ?_
  refine zx_getI (zd me_X7_readOnce 4 rfl) fl_X7_57 (zi7_c h0) rfl ?_
  refine zx_iload_n (i := 2) (zd me_X7_readOnce 5 rfl) rfl 0 rfl ?_
  refine zx_ishr (zd me_X7_readOnce 6 rfl) ?_
  refine zx_iconst (v := 1) (zd me_X7_readOnce 7 rfl) (by decide) ?_
  refine zx_iand (zd me_X7_readOnce 8 rfl) ?_
  refine zx_if_eq (tgt := 22) (zd me_X7_readOnce 9 rfl) (by decide) (fun c2 => ?_) (fun c2 => ?_)
  · refine zx_aload_n (i := 0) (zd me_X7_readOnce 14 rfl) rfl 1 rfl ?_
    refine zx_dup (zd me_X7_readOnce 15 rfl) rfl ?_
    refine zx_getI (zd me_X7_readOnce 16 rfl) fl_X7_57 (zi7_c h0) rfl ?_
    refine zx_iconst (v := 1) (zd me_X7_readOnce 17 rfl) (by decide) ?_
    refine zx_iload_n (i := 2) (zd me_X7_readOnce 18 rfl) rfl 0 rfl ?_
    refine zx_ishl (zd me_X7_readOnce 19 rfl) ?_
    refine zx_ior (zd me_X7_readOnce 20 rfl) ?_
    refine zx_putI (zd me_X7_readOnce 21 rfl) fp_X7_57 (zi7_c h0) rfl (fun M3 _ => ?_)
    refine zx_aload_n (i := 1) (zd me_X7_readOnce 22 rfl) rfl 2 rfl ?_
    refine zx_callVV0 (zd me_X7_readOnce 23 rfl) (mc_X10_next (zl C) h1 M3) lk_X7_98 ⟨(Nat.le_of_ble_eq_true rfl), (Nat.le_of_ble_eq_true rfl)⟩ (Nat.le_of_ble_eq_true rfl) (zi10_c h1) rfl (fun r5 M4 => ?_)
    refine zx_aload_n (i := 1) (zd me_X7_readOnce 24 rfl) rfl 2 rfl ?_
    refine zx_iconst (v := 0) (zd me_X7_readOnce 25 rfl) (by decide) ?_
    refine zx_iload_n (i := 2) (zd me_X7_readOnce 26 rfl) rfl 0 rfl ?_
    refine zx_iconst (v := 5) (zd me_X7_readOnce 27 rfl) (by decide) ?_
    refine zx_icmp_ne (tgt := 50) (zd me_X7_readOnce 28 rfl) (by decide) (fun c6 => ?_) (fun c6 => ?_)
    · refine zx_bipush (v := 9) (zd me_X7_readOnce 31 rfl) (by decide) ?_
      refine zx_loc [1, 0] rfl ?_
      exact mt_X7_readOnce_b52 h0 h1 x1 (9 : Int32) (0 : Int32) M4
    · refine zx_bipush (v := 99) (zd me_X7_readOnce 29 rfl) (by decide) ?_
      refine zx_goto (tgt := 52) (zd me_X7_readOnce 30 rfl) (by decide) ?_
      refine zx_loc [1, 0] rfl ?_
      exact mt_X7_readOnce_b52 h0 h1 x1 (99 : Int32) (0 : Int32) M4
  · refine zx_aload_n (i := 1) (zd me_X7_readOnce 10 rfl) rfl 2 rfl ?_
    refine zx_iconst (v := 3) (zd me_X7_readOnce 11 rfl) (by decide) ?_
    refine zx_callVI1 (zd me_X7_readOnce 12 rfl) (mc_X10_fail (zl C) h1 (3 : Int32) M) lk_X7_95 ⟨(Nat.le_of_ble_eq_true rfl), (Nat.le_of_ble_eq_true rfl)⟩ (Nat.le_of_ble_eq_true rfl) (zi10_c h1) rfl (fun r8 M7 => ?_)
    exact zx_zretC (zd me_X7_readOnce 13 rfl) rfl
def mf_X7_readLine (R : zRR) (a0 : Nat) (a1 : Nat) (M : zMem) : Option (Int32 × zMem) :=
  if (M.1 a1 5) = 0 then
    (zcl (mf_X7_readBath R a0 a1 M) fun r3 M2 =>
    zchk (r3 = 0 ∨ r3 = 1) (some (r3, M2)))
  else
  if (M.1 a1 5) = 1 then
    (zcl (mf_X7_readPaper R a0 a1 M) fun r6 M5 =>
    zchk (r6 = 0 ∨ r6 = 1) (some (r6, M5)))
  else
  if (M.1 a1 5) = 2 then
    (zcl (mf_X7_readSheet R a0 a1 M) fun r9 M8 =>
    zchk (r9 = 0 ∨ r9 = 1) (some (r9, M8)))
  else
  if (M.1 a1 5) = 3 then
    (zcl (mf_X7_readOnce R a0 a1 M) fun r12 M11 =>
    zchk (r12 = 0 ∨ r12 = 1) (some (r12, M11)))
  else
  if (M.1 a1 5) = 4 then
    (zcl (mf_X7_readOnce R a0 a1 M) fun r15 M14 =>
    zchk (r15 = 0 ∨ r15 = 1) (some (r15, M14)))
  else
  if (M.1 a1 5) = 5 then
    (zcl (mf_X7_readOnce R a0 a1 M) fun r18 M17 =>
    zchk (r18 = 0 ∨ r18 = 1) (some (r18, M17)))
  else
    (zcl (mf_X10_fail R a1 (1 : Int32) M) fun r20 M19 =>
    zchk (r20 = 0 ∨ r20 = 1) (some (r20, M19)))
theorem mc_X7_readLine (l : Launch) {T : zTT} {R : zRR} {a0 : Nat} {a1 : Nat} (h0 : zi7 T R a0) (h1 : zi10 T R a1) (M : zMem) : zMS l yX7_readLine mi_X7_readLine zrvI (mf_X7_readLine R a0 a1 M) [.ref a0, .ref a1] T R M := by
  refine zMS.of (by decide +kernel) rfl ⟨rfl, rfl⟩ (Nat.le_of_ble_eq_true rfl) (fun C ad _ => ?_)
  show zX C mi_X7_readLine (zFin C zrvI ad T R) 0 0 (mf_X7_readLine R a0 a1 M) 0 [(0, .ref a0), (1, .ref a1)] [] ad T R M
  unfold mf_X7_readLine
  refine zx_aload_n (i := 1) (zd me_X7_readLine 0 rfl) rfl 1 rfl ?_
  refine zx_getI (zd me_X7_readLine 1 rfl) fl_X7_80 (zi10_c h1) rfl ?_
  refine zx_ite (fun c1 => ?_) (fun c1 => ?_)
  · refine zx_tin (off := 40) (tgt := 44) (zd me_X7_readLine 2 rfl) (by rw [c1]; decide) (by rw [c1]; decide) (by rw [c1]; rfl) (by decide) ?_
    refine zx_aload_n (i := 0) (zd me_X7_readLine 3 rfl) rfl 0 rfl ?_
    refine zx_aload_n (i := 1) (zd me_X7_readLine 4 rfl) rfl 1 rfl ?_
    refine zx_callVI1 (zd me_X7_readLine 5 rfl) (mc_X7_readBath (zl C) h0 h1 M) lk_X7_83 ⟨(Nat.le_of_ble_eq_true rfl), (Nat.le_of_ble_eq_true rfl)⟩ (Nat.le_of_ble_eq_true rfl) (zi7_c h0) rfl (fun r3 M2 => ?_)
    exact zx_zretC (zd me_X7_readLine 6 rfl) rfl
  · refine zx_ite (fun c4 => ?_) (fun c4 => ?_)
    · refine zx_tin (off := 46) (tgt := 50) (zd me_X7_readLine 2 rfl) (by rw [c4]; decide) (by rw [c4]; decide) (by rw [c4]; rfl) (by decide) ?_
      refine zx_aload_n (i := 0) (zd me_X7_readLine 7 rfl) rfl 0 rfl ?_
      refine zx_aload_n (i := 1) (zd me_X7_readLine 8 rfl) rfl 1 rfl ?_
      refine zx_callVI1 (zd me_X7_readLine 9 rfl) (mc_X7_readPaper (zl C) h0 h1 M) lk_X7_86 ⟨(Nat.le_of_ble_eq_true rfl), (Nat.le_of_ble_eq_true rfl)⟩ (Nat.le_of_ble_eq_true rfl) (zi7_c h0) rfl (fun r6 M5 => ?_)
      exact zx_zretC (zd me_X7_readLine 10 rfl) rfl
    · refine zx_ite (fun c7 => ?_) (fun c7 => ?_)
      · refine zx_tin (off := 52) (tgt := 56) (zd me_X7_readLine 2 rfl) (by rw [c7]; decide) (by rw [c7]; decide) (by rw [c7]; rfl) (by decide) ?_
        refine zx_aload_n (i := 0) (zd me_X7_readLine 11 rfl) rfl 0 rfl ?_
        refine zx_aload_n (i := 1) (zd me_X7_readLine 12 rfl) rfl 1 rfl ?_
        refine zx_callVI1 (zd me_X7_readLine 13 rfl) (mc_X7_readSheet (zl C) h0 h1 M) lk_X7_89 ⟨(Nat.le_of_ble_eq_true rfl), (Nat.le_of_ble_eq_true rfl)⟩ (Nat.le_of_ble_eq_true rfl) (zi7_c h0) rfl (fun r9 M8 => ?_)
        exact zx_zretC (zd me_X7_readLine 14 rfl) rfl
      · refine zx_ite (fun c10 => ?_) (fun c10 => ?_)
        · refine zx_tin (off := 58) (tgt := 62) (zd me_X7_readLine 2 rfl) (by rw [c10]; decide) (by rw [c10]; decide) (by rw [c10]; rfl) (by decide) ?_
          refine zx_aload_n (i := 0) (zd me_X7_readLine 15 rfl) rfl 0 rfl ?_
          refine zx_aload_n (i := 1) (zd me_X7_readLine 16 rfl) rfl 1 rfl ?_
          refine zx_callVI1 (zd me_X7_readLine 17 rfl) (mc_X7_readOnce (zl C) h0 h1 M) lk_X7_92 ⟨(Nat.le_of_ble_eq_true rfl), (Nat.le_of_ble_eq_true rfl)⟩ (Nat.le_of_ble_eq_true rfl) (zi7_c h0) rfl (fun r12 M11 => ?_)
          exact zx_zretC (zd me_X7_readLine 18 rfl) rfl
        · refine zx_ite (fun c13 => ?_) (fun c13 => ?_)
          · refine zx_tin (off := 58) (tgt := 62) (zd me_X7_readLine 2 rfl) (by rw [c13]; decide) (by rw [c13]; decide) (by rw [c13]; rfl) (by decide) ?_
            refine zx_aload_n (i := 0) (zd me_X7_readLine 15 rfl) rfl 0 rfl ?_
            refine zx_aload_n (i := 1) (zd me_X7_readLine 16 rfl) rfl 1 rfl ?_
            refine zx_callVI1 (zd me_X7_readLine 17 rfl) (mc_X7_readOnce (zl C) h0 h1 M) lk_X7_92 ⟨(Nat.le_of_ble_eq_true rfl), (Nat.le_of_ble_eq_true rfl)⟩ (Nat.le_of_ble_eq_true rfl) (zi7_c h0) rfl (fun r15 M14 => ?_)
            exact zx_zretC (zd me_X7_readLine 18 rfl) rfl
          · refine zx_ite (fun c16 => ?_) (fun c16 => ?_)
            · refine zx_tin (off := 58) (tgt := 62) (zd me_X7_readLine 2 rfl) (by rw [c16]; decide) (by rw [c16]; decide) (by rw [c16]; rfl) (by decide) ?_
              refine zx_aload_n (i := 0) (zd me_X7_readLine 15 rfl) rfl 0 rfl ?_
              refine zx_aload_n (i := 1) (zd me_X7_readLine 16 rfl) rfl 1 rfl ?_
              refine zx_callVI1 (zd me_X7_readLine 17 rfl) (mc_X7_readOnce (zl C) h0 h1 M) lk_X7_92 ⟨(Nat.le_of_ble_eq_true rfl), (Nat.le_of_ble_eq_true rfl)⟩ (Nat.le_of_ble_eq_true rfl) (zi7_c h0) rfl (fun r18 M17 => ?_)
              exact zx_zretC (zd me_X7_readLine 18 rfl) rfl
            · refine zx_tout (tgt := 68) (zd me_X7_readLine 2 rfl) (by have e0 := lv_neT c1 (a := 0) (by decide); have e1 := lv_neT c4 (a := 1) (by decide); have e2 := lv_neT c7 (a := 2) (by decide); have e3 := lv_neT c10 (a := 3) (by decide); have e4 := lv_neT c13 (a := 4) (by decide); have e5 := lv_neT c16 (a := 5) (by decide); omega) (by decide) ?_
              refine zx_aload_n (i := 1) (zd me_X7_readLine 19 rfl) rfl 1 rfl ?_
              refine zx_iconst (v := 1) (zd me_X7_readLine 20 rfl) (by decide) ?_
              refine zx_callVI1 (zd me_X7_readLine 21 rfl) (mc_X10_fail (zl C) h1 (1 : Int32) M) lk_X7_95 ⟨(Nat.le_of_ble_eq_true rfl), (Nat.le_of_ble_eq_true rfl)⟩ (Nat.le_of_ble_eq_true rfl) (zi10_c h1) rfl (fun r20 M19 => ?_)
              exact zx_zretC (zd me_X7_readLine 22 rfl) rfl
def mf_X7_readLines_l13 (R : zRR) (a0 : Nat) (a1 : Nat) : Nat → Int32 → zMem → Option (Int32 × zMem)
  | 0, _, _ => none
  | fuel + 1, i2, M =>
    if (900 : Int32) < i2 then
      (some ((-1 : Int32), M))
    else
      (zcl (mf_X10_isEnd R a1 M) fun r7 M6 =>
      if r7 = 0 then
        (zcl (mf_X7_readLine R a0 a1 M6) fun r10 M9 =>
        if r10 = 0 then
          (some ((-1 : Int32), M9))
        else
          (zcl (mf_X10_passSign R a1 (59 : Int32) M9) fun r13 M12 =>
          if r13 = 0 then
            (some ((-1 : Int32), M12))
          else
            (mf_X7_readLines_l13 R a0 a1 fuel (i2 + 1) M12)))
      else
        (some (i2, M6)))
theorem mt_X7_readLines_l13 {C : zCx} {ad : Nat → Nat} {T : zTT} {R : zRR} {a0 : Nat} {a1 : Nat} (h0 : zi7 T R a0) (h1 : zi10 T R a1) : ∀ (fuel : Nat) (i2 : Int32) (M : zMem), zX C mi_X7_readLines (zFin C zrvI ad T R) 0 0 (mf_X7_readLines_l13 R a0 a1 fuel i2 M) 13 [(0, .ref a0), (1, .ref a1), (2, .int i2)] [] ad T R M := by
  intro fuel
  induction fuel with
  | zero => intros; exact zx_none
  | succ fuel ih =>
    intro i2 M
    rw [mf_X7_readLines_l13]
    refine zx_iload_n (i := 2) (zd me_X7_readLines 7 rfl) rfl 2 rfl ?_
    refine zx_sipush (v := 900) (zd me_X7_readLines 8 rfl) (by decide) ?_
    refine zx_icmp_gt (tgt := 54) (zd me_X7_readLines 9 rfl) (by decide) (fun c5 => ?_) (fun c5 => ?_)
    · refine zx_iconst (v := (-1)) (zd me_X7_readLines 27 rfl) (by decide) ?_
      exact zx_iret (zd me_X7_readLines 28 rfl) rfl
    · refine zx_aload_n (i := 1) (zd me_X7_readLines 10 rfl) rfl 1 rfl ?_
      refine zx_callVI0 (zd me_X7_readLines 11 rfl) (mc_X10_isEnd (zl C) h1 M) lk_X7_69 ⟨(Nat.le_of_ble_eq_true rfl), (Nat.le_of_ble_eq_true rfl)⟩ (Nat.le_of_ble_eq_true rfl) (zi10_c h1) rfl (fun r7 M6 => ?_)
      refine zx_if_eq (tgt := 29) (zd me_X7_readLines 12 rfl) (by decide) (fun c8 => ?_) (fun c8 => ?_)
      · refine zx_aload_n (i := 0) (zd me_X7_readLines 15 rfl) rfl 0 rfl ?_
        refine zx_aload_n (i := 1) (zd me_X7_readLines 16 rfl) rfl 1 rfl ?_
        refine zx_callVI1 (zd me_X7_readLines 17 rfl) (mc_X7_readLine (zl C) h0 h1 M6) lk_X7_73 ⟨(Nat.le_of_ble_eq_true rfl), (Nat.le_of_ble_eq_true rfl)⟩ (Nat.le_of_ble_eq_true rfl) (zi7_c h0) rfl (fun r10 M9 => ?_)
        refine zx_if_eq (tgt := 46) (zd me_X7_readLines 18 rfl) (by decide) (fun c11 => ?_) (fun c11 => ?_)
        · refine zx_iconst (v := (-1)) (zd me_X7_readLines 23 rfl) (by decide) ?_
          exact zx_iret (zd me_X7_readLines 24 rfl) rfl
        · refine zx_aload_n (i := 1) (zd me_X7_readLines 19 rfl) rfl 1 rfl ?_
          refine zx_bipush (v := 59) (zd me_X7_readLines 20 rfl) (by decide) ?_
          refine zx_callVI1 (zd me_X7_readLines 21 rfl) (mc_X10_passSign (zl C) h1 (59 : Int32) M9) lk_X7_77 ⟨(Nat.le_of_ble_eq_true rfl), (Nat.le_of_ble_eq_true rfl)⟩ (Nat.le_of_ble_eq_true rfl) (zi10_c h1) rfl (fun r13 M12 => ?_)
          refine zx_if_ne (tgt := 48) (zd me_X7_readLines 22 rfl) (by decide) (fun c14 => ?_) (fun c14 => ?_)
          · refine zx_iinc (v := 1) (ls' := [(2, .int (i2 + 1)), (0, .ref a0), (1, .ref a1)]) (zd me_X7_readLines 25 rfl) (Nat.le_of_ble_eq_true rfl) 2 rfl (by decide) rfl ?_
            refine zx_goto (tgt := 13) (zd me_X7_readLines 26 rfl) (by decide) ?_
            refine zx_loc [1, 2, 0] rfl ?_
            exact ih (i2 + 1) M12
          · refine zx_iconst (v := (-1)) (zd me_X7_readLines 23 rfl) (by decide) ?_
            exact zx_iret (zd me_X7_readLines 24 rfl) rfl
      · refine zx_iload_n (i := 2) (zd me_X7_readLines 13 rfl) rfl 2 rfl ?_
        exact zx_iret (zd me_X7_readLines 14 rfl) rfl
def mf_X7_readLines (R : zRR) (a0 : Nat) (a1 : Nat) (M : zMem) : Option (Int32 × zMem) :=
  zcl (mf_X7_wipe R a0 M) fun _ M1 =>
  zcl (mf_X10_begin R a1 (900 : Int32) M1) fun _ M3 =>
  mf_X7_readLines_l13 R a0 a1 zF (0 : Int32) M3
theorem mc_X7_readLines (l : Launch) {T : zTT} {R : zRR} {a0 : Nat} {a1 : Nat} (h0 : zi7 T R a0) (h1 : zi10 T R a1) (M : zMem) : zMS l yX7_readLines mi_X7_readLines zrvI (mf_X7_readLines R a0 a1 M) [.ref a0, .ref a1] T R M := by
  refine zMS.of (by decide +kernel) rfl ⟨rfl, rfl⟩ (Nat.le_of_ble_eq_true rfl) (fun C ad _ => ?_)
  show zX C mi_X7_readLines (zFin C zrvI ad T R) 0 0 (mf_X7_readLines R a0 a1 M) 0 [(0, .ref a0), (1, .ref a1)] [] ad T R M
  unfold mf_X7_readLines
  refine zx_aload_n (i := 0) (zd me_X7_readLines 0 rfl) rfl 0 rfl ?_
  refine zx_callVV0 (zd me_X7_readLines 1 rfl) (mc_X7_wipe (zl C) h0 M) lk_X7_60 ⟨(Nat.le_of_ble_eq_true rfl), (Nat.le_of_ble_eq_true rfl)⟩ (Nat.le_of_ble_eq_true rfl) (zi7_c h0) rfl (fun r2 M1 => ?_)
  refine zx_aload_n (i := 1) (zd me_X7_readLines 2 rfl) rfl 1 rfl ?_
  refine zx_sipush (v := 900) (zd me_X7_readLines 3 rfl) (by decide) ?_
  refine zx_callVV1 (zd me_X7_readLines 4 rfl) (mc_X10_begin (zl C) h1 (900 : Int32) M1) lk_X7_63 ⟨(Nat.le_of_ble_eq_true rfl), (Nat.le_of_ble_eq_true rfl)⟩ (Nat.le_of_ble_eq_true rfl) (zi10_c h1) rfl (fun r4 M3 => ?_)
  refine zx_iconst (v := 0) (zd me_X7_readLines 5 rfl) (by decide) ?_
  refine zx_istore_n (i := 2) (ls' := [(2, .int (0 : Int32)), (0, .ref a0), (1, .ref a1)]) (zd me_X7_readLines 6 rfl) rfl (Nat.le_of_ble_eq_true rfl) rfl ?_
  refine zx_loc [1, 2, 0] rfl ?_
  exact mt_X7_readLines_l13 h0 h1 zF (0 : Int32) M3
def mf_X10_passComparing_b40 (R : zRR) (a0 : Nat) (i1 : Int32) (M : zMem) : Option (Int32 × zMem) :=
  zcl (mf_X10_next R a0 M) fun _ M13 =>
  some (i1, M13)
theorem mt_X10_passComparing_b40 {C : zCx} {ad : Nat → Nat} {T : zTT} {R : zRR} {a0 : Nat} (h0 : zi10 T R a0) (i1 : Int32) (M : zMem) : zX C mi_X10_passComparing (zFin C zrvI ad T R) 0 0 (mf_X10_passComparing_b40 R a0 i1 M) 40 [(0, .ref a0), (1, .int i1)] [] ad T R M := by
  unfold mf_X10_passComparing_b40
  refine zx_aload_n (i := 0) (zd me_X10_passComparing 21 rfl) rfl 0 rfl ?_
  refine zx_callVV0 (zd me_X10_passComparing 22 rfl) (mc_X10_next (zl C) h0 M) lk_X10_48 ⟨(Nat.le_of_ble_eq_true rfl), (Nat.le_of_ble_eq_true rfl)⟩ (Nat.le_of_ble_eq_true rfl) (zi10_c h0) rfl (fun r14 M13 => ?_)
  refine zx_iload_n (i := 1) (zd me_X10_passComparing 23 rfl) rfl 1 rfl ?_
  exact zx_iret (zd me_X10_passComparing 24 rfl) rfl
def mf_X10_passComparing (R : zRR) (a0 : Nat) (M : zMem) : Option (Int32 × zMem) :=
  zlet ((M.1 a0 6) : Int32) fun x1 =>
  zcl (mf_X10_isSign R a0 (60 : Int32) M) fun r3 M2 =>
  if r3 = 0 then
    (zcl (mf_X10_isSign R a0 (61 : Int32) M2) fun r6 M5 =>
    if r6 = 0 then
      (zcl (mf_X10_isSign R a0 (62 : Int32) M5) fun r9 M8 =>
      if r9 = 0 then
        (zcl (mf_X10_fail R a0 (1 : Int32) M8) fun r12 M11 =>
        some ((-1 : Int32), M11))
      else
        (mf_X10_passComparing_b40 R a0 x1 M8))
    else
      (mf_X10_passComparing_b40 R a0 x1 M5))
  else
    (mf_X10_passComparing_b40 R a0 x1 M2)
theorem mc_X10_passComparing (l : Launch) {T : zTT} {R : zRR} {a0 : Nat} (h0 : zi10 T R a0) (M : zMem) : zMS l yX10_passComparing mi_X10_passComparing zrvI (mf_X10_passComparing R a0 M) [.ref a0] T R M := by
  refine zMS.of (by decide +kernel) rfl ⟨rfl, rfl⟩ (Nat.le_of_ble_eq_true rfl) (fun C ad _ => ?_)
  show zX C mi_X10_passComparing (zFin C zrvI ad T R) 0 0 (mf_X10_passComparing R a0 M) 0 [(0, .ref a0)] [] ad T R M
  unfold mf_X10_passComparing
  refine zx_aload_n (i := 0) (zd me_X10_passComparing 0 rfl) rfl 0 rfl ?_
  refine zx_getI (zd me_X10_passComparing 1 rfl) fl_X10_64 (zi10_c h0) rfl ?_
  refine zx_leti (fun x1 => ?_)
  refine zx_istore_n (i := 1) (ls' := [(1, .int x1), (0, .ref a0)]) (zd me_X10_passComparing 2 rfl) rfl (Nat.le_of_ble_eq_true rfl) rfl ?_
  refine zx_aload_n (i := 0) (zd me_X10_passComparing 3 rfl) rfl 1 rfl ?_
  refine zx_bipush (v := 60) (zd me_X10_passComparing 4 rfl) (by decide) ?_
  refine zx_callVI1 (zd me_X10_passComparing 5 rfl) (mc_X10_isSign (zl C) h0 (60 : Int32) M) lk_X10_74 ⟨(Nat.le_of_ble_eq_true rfl), (Nat.le_of_ble_eq_true rfl)⟩ (Nat.le_of_ble_eq_true rfl) (zi10_c h0) rfl (fun r3 M2 => ?_)
  refine zx_if_ne (tgt := 40) (zd me_X10_passComparing 6 rfl) (by decide) (fun c4 => ?_) (fun c4 => ?_)
  · refine zx_loc [1, 0] rfl ?_
    exact mt_X10_passComparing_b40 h0 x1 M2
  · refine zx_aload_n (i := 0) (zd me_X10_passComparing 7 rfl) rfl 1 rfl ?_
    refine zx_bipush (v := 61) (zd me_X10_passComparing 8 rfl) (by decide) ?_
    refine zx_callVI1 (zd me_X10_passComparing 9 rfl) (mc_X10_isSign (zl C) h0 (61 : Int32) M2) lk_X10_74 ⟨(Nat.le_of_ble_eq_true rfl), (Nat.le_of_ble_eq_true rfl)⟩ (Nat.le_of_ble_eq_true rfl) (zi10_c h0) rfl (fun r6 M5 => ?_)
    refine zx_if_ne (tgt := 40) (zd me_X10_passComparing 10 rfl) (by decide) (fun c7 => ?_) (fun c7 => ?_)
    · refine zx_loc [1, 0] rfl ?_
      exact mt_X10_passComparing_b40 h0 x1 M5
    · refine zx_aload_n (i := 0) (zd me_X10_passComparing 11 rfl) rfl 1 rfl ?_
      refine zx_bipush (v := 62) (zd me_X10_passComparing 12 rfl) (by decide) ?_
      refine zx_callVI1 (zd me_X10_passComparing 13 rfl) (mc_X10_isSign (zl C) h0 (62 : Int32) M5) lk_X10_74 ⟨(Nat.le_of_ble_eq_true rfl), (Nat.le_of_ble_eq_true rfl)⟩ (Nat.le_of_ble_eq_true rfl) (zi10_c h0) rfl (fun r9 M8 => ?_)
      refine zx_if_ne (tgt := 40) (zd me_X10_passComparing 14 rfl) (by decide) (fun c10 => ?_) (fun c10 => ?_)
      · refine zx_loc [1, 0] rfl ?_
        exact mt_X10_passComparing_b40 h0 x1 M8
      · refine zx_aload_n (i := 0) (zd me_X10_passComparing 15 rfl) rfl 1 rfl ?_
        refine zx_iconst (v := 1) (zd me_X10_passComparing 16 rfl) (by decide) ?_
        refine zx_callVI1 (zd me_X10_passComparing 17 rfl) (mc_X10_fail (zl C) h0 (1 : Int32) M8) lk_X10_77 ⟨(Nat.le_of_ble_eq_true rfl), (Nat.le_of_ble_eq_true rfl)⟩ (Nat.le_of_ble_eq_true rfl) (zi10_c h0) rfl (fun r12 M11 => ?_)
        refine zx_pop (zd me_X10_passComparing 18 rfl) rfl ?_
        refine zx_iconst (v := (-1)) (zd me_X10_passComparing 19 rfl) (by decide) ?_
        exact zx_iret (zd me_X10_passComparing 20 rfl) rfl
def mf_X10_addNumber_l3 (R : zRR) (a0 : Nat) : Nat → Int32 → Int32 → zMem → Option (Unit × zMem)
  | 0, _, _, _ => none
  | fuel + 1, i1, i2, M =>
    if i2 < 0 then
      (some ((), M))
    else
      (if (940 : Int32) ≤ (M.1 a0 1) then
        (some ((), M))
      else
        (zald 940 (M.1 a0 1) fun j3 =>
        zlet (zwI M (zrf R a0 0) j3 ((i1.toUInt32 >>> (i2.toUInt32 &&& Int32.toUInt32 31)).toInt32 &&& (255 : Int32))) fun M4 =>
        zlet (zwI M4 a0 1 ((M4.1 a0 1) + (1 : Int32))) fun M5 =>
        mf_X10_addNumber_l3 R a0 fuel i1 (i2 + (-8)) M5))
theorem mt_X10_addNumber_l3 {C : zCx} {ad : Nat → Nat} {T : zTT} {R : zRR} {a0 : Nat} (h0 : zi10 T R a0) : ∀ (fuel : Nat) (i1 : Int32) (i2 : Int32) (M : zMem), zX C mi_X10_addNumber (zFin C zrvV ad T R) 0 0 (mf_X10_addNumber_l3 R a0 fuel i1 i2 M) 3 [(0, .ref a0), (1, .int i1), (2, .int i2)] [] ad T R M := by
  intro fuel
  induction fuel with
  | zero => intros; exact zx_none
  | succ fuel ih =>
    intro i1 i2 M
    rw [mf_X10_addNumber_l3]
    refine zx_iload_n (i := 2) (zd me_X10_addNumber 2 rfl) rfl 2 rfl ?_
    refine zx_if_lt (tgt := 49) (zd me_X10_addNumber 3 rfl) (by decide) (fun c1 => ?_) (fun c1 => ?_)
    · exact zx_vret (zd me_X10_addNumber 26 rfl) rfl
    · refine zx_aload_n (i := 0) (zd me_X10_addNumber 4 rfl) rfl 0 rfl ?_
      refine zx_getI (zd me_X10_addNumber 5 rfl) fl_X10_33 (zi10_c h0) rfl ?_
      refine zx_sipush (v := 940) (zd me_X10_addNumber 6 rfl) (by decide) ?_
      refine zx_icmp_ge (tgt := 49) (zd me_X10_addNumber 7 rfl) (by decide) (fun c2 => ?_) (fun c2 => ?_)
      · exact zx_vret (zd me_X10_addNumber 26 rfl) rfl
      · refine zx_aload_n (i := 0) (zd me_X10_addNumber 8 rfl) rfl 0 rfl ?_
        refine zx_getR (zd me_X10_addNumber 9 rfl) fl_X10_11 (zi10_c h0) rfl (zi10_r0 h0) ?_
        refine zx_aload_n (i := 0) (zd me_X10_addNumber 10 rfl) rfl 0 rfl ?_
        refine zx_getI (zd me_X10_addNumber 11 rfl) fl_X10_33 (zi10_c h0) rfl ?_
        refine zx_iload_n (i := 1) (zd me_X10_addNumber 12 rfl) rfl 1 rfl ?_
        refine zx_iload_n (i := 2) (zd me_X10_addNumber 13 rfl) rfl 2 rfl ?_
        refine zx_iushr (zd me_X10_addNumber 14 rfl) ?_
        refine zx_sipush (v := 255) (zd me_X10_addNumber 15 rfl) (by decide) ?_
        refine zx_iand (zd me_X10_addNumber 16 rfl) ?_
        refine zx_iast (zd me_X10_addNumber 17 rfl) (zi10_t0 h0) (fun M4 => ?_)
        refine zx_aload_n (i := 0) (zd me_X10_addNumber 18 rfl) rfl 0 rfl ?_
        refine zx_dup (zd me_X10_addNumber 19 rfl) rfl ?_
        refine zx_getI (zd me_X10_addNumber 20 rfl) fl_X10_33 (zi10_c h0) rfl ?_
        refine zx_iconst (v := 1) (zd me_X10_addNumber 21 rfl) (by decide) ?_
        refine zx_iadd (zd me_X10_addNumber 22 rfl) ?_
        refine zx_putI (zd me_X10_addNumber 23 rfl) fp_X10_33 (zi10_c h0) rfl (fun M5 _ => ?_)
        refine zx_iinc (v := (-8)) (ls' := [(2, .int (i2 + (-8))), (0, .ref a0), (1, .int i1)]) (zd me_X10_addNumber 24 rfl) (Nat.le_of_ble_eq_true rfl) 2 rfl (by decide) rfl ?_
        refine zx_goto (tgt := 3) (zd me_X10_addNumber 25 rfl) (by decide) ?_
        refine zx_loc [1, 2, 0] rfl ?_
        exact ih i1 (i2 + (-8)) M5
def mf_X10_addNumber (R : zRR) (a0 : Nat) (i1 : Int32) (M : zMem) : Option (Unit × zMem) :=
  mf_X10_addNumber_l3 R a0 zF i1 (24 : Int32) M
theorem mc_X10_addNumber (l : Launch) {T : zTT} {R : zRR} {a0 : Nat} (h0 : zi10 T R a0) (i1 : Int32) (M : zMem) : zMS l yX10_addNumber mi_X10_addNumber zrvV (mf_X10_addNumber R a0 i1 M) [.ref a0, .int i1] T R M := by
  refine zMS.of (by decide +kernel) rfl ⟨rfl, rfl⟩ (Nat.le_of_ble_eq_true rfl) (fun C ad _ => ?_)
  show zX C mi_X10_addNumber (zFin C zrvV ad T R) 0 0 (mf_X10_addNumber R a0 i1 M) 0 [(0, .ref a0), (1, .int i1)] [] ad T R M
  unfold mf_X10_addNumber
  refine zx_bipush (v := 24) (zd me_X10_addNumber 0 rfl) (by decide) ?_
  refine zx_istore_n (i := 2) (ls' := [(2, .int (24 : Int32)), (0, .ref a0), (1, .int i1)]) (zd me_X10_addNumber 1 rfl) rfl (Nat.le_of_ble_eq_true rfl) rfl ?_
  refine zx_loc [1, 2, 0] rfl ?_
  exact mt_X10_addNumber_l3 h0 zF i1 (24 : Int32) M
