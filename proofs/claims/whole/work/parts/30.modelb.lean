def mf_X12_readPaper_l33 (R : zRR) (a0 : Nat) : Nat → Int32 → Int32 → zMem → Option (Int32 × zMem)
  | 0, _, _, _ => none
  | fuel + 1, i1, i2, M =>
    zald 56 (0 : Int32) fun j9 =>
    if (M.1 (zrf R a0 15) j9) ≤ i2 then
      (zald 56 (1 : Int32) fun j11 =>
      zald 56 (1 : Int32) fun j12 =>
      zlet (zwI M (zrf R a0 15) j12 ((M.1 (zrf R a0 15) j11) + (1 : Int32))) fun M13 =>
      some ((1 : Int32), M13))
    else
      (zcl (mf_X12_readNumber R a0 (0 : Int32) (30 : Int32) M) fun r15 M14 =>
      zcl (mf_X12_put R a0 (((18 : Int32) + ((6 : Int32) * i1)) + i2) r15 M14) fun r17 M16 =>
      if r17 = 0 then
        (some ((0 : Int32), M16))
      else
        (mf_X12_readPaper_l33 R a0 fuel i1 (i2 + 1) M16))
theorem mt_X12_readPaper_l33 {C : zCx} {ad : Nat → Nat} {T : zTT} {R : zRR} {a0 : Nat} (h0 : zi12 T R a0) : ∀ (fuel : Nat) (i1 : Int32) (i2 : Int32) (M : zMem), zX C mi_X12_readPaper (zFin C zrvI ad T R) 0 0 (mf_X12_readPaper_l33 R a0 fuel i1 i2 M) 33 [(0, .ref a0), (1, .int i1), (2, .int i2)] [] ad T R M := by
  intro fuel
  induction fuel with
  | zero => intros; exact zx_none
  | succ fuel ih =>
    intro i1 i2 M
    rw [mf_X12_readPaper_l33]
    refine zx_iload_n (i := 2) (zd me_X12_readPaper 22 rfl) rfl 2 rfl ?_
    refine zx_aload_n (i := 0) (zd me_X12_readPaper 23 rfl) rfl 0 rfl ?_
    refine zx_getR (zd me_X12_readPaper 24 rfl) fl_X12_101 (zi12_c h0) rfl (zi12_r15 h0) ?_
    refine zx_iconst (v := 0) (zd me_X12_readPaper 25 rfl) (by decide) ?_
    refine zx_iald (zd me_X12_readPaper 26 rfl) (zi12_t15 h0) (fun j9 hj9 => ?_)
    refine zx_icmp_ge (tgt := 74) (zd me_X12_readPaper 27 rfl) (by decide) (fun c10 => ?_) (fun c10 => ?_)
    · refine zx_aload_n (i := 0) (zd me_X12_readPaper 46 rfl) rfl 0 rfl ?_
      refine zx_getR (zd me_X12_readPaper 47 rfl) fl_X12_101 (zi12_c h0) rfl (zi12_r15 h0) ?_
      refine zx_iconst (v := 1) (zd me_X12_readPaper 48 rfl) (by decide) ?_
      refine zx_dup2 (zd me_X12_readPaper 49 rfl) rfl rfl ?_
      refine zx_iald (zd me_X12_readPaper 50 rfl) (zi12_t15 h0) (fun j11 hj11 => ?_)
      refine zx_iconst (v := 1) (zd me_X12_readPaper 51 rfl) (by decide) ?_
      refine zx_iadd (zd me_X12_readPaper 52 rfl) ?_
      refine zx_iast (zd me_X12_readPaper 53 rfl) (zi12_t15 h0) (fun M13 => ?_)
      refine zx_iconst (v := 1) (zd me_X12_readPaper 54 rfl) (by decide) ?_
      exact zx_zret (zd me_X12_readPaper 55 rfl) rfl rfl
    · refine zx_aload_n (i := 0) (zd me_X12_readPaper 28 rfl) rfl 0 rfl ?_
      refine zx_bipush (v := 18) (zd me_X12_readPaper 29 rfl) (by decide) ?_
      refine zx_bipush (v := 6) (zd me_X12_readPaper 30 rfl) (by decide) ?_
      refine zx_iload_n (i := 1) (zd me_X12_readPaper 31 rfl) rfl 1 rfl ?_
      refine zx_imul (zd me_X12_readPaper 32 rfl) ?_
      refine zx_iadd (zd me_X12_readPaper 33 rfl) ?_
      refine zx_iload_n (i := 2) (zd me_X12_readPaper 34 rfl) rfl 2 rfl ?_
      refine zx_iadd (zd me_X12_readPaper 35 rfl) ?_
      refine zx_aload_n (i := 0) (zd me_X12_readPaper 36 rfl) rfl 0 rfl ?_
      refine zx_iconst (v := 0) (zd me_X12_readPaper 37 rfl) (by decide) ?_
      refine zx_bipush (v := 30) (zd me_X12_readPaper 38 rfl) (by decide) ?_
      refine zx_callVI2 (zd me_X12_readPaper 39 rfl) (mc_X12_readNumber (zl C) h0 (0 : Int32) (30 : Int32) M) lk_X12_190 ⟨(Nat.le_of_ble_eq_true rfl), (Nat.le_of_ble_eq_true rfl)⟩ (Nat.le_of_ble_eq_true rfl) (zi12_c h0) rfl (fun r15 M14 => ?_)
      refine zx_callVI2 (zd me_X12_readPaper 40 rfl) (mc_X12_put (zl C) h0 (((18 : Int32) + ((6 : Int32) * i1)) + i2) r15 M14) lk_X12_193 ⟨(Nat.le_of_ble_eq_true rfl), (Nat.le_of_ble_eq_true rfl)⟩ (Nat.le_of_ble_eq_true rfl) (zi12_c h0) rfl (fun r17 M16 => ?_)
      refine zx_if_ne (tgt := 68) (zd me_X12_readPaper 41 rfl) (by decide) (fun c18 => ?_) (fun c18 => ?_)
      · refine zx_iinc (v := 1) (ls' := [(2, .int (i2 + 1)), (0, .ref a0), (1, .int i1)]) (zd me_X12_readPaper 44 rfl) (Nat.le_of_ble_eq_true rfl) 2 rfl (by decide) rfl ?_
        refine zx_goto (tgt := 33) (zd me_X12_readPaper 45 rfl) (by decide) ?_
        refine zx_loc [1, 2, 0] rfl ?_
        exact ih i1 (i2 + 1) M16
      · refine zx_iconst (v := 0) (zd me_X12_readPaper 42 rfl) (by decide) ?_
        exact zx_zret (zd me_X12_readPaper 43 rfl) rfl rfl
def mf_X12_readPaper (R : zRR) (a0 : Nat) (M : zMem) : Option (Int32 × zMem) :=
  zcl (mf_X12_readFirst R a0 (1 : Int32) (5 : Int32) M) fun r2 M1 =>
  if r2 = 0 then
    (some ((0 : Int32), M1))
  else
    (zald 56 (1 : Int32) fun j4 =>
    zlet ((M1.1 (zrf R a0 15) j4) : Int32) fun x5 =>
    zcl (mf_X12_readNew R a0 ((6 : Int32) + x5) M1) fun r7 M6 =>
    if r7 = 0 then
      (some ((0 : Int32), M6))
    else
      (mf_X12_readPaper_l33 R a0 zF x5 (0 : Int32) M6))
theorem mc_X12_readPaper (l : Launch) {T : zTT} {R : zRR} {a0 : Nat} (h0 : zi12 T R a0) (M : zMem) : zMS l yX12_readPaper mi_X12_readPaper zrvI (mf_X12_readPaper R a0 M) [.ref a0] T R M := by
  refine zMS.of (by decide +kernel) rfl ⟨rfl, rfl⟩ (Nat.le_of_ble_eq_true rfl) (fun C ad _ => ?_)
  show zX C mi_X12_readPaper (zFin C zrvI ad T R) 0 0 (mf_X12_readPaper R a0 M) 0 [(0, .ref a0)] [] ad T R M
  unfold mf_X12_readPaper
  refine zx_aload_n (i := 0) (zd me_X12_readPaper 0 rfl) rfl 0 rfl ?_
  refine zx_iconst (v := 1) (zd me_X12_readPaper 1 rfl) (by decide) ?_
  refine zx_iconst (v := 5) (zd me_X12_readPaper 2 rfl) (by decide) ?_
  refine zx_callVI2 (zd me_X12_readPaper 3 rfl) (mc_X12_readFirst (zl C) h0 (1 : Int32) (5 : Int32) M) lk_X12_183 ⟨(Nat.le_of_ble_eq_true rfl), (Nat.le_of_ble_eq_true rfl)⟩ (Nat.le_of_ble_eq_true rfl) (zi12_c h0) rfl (fun r2 M1 => ?_)
  refine zx_if_ne (tgt := 11) (zd me_X12_readPaper 4 rfl) (by decide) (fun c3 => ?_) (fun c3 => ?_)
  · refine zx_aload_n (i := 0) (zd me_X12_readPaper 7 rfl) rfl 0 rfl ?_
    refine zx_getR (zd me_X12_readPaper 8 rfl) fl_X12_101 (zi12_c h0) rfl (zi12_r15 h0) ?_
    refine zx_iconst (v := 1) (zd me_X12_readPaper 9 rfl) (by decide) ?_
    refine zx_iald (zd me_X12_readPaper 10 rfl) (zi12_t15 h0) (fun j4 hj4 => ?_)
    refine zx_leti (fun x5 => ?_)
    refine zx_istore_n (i := 1) (ls' := [(1, .int x5), (0, .ref a0)]) (zd me_X12_readPaper 11 rfl) rfl (Nat.le_of_ble_eq_true rfl) rfl ?_
    refine zx_aload_n (i := 0) (zd me_X12_readPaper 12 rfl) rfl 1 rfl ?_
    refine zx_bipush (v := 6) (zd me_X12_readPaper 13 rfl) (by decide) ?_
    refine zx_iload_n (i := 1) (zd me_X12_readPaper 14 rfl) rfl 0 rfl ?_
    refine zx_iadd (zd me_X12_readPaper 15 rfl) ?_
    refine zx_callVI1 (zd me_X12_readPaper 16 rfl) (mc_X12_readNew (zl C) h0 ((6 : Int32) + x5) M1) lk_X12_187 ⟨(Nat.le_of_ble_eq_true rfl), (Nat.le_of_ble_eq_true rfl)⟩ (Nat.le_of_ble_eq_true rfl) (zi12_c h0) rfl (fun r7 M6 => ?_)
    refine zx_if_ne (tgt := 31) (zd me_X12_readPaper 17 rfl) (by decide) (fun c8 => ?_) (fun c8 => ?_)
    · refine zx_iconst (v := 0) (zd me_X12_readPaper 20 rfl) (by decide) ?_
      refine zx_istore_n (i := 2) (ls' := [(2, .int (0 : Int32)), (1, .int x5), (0, .ref a0)]) (zd me_X12_readPaper 21 rfl) rfl (Nat.le_of_ble_eq_true rfl) rfl ?_
      refine zx_loc [2, 1, 0] rfl ?_
      exact mt_X12_readPaper_l33 h0 zF x5 (0 : Int32) M6
    · refine zx_iconst (v := 0) (zd me_X12_readPaper 18 rfl) (by decide) ?_
      exact zx_zret (zd me_X12_readPaper 19 rfl) rfl rfl
  · refine zx_iconst (v := 0) (zd me_X12_readPaper 5 rfl) (by decide) ?_
    exact zx_zret (zd me_X12_readPaper 6 rfl) rfl rfl
def mf_X12_readSheet (R : zRR) (a0 : Nat) (M : zMem) : Option (Int32 × zMem) :=
  zcl (mf_X12_readFirst R a0 (2 : Int32) (8 : Int32) M) fun r2 M1 =>
  if r2 = 0 then
    (some ((0 : Int32), M1))
  else
    (zald 56 (2 : Int32) fun j4 =>
    zlet ((M1.1 (zrf R a0 15) j4) : Int32) fun x5 =>
    zcl (mf_X12_readNew R a0 ((11 : Int32) + x5) M1) fun r7 M6 =>
    if r7 = 0 then
      (some ((0 : Int32), M6))
    else
      (zcl (mf_X12_isName R a0 M6) fun r10 M9 =>
      if r10 = 0 then
        (zcl (mf_X12_bad R a0 (1 : Int32) M9) fun r26 M25 =>
        zchk (r26 = 0 ∨ r26 = 1) (some (r26, M25)))
      else
        (zald 56 (1 : Int32) fun j12 =>
        zcl (mf_X12_findIn R (zrf R a0 22) 19 (6 : Int32) (M9.1 (zrf R a0 15) j12) (M9.2 a0 12) M9) fun r14 M13 =>
        if r14 = (-1 : Int32) then
          (zcl (mf_X12_bad R a0 (3 : Int32) M13) fun r24 M23 =>
          zchk (r24 = 0 ∨ r24 = 1) (some (r24, M23)))
        else
          (zcl (mf_X12_go R a0 M13) fun _ M16 =>
          zald 56 ((48 : Int32) + x5) fun j18 =>
          zlet (zwI M16 (zrf R a0 15) j18 r14) fun M19 =>
          zald 56 (2 : Int32) fun j20 =>
          zald 56 (2 : Int32) fun j21 =>
          zlet (zwI M19 (zrf R a0 15) j21 ((M19.1 (zrf R a0 15) j20) + (1 : Int32))) fun M22 =>
          some ((1 : Int32), M22)))))
theorem mc_X12_readSheet (l : Launch) {T : zTT} {R : zRR} {a0 : Nat} (h0 : zi12 T R a0) (M : zMem) : zMS l yX12_readSheet mi_X12_readSheet zrvI (mf_X12_readSheet R a0 M) [.ref a0] T R M := by
  refine zMS.of (by decide +kernel) rfl ⟨rfl, rfl⟩ (Nat.le_of_ble_eq_true rfl) (fun C ad _ => ?_)
  show zX C mi_X12_readSheet (zFin C zrvI ad T R) 0 0 (mf_X12_readSheet R a0 M) 0 [(0, .ref a0)] [] ad T R M
  unfold mf_X12_readSheet
  refine zx_aload_n (i := 0) (zd me_X12_readSheet 0 rfl) rfl 0 rfl ?_
  refine zx_iconst (v := 2) (zd me_X12_readSheet 1 rfl) (by decide) ?_
  refine zx_bipush (v := 8) (zd me_X12_readSheet 2 rfl) (by decide) ?_
  refine zx_callVI2 (zd me_X12_readSheet 3 rfl) (mc_X12_readFirst (zl C) h0 (2 : Int32) (8 : Int32) M) lk_X12_183 ⟨(Nat.le_of_ble_eq_true rfl), (Nat.le_of_ble_eq_true rfl)⟩ (Nat.le_of_ble_eq_true rfl) (zi12_c h0) rfl (fun r2 M1 => ?_)
  refine zx_if_ne (tgt := 12) (zd me_X12_readSheet 4 rfl) (by decide) (fun c3 => ?_) (fun c3 => ?_)
  · refine zx_aload_n (i := 0) (zd me_X12_readSheet 7 rfl) rfl 0 rfl ?_
    refine zx_getR (zd me_X12_readSheet 8 rfl) fl_X12_101 (zi12_c h0) rfl (zi12_r15 h0) ?_
    refine zx_iconst (v := 2) (zd me_X12_readSheet 9 rfl) (by decide) ?_
    refine zx_iald (zd me_X12_readSheet 10 rfl) (zi12_t15 h0) (fun j4 hj4 => ?_)
    refine zx_leti (fun x5 => ?_)
    refine zx_istore_n (i := 1) (ls' := [(1, .int x5), (0, .ref a0)]) (zd me_X12_readSheet 11 rfl) rfl (Nat.le_of_ble_eq_true rfl) rfl ?_
    refine zx_aload_n (i := 0) (zd me_X12_readSheet 12 rfl) rfl 1 rfl ?_
    refine zx_bipush (v := 11) (zd me_X12_readSheet 13 rfl) (by decide) ?_
    refine zx_iload_n (i := 1) (zd me_X12_readSheet 14 rfl) rfl 0 rfl ?_
    refine zx_iadd (zd me_X12_readSheet 15 rfl) ?_
    refine zx_callVI1 (zd me_X12_readSheet 16 rfl) (mc_X12_readNew (zl C) h0 ((11 : Int32) + x5) M1) lk_X12_187 ⟨(Nat.le_of_ble_eq_true rfl), (Nat.le_of_ble_eq_true rfl)⟩ (Nat.le_of_ble_eq_true rfl) (zi12_c h0) rfl (fun r7 M6 => ?_)
    refine zx_if_ne (tgt := 32) (zd me_X12_readSheet 17 rfl) (by decide) (fun c8 => ?_) (fun c8 => ?_)
    · refine zx_aload_n (i := 0) (zd me_X12_readSheet 20 rfl) rfl 1 rfl ?_
      refine zx_callVI0 (zd me_X12_readSheet 21 rfl) (mc_X12_isName (zl C) h0 M6) lk_X12_175 ⟨(Nat.le_of_ble_eq_true rfl), (Nat.le_of_ble_eq_true rfl)⟩ (Nat.le_of_ble_eq_true rfl) (zi12_c h0) rfl (fun r10 M9 => ?_)
      refine zx_if_ne (tgt := 45) (zd me_X12_readSheet 22 rfl) (by decide) (fun c11 => ?_) (fun c11 => ?_)
      · refine zx_aload_n (i := 0) (zd me_X12_readSheet 27 rfl) rfl 1 rfl ?_
        refine zx_getR (zd me_X12_readSheet 28 rfl) fl_X12_123 (zi12_c h0) rfl (zi12_r22 h0) ?_
        refine zx_bipush (v := 6) (zd me_X12_readSheet 29 rfl) (by decide) ?_
        refine zx_aload_n (i := 0) (zd me_X12_readSheet 30 rfl) rfl 1 rfl ?_
        refine zx_getR (zd me_X12_readSheet 31 rfl) fl_X12_101 (zi12_c h0) rfl (zi12_r15 h0) ?_
        refine zx_iconst (v := 1) (zd me_X12_readSheet 32 rfl) (by decide) ?_
        refine zx_iald (zd me_X12_readSheet 33 rfl) (zi12_t15 h0) (fun j12 hj12 => ?_)
        refine zx_aload_n (i := 0) (zd me_X12_readSheet 34 rfl) rfl 1 rfl ?_
        refine zx_getL (zd me_X12_readSheet 35 rfl) fl_X12_43 (zi12_c h0) rfl ?_
        refine zx_callSI4 (zd me_X12_readSheet 36 rfl) (mc_X12_findIn (zl C) (zi12_t22 h0) (6 : Int32) (M9.1 (zrf R a0 15) j12) (M9.2 a0 12) M9) lk_X12_179 ⟨(Nat.le_of_ble_eq_true rfl), (Nat.le_of_ble_eq_true rfl)⟩ (Nat.le_of_ble_eq_true rfl) (fun r14 M13 => ?_)
        refine zx_istore_n (i := 2) (ls' := [(2, .int r14), (1, .int x5), (0, .ref a0)]) (zd me_X12_readSheet 37 rfl) rfl (Nat.le_of_ble_eq_true rfl) rfl ?_
        refine zx_iload_n (i := 2) (zd me_X12_readSheet 38 rfl) rfl 0 rfl ?_
        refine zx_iconst (v := (-1)) (zd me_X12_readSheet 39 rfl) (by decide) ?_
        refine zx_icmp_ne (tgt := 76) (zd me_X12_readSheet 40 rfl) (by decide) (fun c15 => ?_) (fun c15 => ?_)
        · refine zx_aload_n (i := 0) (zd me_X12_readSheet 45 rfl) rfl 2 rfl ?_
          refine zx_callVV0 (zd me_X12_readSheet 46 rfl) (mc_X12_go (zl C) h0 M13) lk_X12_82 ⟨(Nat.le_of_ble_eq_true rfl), (Nat.le_of_ble_eq_true rfl)⟩ (Nat.le_of_ble_eq_true rfl) (zi12_c h0) rfl (fun r17 M16 => ?_)
          refine zx_aload_n (i := 0) (zd me_X12_readSheet 47 rfl) rfl 2 rfl ?_
          refine zx_getR (zd me_X12_readSheet 48 rfl) fl_X12_101 (zi12_c h0) rfl (zi12_r15 h0) ?_
          refine zx_bipush (v := 48) (zd me_X12_readSheet 49 rfl) (by decide) ?_
          refine zx_iload_n (i := 1) (zd me_X12_readSheet 50 rfl) rfl 1 rfl ?_
          refine zx_iadd (zd me_X12_readSheet 51 rfl) ?_
          refine zx_iload_n (i := 2) (zd me_X12_readSheet 52 rfl) rfl 0 rfl ?_
          refine zx_iast (zd me_X12_readSheet 53 rfl) (zi12_t15 h0) (fun M19 => ?_)
          refine zx_aload_n (i := 0) (zd me_X12_readSheet 54 rfl) rfl 2 rfl ?_
          refine zx_getR (zd me_X12_readSheet 55 rfl) fl_X12_101 (zi12_c h0) rfl (zi12_r15 h0) ?_
          refine zx_iconst (v := 2) (zd me_X12_readSheet 56 rfl) (by decide) ?_
          refine zx_dup2 (zd me_X12_readSheet 57 rfl) rfl rfl ?_
          refine zx_iald (zd me_X12_readSheet 58 rfl) (zi12_t15 h0) (fun j20 hj20 => ?_)
          refine zx_iconst (v := 1) (zd me_X12_readSheet 59 rfl) (by decide) ?_
          refine zx_iadd (zd me_X12_readSheet 60 rfl) ?_
          refine zx_iast (zd me_X12_readSheet 61 rfl) (zi12_t15 h0) (fun M22 => ?_)
          refine zx_iconst (v := 1) (zd me_X12_readSheet 62 rfl) (by decide) ?_
          exact zx_zret (zd me_X12_readSheet 63 rfl) rfl rfl
        · refine zx_aload_n (i := 0) (zd me_X12_readSheet 41 rfl) rfl 2 rfl ?_
          refine zx_iconst (v := 3) (zd me_X12_readSheet 42 rfl) (by decide) ?_
          refine zx_callVI1 (zd me_X12_readSheet 43 rfl) (mc_X12_bad (zl C) h0 (3 : Int32) M13) lk_X12_72 ⟨(Nat.le_of_ble_eq_true rfl), (Nat.le_of_ble_eq_true rfl)⟩ (Nat.le_of_ble_eq_true rfl) (zi12_c h0) rfl (fun r24 M23 => ?_)
          exact zx_zretC (zd me_X12_readSheet 44 rfl) rfl
      · refine zx_aload_n (i := 0) (zd me_X12_readSheet 23 rfl) rfl 1 rfl ?_
        refine zx_iconst (v := 1) (zd me_X12_readSheet 24 rfl) (by decide) ?_
        refine zx_callVI1 (zd me_X12_readSheet 25 rfl) (mc_X12_bad (zl C) h0 (1 : Int32) M9) lk_X12_72 ⟨(Nat.le_of_ble_eq_true rfl), (Nat.le_of_ble_eq_true rfl)⟩ (Nat.le_of_ble_eq_true rfl) (zi12_c h0) rfl (fun r26 M25 => ?_)
        exact zx_zretC (zd me_X12_readSheet 26 rfl) rfl
    · refine zx_iconst (v := 0) (zd me_X12_readSheet 18 rfl) (by decide) ?_
      exact zx_zret (zd me_X12_readSheet 19 rfl) rfl rfl
  · refine zx_iconst (v := 0) (zd me_X12_readSheet 5 rfl) (by decide) ?_
    exact zx_zret (zd me_X12_readSheet 6 rfl) rfl rfl
def mf_X12_readOnce (R : zRR) (a0 : Nat) (i1 : Int32) (i2 : Int32) (M : zMem) : Option (Int32 × zMem) :=
  zcl (mf_X12_has R (M.1 a0 25) i1 M) fun r2 M1 =>
  if r2 = 0 then
    (zlet (zwI M1 a0 25 ((M1.1 a0 25) ||| ((1 : Int32) <<< (i1 &&& 31)))) fun M4 =>
    zcl (mf_X12_go R a0 M4) fun _ M5 =>
    zcl (mf_X12_readNumber R a0 (0 : Int32) i2 M5) fun r8 M7 =>
    zcl (mf_X12_put R a0 i1 r8 M7) fun r10 M9 =>
    zchk (r10 = 0 ∨ r10 = 1) (some (r10, M9)))
  else
    (zcl (mf_X12_bad R a0 (3 : Int32) M1) fun r12 M11 =>
    zchk (r12 = 0 ∨ r12 = 1) (some (r12, M11)))
theorem mc_X12_readOnce (l : Launch) {T : zTT} {R : zRR} {a0 : Nat} (h0 : zi12 T R a0) (i1 : Int32) (i2 : Int32) (M : zMem) : zMS l yX12_readOnce mi_X12_readOnce zrvI (mf_X12_readOnce R a0 i1 i2 M) [.ref a0, .int i1, .int i2] T R M := by
  refine zMS.of (by decide +kernel) rfl ⟨rfl, rfl⟩ (Nat.le_of_ble_eq_true rfl) (fun C ad _ => ?_)
  show zX C mi_X12_readOnce (zFin C zrvI ad T R) 0 0 (mf_X12_readOnce R a0 i1 i2 M) 0 [(0, .ref a0), (1, .int i1), (2, .int i2)] [] ad T R M
  unfold mf_X12_readOnce
  refine zx_aload_n (i := 0) (zd me_X12_readOnce 0 rfl) rfl 0 rfl ?_
  refine zx_getI (zd me_X12_readOnce 1 rfl) fl_X12_197 (zi12_c h0) rfl ?_
  refine zx_iload_n (i := 1) (zd me_X12_readOnce 2 rfl) rfl 1 rfl ?_
  refine zx_callSI2 (zd me_X12_readOnce 3 rfl) (mc_X12_has (zl C) (M.1 a0 25) i1 M) lk_X12_200 ⟨(Nat.le_of_ble_eq_true rfl), (Nat.le_of_ble_eq_true rfl)⟩ (Nat.le_of_ble_eq_true rfl) (fun r2 M1 => ?_)
  refine zx_if_eq (tgt := 17) (zd me_X12_readOnce 4 rfl) (by decide) (fun c3 => ?_) (fun c3 => ?_)
  · refine zx_aload_n (i := 0) (zd me_X12_readOnce 9 rfl) rfl 0 rfl ?_
    refine zx_dup (zd me_X12_readOnce 10 rfl) rfl ?_
    refine zx_getI (zd me_X12_readOnce 11 rfl) fl_X12_197 (zi12_c h0) rfl ?_
    refine zx_iconst (v := 1) (zd me_X12_readOnce 12 rfl) (by decide) ?_
    refine zx_iload_n (i := 1) (zd me_X12_readOnce 13 rfl) rfl 1 rfl ?_
    refine zx_ishl (zd me_X12_readOnce 14 rfl) ?_
    refine zx_ior (zd me_X12_readOnce 15 rfl) ?_
    refine zx_putI (zd me_X12_readOnce 16 rfl) fp_X12_197 (zi12_c h0) rfl (fun M4 _ => ?_)
    refine zx_aload_n (i := 0) (zd me_X12_readOnce 17 rfl) rfl 0 rfl ?_
    refine zx_callVV0 (zd me_X12_readOnce 18 rfl) (mc_X12_go (zl C) h0 M4) lk_X12_82 ⟨(Nat.le_of_ble_eq_true rfl), (Nat.le_of_ble_eq_true rfl)⟩ (Nat.le_of_ble_eq_true rfl) (zi12_c h0) rfl (fun r6 M5 => ?_)
    refine zx_aload_n (i := 0) (zd me_X12_readOnce 19 rfl) rfl 0 rfl ?_
    refine zx_iload_n (i := 1) (zd me_X12_readOnce 20 rfl) rfl 1 rfl ?_
    refine zx_aload_n (i := 0) (zd me_X12_readOnce 21 rfl) rfl 0 rfl ?_
    refine zx_iconst (v := 0) (zd me_X12_readOnce 22 rfl) (by decide) ?_
    refine zx_iload_n (i := 2) (zd me_X12_readOnce 23 rfl) rfl 2 rfl ?_
    refine zx_callVI2 (zd me_X12_readOnce 24 rfl) (mc_X12_readNumber (zl C) h0 (0 : Int32) i2 M5) lk_X12_190 ⟨(Nat.le_of_ble_eq_true rfl), (Nat.le_of_ble_eq_true rfl)⟩ (Nat.le_of_ble_eq_true rfl) (zi12_c h0) rfl (fun r8 M7 => ?_)
    refine zx_callVI2 (zd me_X12_readOnce 25 rfl) (mc_X12_put (zl C) h0 i1 r8 M7) lk_X12_193 ⟨(Nat.le_of_ble_eq_true rfl), (Nat.le_of_ble_eq_true rfl)⟩ (Nat.le_of_ble_eq_true rfl) (zi12_c h0) rfl (fun r10 M9 => ?_)
    exact zx_zretC (zd me_X12_readOnce 26 rfl) rfl
  · refine zx_aload_n (i := 0) (zd me_X12_readOnce 5 rfl) rfl 0 rfl ?_
    refine zx_iconst (v := 3) (zd me_X12_readOnce 6 rfl) (by decide) ?_
    refine zx_callVI1 (zd me_X12_readOnce 7 rfl) (mc_X12_bad (zl C) h0 (3 : Int32) M1) lk_X12_72 ⟨(Nat.le_of_ble_eq_true rfl), (Nat.le_of_ble_eq_true rfl)⟩ (Nat.le_of_ble_eq_true rfl) (zi12_c h0) rfl (fun r12 M11 => ?_)
    exact zx_zretC (zd me_X12_readOnce 8 rfl) rfl
def mf_X12_readLine (R : zRR) (a0 : Nat) (M : zMem) : Option (Int32 × zMem) :=
  zcl (mf_X12_isWord R a0 (0 : Int32) M) fun r2 M1 =>
  if r2 = 0 then
    (zcl (mf_X12_isWord R a0 (1 : Int32) M1) fun r5 M4 =>
    if r5 = 0 then
      (zcl (mf_X12_isWord R a0 (2 : Int32) M4) fun r8 M7 =>
      if r8 = 0 then
        (zcl (mf_X12_isWord R a0 (3 : Int32) M7) fun r11 M10 =>
        if r11 = 0 then
          (zcl (mf_X12_isWord R a0 (4 : Int32) M10) fun r14 M13 =>
          if r14 = 0 then
            (zcl (mf_X12_isWord R a0 (5 : Int32) M13) fun r17 M16 =>
            if r17 = 0 then
              (zcl (mf_X12_bad R a0 (1 : Int32) M16) fun r20 M19 =>
              zchk (r20 = 0 ∨ r20 = 1) (some (r20, M19)))
            else
              (zcl (mf_X12_readOnce R a0 (5 : Int32) (99 : Int32) M16) fun r22 M21 =>
              zchk (r22 = 0 ∨ r22 = 1) (some (r22, M21))))
          else
            (zcl (mf_X12_readOnce R a0 (4 : Int32) (9 : Int32) M13) fun r24 M23 =>
            zchk (r24 = 0 ∨ r24 = 1) (some (r24, M23))))
        else
          (zcl (mf_X12_readOnce R a0 (3 : Int32) (9 : Int32) M10) fun r26 M25 =>
          zchk (r26 = 0 ∨ r26 = 1) (some (r26, M25))))
      else
        (zcl (mf_X12_readSheet R a0 M7) fun r28 M27 =>
        zchk (r28 = 0 ∨ r28 = 1) (some (r28, M27))))
    else
      (zcl (mf_X12_readPaper R a0 M4) fun r30 M29 =>
      zchk (r30 = 0 ∨ r30 = 1) (some (r30, M29))))
  else
    (zcl (mf_X12_readBath R a0 M1) fun r32 M31 =>
    zchk (r32 = 0 ∨ r32 = 1) (some (r32, M31)))
theorem mc_X12_readLine (l : Launch) {T : zTT} {R : zRR} {a0 : Nat} (h0 : zi12 T R a0) (M : zMem) : zMS l yX12_readLine mi_X12_readLine zrvI (mf_X12_readLine R a0 M) [.ref a0] T R M := by
  refine zMS.of (by decide +kernel) rfl ⟨rfl, rfl⟩ (Nat.le_of_ble_eq_true rfl) (fun C ad _ => ?_)
  show zX C mi_X12_readLine (zFin C zrvI ad T R) 0 0 (mf_X12_readLine R a0 M) 0 [(0, .ref a0)] [] ad T R M
  unfold mf_X12_readLine
  refine zx_aload_n (i := 0) (zd me_X12_readLine 0 rfl) rfl 0 rfl ?_
  refine zx_iconst (v := 0) (zd me_X12_readLine 1 rfl) (by decide) ?_
  refine zx_callVI1 (zd me_X12_readLine 2 rfl) (mc_X12_isWord (zl C) h0 (0 : Int32) M) lk_X12_203 ⟨(Nat.le_of_ble_eq_true rfl), (Nat.le_of_ble_eq_true rfl)⟩ (Nat.le_of_ble_eq_true rfl) (zi12_c h0) rfl (fun r2 M1 => ?_)
  refine zx_if_eq (tgt := 13) (zd me_X12_readLine 3 rfl) (by decide) (fun c3 => ?_) (fun c3 => ?_)
  · refine zx_aload_n (i := 0) (zd me_X12_readLine 7 rfl) rfl 0 rfl ?_
    refine zx_iconst (v := 1) (zd me_X12_readLine 8 rfl) (by decide) ?_
    refine zx_callVI1 (zd me_X12_readLine 9 rfl) (mc_X12_isWord (zl C) h0 (1 : Int32) M1) lk_X12_203 ⟨(Nat.le_of_ble_eq_true rfl), (Nat.le_of_ble_eq_true rfl)⟩ (Nat.le_of_ble_eq_true rfl) (zi12_c h0) rfl (fun r5 M4 => ?_)
    refine zx_if_eq (tgt := 26) (zd me_X12_readLine 10 rfl) (by decide) (fun c6 => ?_) (fun c6 => ?_)
    · refine zx_aload_n (i := 0) (zd me_X12_readLine 14 rfl) rfl 0 rfl ?_
      refine zx_iconst (v := 2) (zd me_X12_readLine 15 rfl) (by decide) ?_
      refine zx_callVI1 (zd me_X12_readLine 16 rfl) (mc_X12_isWord (zl C) h0 (2 : Int32) M4) lk_X12_203 ⟨(Nat.le_of_ble_eq_true rfl), (Nat.le_of_ble_eq_true rfl)⟩ (Nat.le_of_ble_eq_true rfl) (zi12_c h0) rfl (fun r8 M7 => ?_)
      refine zx_if_eq (tgt := 39) (zd me_X12_readLine 17 rfl) (by decide) (fun c9 => ?_) (fun c9 => ?_)
      · refine zx_aload_n (i := 0) (zd me_X12_readLine 21 rfl) rfl 0 rfl ?_
        refine zx_iconst (v := 3) (zd me_X12_readLine 22 rfl) (by decide) ?_
        refine zx_callVI1 (zd me_X12_readLine 23 rfl) (mc_X12_isWord (zl C) h0 (3 : Int32) M7) lk_X12_203 ⟨(Nat.le_of_ble_eq_true rfl), (Nat.le_of_ble_eq_true rfl)⟩ (Nat.le_of_ble_eq_true rfl) (zi12_c h0) rfl (fun r11 M10 => ?_)
        refine zx_if_eq (tgt := 55) (zd me_X12_readLine 24 rfl) (by decide) (fun c12 => ?_) (fun c12 => ?_)
        · refine zx_aload_n (i := 0) (zd me_X12_readLine 30 rfl) rfl 0 rfl ?_
          refine zx_iconst (v := 4) (zd me_X12_readLine 31 rfl) (by decide) ?_
          refine zx_callVI1 (zd me_X12_readLine 32 rfl) (mc_X12_isWord (zl C) h0 (4 : Int32) M10) lk_X12_203 ⟨(Nat.le_of_ble_eq_true rfl), (Nat.le_of_ble_eq_true rfl)⟩ (Nat.le_of_ble_eq_true rfl) (zi12_c h0) rfl (fun r14 M13 => ?_)
          refine zx_if_eq (tgt := 71) (zd me_X12_readLine 33 rfl) (by decide) (fun c15 => ?_) (fun c15 => ?_)
          · refine zx_aload_n (i := 0) (zd me_X12_readLine 39 rfl) rfl 0 rfl ?_
            refine zx_iconst (v := 5) (zd me_X12_readLine 40 rfl) (by decide) ?_
            refine zx_callVI1 (zd me_X12_readLine 41 rfl) (mc_X12_isWord (zl C) h0 (5 : Int32) M13) lk_X12_203 ⟨(Nat.le_of_ble_eq_true rfl), (Nat.le_of_ble_eq_true rfl)⟩ (Nat.le_of_ble_eq_true rfl) (zi12_c h0) rfl (fun r17 M16 => ?_)
            refine zx_if_eq (tgt := 89) (zd me_X12_readLine 42 rfl) (by decide) (fun c18 => ?_) (fun c18 => ?_)
            · refine zx_aload_n (i := 0) (zd me_X12_readLine 48 rfl) rfl 0 rfl ?_
              refine zx_iconst (v := 1) (zd me_X12_readLine 49 rfl) (by decide) ?_
              refine zx_callVI1 (zd me_X12_readLine 50 rfl) (mc_X12_bad (zl C) h0 (1 : Int32) M16) lk_X12_72 ⟨(Nat.le_of_ble_eq_true rfl), (Nat.le_of_ble_eq_true rfl)⟩ (Nat.le_of_ble_eq_true rfl) (zi12_c h0) rfl (fun r20 M19 => ?_)
              exact zx_zretC (zd me_X12_readLine 51 rfl) rfl
            · refine zx_aload_n (i := 0) (zd me_X12_readLine 43 rfl) rfl 0 rfl ?_
              refine zx_iconst (v := 5) (zd me_X12_readLine 44 rfl) (by decide) ?_
              refine zx_bipush (v := 99) (zd me_X12_readLine 45 rfl) (by decide) ?_
              refine zx_callVI2 (zd me_X12_readLine 46 rfl) (mc_X12_readOnce (zl C) h0 (5 : Int32) (99 : Int32) M16) lk_X12_215 ⟨(Nat.le_of_ble_eq_true rfl), (Nat.le_of_ble_eq_true rfl)⟩ (Nat.le_of_ble_eq_true rfl) (zi12_c h0) rfl (fun r22 M21 => ?_)
              refine zx_goto (tgt := 94) (zd me_X12_readLine 47 rfl) (by decide) ?_
              exact zx_zretC (zd me_X12_readLine 51 rfl) rfl
          · refine zx_aload_n (i := 0) (zd me_X12_readLine 34 rfl) rfl 0 rfl ?_
            refine zx_iconst (v := 4) (zd me_X12_readLine 35 rfl) (by decide) ?_
            refine zx_bipush (v := 9) (zd me_X12_readLine 36 rfl) (by decide) ?_
            refine zx_callVI2 (zd me_X12_readLine 37 rfl) (mc_X12_readOnce (zl C) h0 (4 : Int32) (9 : Int32) M13) lk_X12_215 ⟨(Nat.le_of_ble_eq_true rfl), (Nat.le_of_ble_eq_true rfl)⟩ (Nat.le_of_ble_eq_true rfl) (zi12_c h0) rfl (fun r24 M23 => ?_)
            exact zx_zretC (zd me_X12_readLine 38 rfl) rfl
        · refine zx_aload_n (i := 0) (zd me_X12_readLine 25 rfl) rfl 0 rfl ?_
          refine zx_iconst (v := 3) (zd me_X12_readLine 26 rfl) (by decide) ?_
          refine zx_bipush (v := 9) (zd me_X12_readLine 27 rfl) (by decide) ?_
          refine zx_callVI2 (zd me_X12_readLine 28 rfl) (mc_X12_readOnce (zl C) h0 (3 : Int32) (9 : Int32) M10) lk_X12_215 ⟨(Nat.le_of_ble_eq_true rfl), (Nat.le_of_ble_eq_true rfl)⟩ (Nat.le_of_ble_eq_true rfl) (zi12_c h0) rfl (fun r26 M25 => ?_)
          exact zx_zretC (zd me_X12_readLine 29 rfl) rfl
      · refine zx_aload_n (i := 0) (zd me_X12_readLine 18 rfl) rfl 0 rfl ?_
        refine zx_callVI0 (zd me_X12_readLine 19 rfl) (mc_X12_readSheet (zl C) h0 M7) lk_X12_212 ⟨(Nat.le_of_ble_eq_true rfl), (Nat.le_of_ble_eq_true rfl)⟩ (Nat.le_of_ble_eq_true rfl) (zi12_c h0) rfl (fun r28 M27 => ?_)
        exact zx_zretC (zd me_X12_readLine 20 rfl) rfl
    · refine zx_aload_n (i := 0) (zd me_X12_readLine 11 rfl) rfl 0 rfl ?_
      refine zx_callVI0 (zd me_X12_readLine 12 rfl) (mc_X12_readPaper (zl C) h0 M4) lk_X12_209 ⟨(Nat.le_of_ble_eq_true rfl), (Nat.le_of_ble_eq_true rfl)⟩ (Nat.le_of_ble_eq_true rfl) (zi12_c h0) rfl (fun r30 M29 => ?_)
      exact zx_zretC (zd me_X12_readLine 13 rfl) rfl
  · refine zx_aload_n (i := 0) (zd me_X12_readLine 4 rfl) rfl 0 rfl ?_
    refine zx_callVI0 (zd me_X12_readLine 5 rfl) (mc_X12_readBath (zl C) h0 M1) lk_X12_206 ⟨(Nat.le_of_ble_eq_true rfl), (Nat.le_of_ble_eq_true rfl)⟩ (Nat.le_of_ble_eq_true rfl) (zi12_c h0) rfl (fun r32 M31 => ?_)
    exact zx_zretC (zd me_X12_readLine 6 rfl) rfl
def mf_X12_room_b63 (R : zRR) (a0 : Nat) (M : zMem) : Option (Int32 × zMem) :=
  some (((-1 : Int32) - (M.1 a0 11)), M)
theorem mt_X12_room_b63 {C : zCx} {ad : Nat → Nat} {T : zTT} {R : zRR} {a0 : Nat} (h0 : zi12 T R a0) (M : zMem) : zX C mi_X12_room (zFin C zrvI ad T R) 0 0 (mf_X12_room_b63 R a0 M) 63 [(0, .ref a0)] [] ad T R M := by
  unfold mf_X12_room_b63
  refine zx_iconst (v := (-1)) (zd me_X12_room 34 rfl) (by decide) ?_
  refine zx_aload_n (i := 0) (zd me_X12_room 35 rfl) rfl 0 rfl ?_
  refine zx_getI (zd me_X12_room 36 rfl) fl_X12_69 (zi12_c h0) rfl ?_
  refine zx_isub (zd me_X12_room 37 rfl) ?_
  exact zx_iret (zd me_X12_room 38 rfl) rfl
def mf_X12_room_l104 (R : zRR) (a0 : Nat) : Nat → Int32 → Int32 → zMem → Option (Int32 × zMem)
  | 0, _, _, _ => none
  | fuel + 1, i1, i2, M =>
    if (19 : Int32) ≤ i2 then
      (zcl (mf_X12_startSo R a0 M) fun _ M21 =>
      zlet (zwI M21 a0 26 (0 : Int32)) fun M23 =>
      some (i1, M23))
    else
      (zald 19 i2 fun j24 =>
      zald 19 i2 fun j25 =>
      zlet (zwL M (zrf R a0 21) j25 (M.2 (zrf R a0 22) j24)) fun M26 =>
      mf_X12_room_l104 R a0 fuel i1 (i2 + 1) M26)
theorem mt_X12_room_l104 {C : zCx} {ad : Nat → Nat} {T : zTT} {R : zRR} {a0 : Nat} (h0 : zi12 T R a0) : ∀ (fuel : Nat) (i1 : Int32) (i2 : Int32) (M : zMem), zX C mi_X12_room (zFin C zrvI ad T R) 0 0 (mf_X12_room_l104 R a0 fuel i1 i2 M) 104 [(0, .ref a0), (1, .int i1), (2, .int i2)] [] ad T R M := by
  intro fuel
  induction fuel with
  | zero => intros; exact zx_none
  | succ fuel ih =>
    intro i1 i2 M
    rw [mf_X12_room_l104]
    refine zx_iload_n (i := 2) (zd me_X12_room 58 rfl) rfl 2 rfl ?_
    refine zx_bipush (v := 19) (zd me_X12_room 59 rfl) (by decide) ?_
    refine zx_icmp_ge (tgt := 128) (zd me_X12_room 60 rfl) (by decide) (fun c20 => ?_) (fun c20 => ?_)
    · refine zx_aload_n (i := 0) (zd me_X12_room 71 rfl) rfl 0 rfl ?_
      refine zx_callVV0 (zd me_X12_room 72 rfl) (mc_X12_startSo (zl C) h0 M) lk_X12_172 ⟨(Nat.le_of_ble_eq_true rfl), (Nat.le_of_ble_eq_true rfl)⟩ (Nat.le_of_ble_eq_true rfl) (zi12_c h0) rfl (fun r22 M21 => ?_)
      refine zx_aload_n (i := 0) (zd me_X12_room 73 rfl) rfl 0 rfl ?_
      refine zx_iconst (v := 0) (zd me_X12_room 74 rfl) (by decide) ?_
      refine zx_putI (zd me_X12_room 75 rfl) fp_X12_227 (zi12_c h0) rfl (fun M23 _ => ?_)
      refine zx_iload_n (i := 1) (zd me_X12_room 76 rfl) rfl 1 rfl ?_
      exact zx_iret (zd me_X12_room 77 rfl) rfl
    · refine zx_aload_n (i := 0) (zd me_X12_room 61 rfl) rfl 0 rfl ?_
      refine zx_getR (zd me_X12_room 62 rfl) fl_X12_119 (zi12_c h0) rfl (zi12_r21 h0) ?_
      refine zx_iload_n (i := 2) (zd me_X12_room 63 rfl) rfl 2 rfl ?_
      refine zx_aload_n (i := 0) (zd me_X12_room 64 rfl) rfl 0 rfl ?_
      refine zx_getR (zd me_X12_room 65 rfl) fl_X12_123 (zi12_c h0) rfl (zi12_r22 h0) ?_
      refine zx_iload_n (i := 2) (zd me_X12_room 66 rfl) rfl 2 rfl ?_
      refine zx_lald (zd me_X12_room 67 rfl) (zi12_t22 h0) (fun j24 hj24 => ?_)
      refine zx_last (zd me_X12_room 68 rfl) (zi12_t21 h0) (fun M26 => ?_)
      refine zx_iinc (v := 1) (ls' := [(2, .int (i2 + 1)), (0, .ref a0), (1, .int i1)]) (zd me_X12_room 69 rfl) (Nat.le_of_ble_eq_true rfl) 2 rfl (by decide) rfl ?_
      refine zx_goto (tgt := 104) (zd me_X12_room 70 rfl) (by decide) ?_
      refine zx_loc [1, 2, 0] rfl ?_
      exact ih i1 (i2 + 1) M26
def mf_X12_room_l78 (R : zRR) (a0 : Nat) : Nat → Int32 → Int32 → zMem → Option (Int32 × zMem)
  | 0, _, _, _ => none
  | fuel + 1, i1, i2, M =>
    if (56 : Int32) ≤ i2 then
      (mf_X12_room_l104 R a0 zF i1 (0 : Int32) M)
    else
      (zald 56 i2 fun j17 =>
      zald 354 i2 fun j18 =>
      zlet (zwI M (zrf R a0 14) j18 (M.1 (zrf R a0 15) j17)) fun M19 =>
      mf_X12_room_l78 R a0 fuel i1 (i2 + 1) M19)
theorem mt_X12_room_l78 {C : zCx} {ad : Nat → Nat} {T : zTT} {R : zRR} {a0 : Nat} (h0 : zi12 T R a0) : ∀ (fuel : Nat) (i1 : Int32) (i2 : Int32) (M : zMem), zX C mi_X12_room (zFin C zrvI ad T R) 0 0 (mf_X12_room_l78 R a0 fuel i1 i2 M) 78 [(0, .ref a0), (1, .int i1), (2, .int i2)] [] ad T R M := by
  intro fuel
  induction fuel with
  | zero => intros; exact zx_none
  | succ fuel ih =>
    intro i1 i2 M
    rw [mf_X12_room_l78]
    refine zx_iload_n (i := 2) (zd me_X12_room 43 rfl) rfl 2 rfl ?_
    refine zx_bipush (v := 56) (zd me_X12_room 44 rfl) (by decide) ?_
    refine zx_icmp_ge (tgt := 102) (zd me_X12_room 45 rfl) (by decide) (fun c16 => ?_) (fun c16 => ?_)
    · refine zx_iconst (v := 0) (zd me_X12_room 56 rfl) (by decide) ?_
      refine zx_istore_n (i := 2) (ls' := [(2, .int (0 : Int32)), (0, .ref a0), (1, .int i1)]) (zd me_X12_room 57 rfl) rfl (Nat.le_of_ble_eq_true rfl) rfl ?_
      refine zx_loc [1, 2, 0] rfl ?_
      exact mt_X12_room_l104 h0 zF i1 (0 : Int32) M
    · refine zx_aload_n (i := 0) (zd me_X12_room 46 rfl) rfl 0 rfl ?_
      refine zx_getR (zd me_X12_room 47 rfl) fl_X12_98 (zi12_c h0) rfl (zi12_r14 h0) ?_
      refine zx_iload_n (i := 2) (zd me_X12_room 48 rfl) rfl 2 rfl ?_
      refine zx_aload_n (i := 0) (zd me_X12_room 49 rfl) rfl 0 rfl ?_
      refine zx_getR (zd me_X12_room 50 rfl) fl_X12_101 (zi12_c h0) rfl (zi12_r15 h0) ?_
      refine zx_iload_n (i := 2) (zd me_X12_room 51 rfl) rfl 2 rfl ?_
      refine zx_iald (zd me_X12_room 52 rfl) (zi12_t15 h0) (fun j17 hj17 => ?_)
      refine zx_iast (zd me_X12_room 53 rfl) (zi12_t14 h0) (fun M19 => ?_)
      refine zx_iinc (v := 1) (ls' := [(2, .int (i2 + 1)), (0, .ref a0), (1, .int i1)]) (zd me_X12_room 54 rfl) (Nat.le_of_ble_eq_true rfl) 2 rfl (by decide) rfl ?_
      refine zx_goto (tgt := 78) (zd me_X12_room 55 rfl) (by decide) ?_
      refine zx_loc [1, 2, 0] rfl ?_
      exact ih i1 (i2 + 1) M19
def mf_X12_room_l42 (R : zRR) (a0 : Nat) : Nat → Int32 → zMem → Option (Int32 × zMem)
  | 0, _, _ => none
  | fuel + 1, i1, M =>
    if (M.1 a0 7) = 0 then
      (mf_X12_room_l78 R a0 zF i1 (0 : Int32) M)
    else
      (zcl (mf_X12_readLine R a0 M) fun r11 M10 =>
      if r11 = 0 then
        (mf_X12_room_b63 R a0 M10)
      else
        (zcl (mf_X12_readEnd R a0 M10) fun r14 M13 =>
        if r14 = 0 then
          (mf_X12_room_b63 R a0 M13)
        else
          (mf_X12_room_l42 R a0 fuel (i1 + 1) M13)))
theorem mt_X12_room_l42 {C : zCx} {ad : Nat → Nat} {T : zTT} {R : zRR} {a0 : Nat} (h0 : zi12 T R a0) : ∀ (fuel : Nat) (i1 : Int32) (M : zMem), zX C mi_X12_room (zFin C zrvI ad T R) 0 0 (mf_X12_room_l42 R a0 fuel i1 M) 42 [(0, .ref a0), (1, .int i1)] [] ad T R M := by
  intro fuel
  induction fuel with
  | zero => intros; exact zx_none
  | succ fuel ih =>
    intro i1 M
    rw [mf_X12_room_l42]
    refine zx_aload_n (i := 0) (zd me_X12_room 25 rfl) rfl 0 rfl ?_
    refine zx_getI (zd me_X12_room 26 rfl) fl_X12_30 (zi12_c h0) rfl ?_
    refine zx_if_eq (tgt := 76) (zd me_X12_room 27 rfl) (by decide) (fun c9 => ?_) (fun c9 => ?_)
    · refine zx_iconst (v := 0) (zd me_X12_room 41 rfl) (by decide) ?_
      refine zx_istore_n (i := 2) (ls' := [(2, .int (0 : Int32)), (0, .ref a0), (1, .int i1)]) (zd me_X12_room 42 rfl) rfl (Nat.le_of_ble_eq_true rfl) rfl ?_
      refine zx_loc [1, 2, 0] rfl ?_
      exact mt_X12_room_l78 h0 zF i1 (0 : Int32) M
    · refine zx_aload_n (i := 0) (zd me_X12_room 28 rfl) rfl 0 rfl ?_
      refine zx_callVI0 (zd me_X12_room 29 rfl) (mc_X12_readLine (zl C) h0 M) lk_X12_221 ⟨(Nat.le_of_ble_eq_true rfl), (Nat.le_of_ble_eq_true rfl)⟩ (Nat.le_of_ble_eq_true rfl) (zi12_c h0) rfl (fun r11 M10 => ?_)
      refine zx_if_eq (tgt := 63) (zd me_X12_room 30 rfl) (by decide) (fun c12 => ?_) (fun c12 => ?_)
      · refine zx_loc [0] rfl ?_
        exact mt_X12_room_b63 h0 M10
      · refine zx_aload_n (i := 0) (zd me_X12_room 31 rfl) rfl 0 rfl ?_
        refine zx_callVI0 (zd me_X12_room 32 rfl) (mc_X12_readEnd (zl C) h0 M10) lk_X12_224 ⟨(Nat.le_of_ble_eq_true rfl), (Nat.le_of_ble_eq_true rfl)⟩ (Nat.le_of_ble_eq_true rfl) (zi12_c h0) rfl (fun r14 M13 => ?_)
        refine zx_if_ne (tgt := 70) (zd me_X12_room 33 rfl) (by decide) (fun c15 => ?_) (fun c15 => ?_)
        · refine zx_iinc (v := 1) (ls' := [(1, .int (i1 + 1)), (0, .ref a0)]) (zd me_X12_room 39 rfl) (Nat.le_of_ble_eq_true rfl) 1 rfl (by decide) rfl ?_
          refine zx_goto (tgt := 42) (zd me_X12_room 40 rfl) (by decide) ?_
          refine zx_loc [1, 0] rfl ?_
          exact ih (i1 + 1) M13
        · refine zx_loc [0] rfl ?_
          exact mt_X12_room_b63 h0 M13
def mf_X12_room_l9 (R : zRR) (a0 : Nat) : Nat → Int32 → zMem → Option (Int32 × zMem)
  | 0, _, _ => none
  | fuel + 1, i1, M =>
    if (56 : Int32) ≤ i1 then
      (zald 56 (5 : Int32) fun j4 =>
      zlet (zwI M (zrf R a0 15) j4 (5 : Int32)) fun M5 =>
      zlet (zwI M5 a0 25 (0 : Int32)) fun M6 =>
      mf_X12_room_l42 R a0 zF (0 : Int32) M6)
    else
      (zald 56 i1 fun j7 =>
      zlet (zwI M (zrf R a0 15) j7 (0 : Int32)) fun M8 =>
      mf_X12_room_l9 R a0 fuel (i1 + 1) M8)
theorem mt_X12_room_l9 {C : zCx} {ad : Nat → Nat} {T : zTT} {R : zRR} {a0 : Nat} (h0 : zi12 T R a0) : ∀ (fuel : Nat) (i1 : Int32) (M : zMem), zX C mi_X12_room (zFin C zrvI ad T R) 0 0 (mf_X12_room_l9 R a0 fuel i1 M) 9 [(0, .ref a0), (1, .int i1)] [] ad T R M := by
  intro fuel
  induction fuel with
  | zero => intros; exact zx_none
  | succ fuel ih =>
    intro i1 M
    rw [mf_X12_room_l9]
    refine zx_iload_n (i := 1) (zd me_X12_room 5 rfl) rfl 1 rfl ?_
    refine zx_bipush (v := 56) (zd me_X12_room 6 rfl) (by decide) ?_
    refine zx_icmp_ge (tgt := 28) (zd me_X12_room 7 rfl) (by decide) (fun c3 => ?_) (fun c3 => ?_)
    · refine zx_aload_n (i := 0) (zd me_X12_room 15 rfl) rfl 0 rfl ?_
      refine zx_getR (zd me_X12_room 16 rfl) fl_X12_101 (zi12_c h0) rfl (zi12_r15 h0) ?_
      refine zx_iconst (v := 5) (zd me_X12_room 17 rfl) (by decide) ?_
      refine zx_iconst (v := 5) (zd me_X12_room 18 rfl) (by decide) ?_
      refine zx_iast (zd me_X12_room 19 rfl) (zi12_t15 h0) (fun M5 => ?_)
      refine zx_aload_n (i := 0) (zd me_X12_room 20 rfl) rfl 0 rfl ?_
      refine zx_iconst (v := 0) (zd me_X12_room 21 rfl) (by decide) ?_
      refine zx_putI (zd me_X12_room 22 rfl) fp_X12_197 (zi12_c h0) rfl (fun M6 _ => ?_)
      refine zx_iconst (v := 0) (zd me_X12_room 23 rfl) (by decide) ?_
      refine zx_istore_n (i := 1) (ls' := [(1, .int (0 : Int32)), (0, .ref a0)]) (zd me_X12_room 24 rfl) rfl (Nat.le_of_ble_eq_true rfl) rfl ?_
      refine zx_loc [1, 0] rfl ?_
      exact mt_X12_room_l42 h0 zF (0 : Int32) M6
    · refine zx_aload_n (i := 0) (zd me_X12_room 8 rfl) rfl 0 rfl ?_
      refine zx_getR (zd me_X12_room 9 rfl) fl_X12_101 (zi12_c h0) rfl (zi12_r15 h0) ?_
      refine zx_iload_n (i := 1) (zd me_X12_room 10 rfl) rfl 1 rfl ?_
      refine zx_iconst (v := 0) (zd me_X12_room 11 rfl) (by decide) ?_
      refine zx_iast (zd me_X12_room 12 rfl) (zi12_t15 h0) (fun M8 => ?_)
      refine zx_iinc (v := 1) (ls' := [(1, .int (i1 + 1)), (0, .ref a0)]) (zd me_X12_room 13 rfl) (Nat.le_of_ble_eq_true rfl) 1 rfl (by decide) rfl ?_
      refine zx_goto (tgt := 9) (zd me_X12_room 14 rfl) (by decide) ?_
      refine zx_loc [1, 0] rfl ?_
      exact ih (i1 + 1) M8
def mf_X12_room (R : zRR) (a0 : Nat) (M : zMem) : Option (Int32 × zMem) :=
  zcl (mf_X12_begin R a0 (900 : Int32) M) fun _ M1 =>
  mf_X12_room_l9 R a0 zF (0 : Int32) M1
theorem mc_X12_room (l : Launch) {T : zTT} {R : zRR} {a0 : Nat} (h0 : zi12 T R a0) (M : zMem) : zMS l yX12_room mi_X12_room zrvI (mf_X12_room R a0 M) [.ref a0] T R M := by
  refine zMS.of (by decide +kernel) rfl ⟨rfl, rfl⟩ (Nat.le_of_ble_eq_true rfl) (fun C ad _ => ?_)
  show zX C mi_X12_room (zFin C zrvI ad T R) 0 0 (mf_X12_room R a0 M) 0 [(0, .ref a0)] [] ad T R M
  unfold mf_X12_room
  refine zx_aload_n (i := 0) (zd me_X12_room 0 rfl) rfl 0 rfl ?_
  refine zx_sipush (v := 900) (zd me_X12_room 1 rfl) (by decide) ?_
  refine zx_callVV1 (zd me_X12_room 2 rfl) (mc_X12_begin (zl C) h0 (900 : Int32) M) lk_X12_218 ⟨(Nat.le_of_ble_eq_true rfl), (Nat.le_of_ble_eq_true rfl)⟩ (Nat.le_of_ble_eq_true rfl) (zi12_c h0) rfl (fun r2 M1 => ?_)
  refine zx_iconst (v := 0) (zd me_X12_room 3 rfl) (by decide) ?_
  refine zx_istore_n (i := 1) (ls' := [(1, .int (0 : Int32)), (0, .ref a0)]) (zd me_X12_room 4 rfl) rfl (Nat.le_of_ble_eq_true rfl) rfl ?_
  refine zx_loc [1, 0] rfl ?_
  exact mt_X12_room_l9 h0 zF (0 : Int32) M1
def mf_X12_fault (R : zRR) (a0 : Nat) (M : zMem) : Option (Int32 × zMem) :=
  zlet (zwI M a0 0 (0 : Int32)) fun M1 =>
  some ((M1.1 a0 10), M1)
theorem mc_X12_fault (l : Launch) {T : zTT} {R : zRR} {a0 : Nat} (h0 : zi12 T R a0) (M : zMem) : zMS l yX12_fault mi_X12_fault zrvI (mf_X12_fault R a0 M) [.ref a0] T R M := by
  refine zMS.of (by decide +kernel) rfl ⟨rfl, rfl⟩ (Nat.le_of_ble_eq_true rfl) (fun C ad _ => ?_)
  show zX C mi_X12_fault (zFin C zrvI ad T R) 0 0 (mf_X12_fault R a0 M) 0 [(0, .ref a0)] [] ad T R M
  unfold mf_X12_fault
  refine zx_aload_n (i := 0) (zd me_X12_fault 0 rfl) rfl 0 rfl ?_
  refine zx_iconst (v := 0) (zd me_X12_fault 1 rfl) (by decide) ?_
  refine zx_putI (zd me_X12_fault 2 rfl) fp_X12_1 (zi12_c h0) rfl (fun M1 _ => ?_)
  refine zx_aload_n (i := 0) (zd me_X12_fault 3 rfl) rfl 0 rfl ?_
  refine zx_getI (zd me_X12_fault 4 rfl) fl_X12_66 (zi12_c h0) rfl ?_
  exact zx_iret (zd me_X12_fault 5 rfl) rfl
def mf_X12_isBath (R : zRR) (a0 : Nat) (i1 : Int32) (M : zMem) : Option (Int32 × zMem) :=
  zald 354 (0 : Int32) fun j1 =>
  zcl (mf_X12_isIn R i1 (0 : Int32) ((M.1 (zrf R a0 14) j1) - (1 : Int32)) M) fun r3 M2 =>
  zchk (r3 = 0 ∨ r3 = 1) (some (r3, M2))
theorem mc_X12_isBath (l : Launch) {T : zTT} {R : zRR} {a0 : Nat} (h0 : zi12 T R a0) (i1 : Int32) (M : zMem) : zMS l yX12_isBath mi_X12_isBath zrvI (mf_X12_isBath R a0 i1 M) [.ref a0, .int i1] T R M := by
  refine zMS.of (by decide +kernel) rfl ⟨rfl, rfl⟩ (Nat.le_of_ble_eq_true rfl) (fun C ad _ => ?_)
  show zX C mi_X12_isBath (zFin C zrvI ad T R) 0 0 (mf_X12_isBath R a0 i1 M) 0 [(0, .ref a0), (1, .int i1)] [] ad T R M
  unfold mf_X12_isBath
  refine zx_iload_n (i := 1) (zd me_X12_isBath 0 rfl) rfl 1 rfl ?_
  refine zx_iconst (v := 0) (zd me_X12_isBath 1 rfl) (by decide) ?_
  refine zx_aload_n (i := 0) (zd me_X12_isBath 2 rfl) rfl 0 rfl ?_
  refine zx_getR (zd me_X12_isBath 3 rfl) fl_X12_98 (zi12_c h0) rfl (zi12_r14 h0) ?_
  refine zx_iconst (v := 0) (zd me_X12_isBath 4 rfl) (by decide) ?_
  refine zx_iald (zd me_X12_isBath 5 rfl) (zi12_t14 h0) (fun j1 hj1 => ?_)
  refine zx_iconst (v := 1) (zd me_X12_isBath 6 rfl) (by decide) ?_
  refine zx_isub (zd me_X12_isBath 7 rfl) ?_
  refine zx_callSI3 (zd me_X12_isBath 8 rfl) (mc_X12_isIn (zl C) i1 (0 : Int32) ((M.1 (zrf R a0 14) j1) - (1 : Int32)) M) lk_X12_75 ⟨(Nat.le_of_ble_eq_true rfl), (Nat.le_of_ble_eq_true rfl)⟩ (Nat.le_of_ble_eq_true rfl) (fun r3 M2 => ?_)
  exact zx_zretC (zd me_X12_isBath 9 rfl) rfl
def mf_X12_isPaper (R : zRR) (a0 : Nat) (i1 : Int32) (M : zMem) : Option (Int32 × zMem) :=
  zald 354 (1 : Int32) fun j1 =>
  zcl (mf_X12_isIn R i1 (0 : Int32) ((M.1 (zrf R a0 14) j1) - (1 : Int32)) M) fun r3 M2 =>
  zchk (r3 = 0 ∨ r3 = 1) (some (r3, M2))
theorem mc_X12_isPaper (l : Launch) {T : zTT} {R : zRR} {a0 : Nat} (h0 : zi12 T R a0) (i1 : Int32) (M : zMem) : zMS l yX12_isPaper mi_X12_isPaper zrvI (mf_X12_isPaper R a0 i1 M) [.ref a0, .int i1] T R M := by
  refine zMS.of (by decide +kernel) rfl ⟨rfl, rfl⟩ (Nat.le_of_ble_eq_true rfl) (fun C ad _ => ?_)
  show zX C mi_X12_isPaper (zFin C zrvI ad T R) 0 0 (mf_X12_isPaper R a0 i1 M) 0 [(0, .ref a0), (1, .int i1)] [] ad T R M
  unfold mf_X12_isPaper
  refine zx_iload_n (i := 1) (zd me_X12_isPaper 0 rfl) rfl 1 rfl ?_
  refine zx_iconst (v := 0) (zd me_X12_isPaper 1 rfl) (by decide) ?_
  refine zx_aload_n (i := 0) (zd me_X12_isPaper 2 rfl) rfl 0 rfl ?_
  refine zx_getR (zd me_X12_isPaper 3 rfl) fl_X12_98 (zi12_c h0) rfl (zi12_r14 h0) ?_
  refine zx_iconst (v := 1) (zd me_X12_isPaper 4 rfl) (by decide) ?_
  refine zx_iald (zd me_X12_isPaper 5 rfl) (zi12_t14 h0) (fun j1 hj1 => ?_)
  refine zx_iconst (v := 1) (zd me_X12_isPaper 6 rfl) (by decide) ?_
  refine zx_isub (zd me_X12_isPaper 7 rfl) ?_
  refine zx_callSI3 (zd me_X12_isPaper 8 rfl) (mc_X12_isIn (zl C) i1 (0 : Int32) ((M.1 (zrf R a0 14) j1) - (1 : Int32)) M) lk_X12_75 ⟨(Nat.le_of_ble_eq_true rfl), (Nat.le_of_ble_eq_true rfl)⟩ (Nat.le_of_ble_eq_true rfl) (fun r3 M2 => ?_)
  exact zx_zretC (zd me_X12_isPaper 9 rfl) rfl
def mf_X12_isSheet (R : zRR) (a0 : Nat) (i1 : Int32) (M : zMem) : Option (Int32 × zMem) :=
  zald 354 (2 : Int32) fun j1 =>
  zcl (mf_X12_isIn R i1 (0 : Int32) ((M.1 (zrf R a0 14) j1) - (1 : Int32)) M) fun r3 M2 =>
  zchk (r3 = 0 ∨ r3 = 1) (some (r3, M2))
theorem mc_X12_isSheet (l : Launch) {T : zTT} {R : zRR} {a0 : Nat} (h0 : zi12 T R a0) (i1 : Int32) (M : zMem) : zMS l yX12_isSheet mi_X12_isSheet zrvI (mf_X12_isSheet R a0 i1 M) [.ref a0, .int i1] T R M := by
  refine zMS.of (by decide +kernel) rfl ⟨rfl, rfl⟩ (Nat.le_of_ble_eq_true rfl) (fun C ad _ => ?_)
  show zX C mi_X12_isSheet (zFin C zrvI ad T R) 0 0 (mf_X12_isSheet R a0 i1 M) 0 [(0, .ref a0), (1, .int i1)] [] ad T R M
  unfold mf_X12_isSheet
  refine zx_iload_n (i := 1) (zd me_X12_isSheet 0 rfl) rfl 1 rfl ?_
  refine zx_iconst (v := 0) (zd me_X12_isSheet 1 rfl) (by decide) ?_
  refine zx_aload_n (i := 0) (zd me_X12_isSheet 2 rfl) rfl 0 rfl ?_
  refine zx_getR (zd me_X12_isSheet 3 rfl) fl_X12_98 (zi12_c h0) rfl (zi12_r14 h0) ?_
  refine zx_iconst (v := 2) (zd me_X12_isSheet 4 rfl) (by decide) ?_
  refine zx_iald (zd me_X12_isSheet 5 rfl) (zi12_t14 h0) (fun j1 hj1 => ?_)
  refine zx_iconst (v := 1) (zd me_X12_isSheet 6 rfl) (by decide) ?_
  refine zx_isub (zd me_X12_isSheet 7 rfl) ?_
  refine zx_callSI3 (zd me_X12_isSheet 8 rfl) (mc_X12_isIn (zl C) i1 (0 : Int32) ((M.1 (zrf R a0 14) j1) - (1 : Int32)) M) lk_X12_75 ⟨(Nat.le_of_ble_eq_true rfl), (Nat.le_of_ble_eq_true rfl)⟩ (Nat.le_of_ble_eq_true rfl) (fun r3 M2 => ?_)
  exact zx_zretC (zd me_X12_isSheet 9 rfl) rfl
def mf_X12_isWaiting (R : zRR) (a0 : Nat) (i1 : Int32) (M : zMem) : Option (Int32 × zMem) :=
  zald 354 ((64 : Int32) + i1) fun j1 =>
  if (M.1 (zrf R a0 14) j1) = 0 then
    (some ((1 : Int32), M))
  else
    (some ((0 : Int32), M))
theorem mc_X12_isWaiting (l : Launch) {T : zTT} {R : zRR} {a0 : Nat} (h0 : zi12 T R a0) (i1 : Int32) (M : zMem) : zMS l yX12_isWaiting mi_X12_isWaiting zrvI (mf_X12_isWaiting R a0 i1 M) [.ref a0, .int i1] T R M := by
  refine zMS.of (by decide +kernel) rfl ⟨rfl, rfl⟩ (Nat.le_of_ble_eq_true rfl) (fun C ad _ => ?_)
  show zX C mi_X12_isWaiting (zFin C zrvI ad T R) 0 0 (mf_X12_isWaiting R a0 i1 M) 0 [(0, .ref a0), (1, .int i1)] [] ad T R M
  unfold mf_X12_isWaiting
  refine zx_aload_n (i := 0) (zd me_X12_isWaiting 0 rfl) rfl 0 rfl ?_
  refine zx_getR (zd me_X12_isWaiting 1 rfl) fl_X12_98 (zi12_c h0) rfl (zi12_r14 h0) ?_
  refine zx_bipush (v := 64) (zd me_X12_isWaiting 2 rfl) (by decide) ?_
  refine zx_iload_n (i := 1) (zd me_X12_isWaiting 3 rfl) rfl 1 rfl ?_
  refine zx_iadd (zd me_X12_isWaiting 4 rfl) ?_
  refine zx_iald (zd me_X12_isWaiting 5 rfl) (zi12_t14 h0) (fun j1 hj1 => ?_)
  refine zx_if_ne (tgt := 16) (zd me_X12_isWaiting 6 rfl) (by decide) (fun c2 => ?_) (fun c2 => ?_)
  · refine zx_iconst (v := 0) (zd me_X12_isWaiting 9 rfl) (by decide) ?_
    exact zx_zret (zd me_X12_isWaiting 10 rfl) rfl rfl
  · refine zx_iconst (v := 1) (zd me_X12_isWaiting 7 rfl) (by decide) ?_
    refine zx_goto (tgt := 17) (zd me_X12_isWaiting 8 rfl) (by decide) ?_
    exact zx_zret (zd me_X12_isWaiting 10 rfl) rfl rfl
def mf_X12_isBathed (R : zRR) (a0 : Nat) (i1 : Int32) (M : zMem) : Option (Int32 × zMem) :=
  zald 354 ((64 : Int32) + i1) fun j1 =>
  if (M.1 (zrf R a0 14) j1) = (1 : Int32) then
    (some ((1 : Int32), M))
  else
    (some ((0 : Int32), M))
theorem mc_X12_isBathed (l : Launch) {T : zTT} {R : zRR} {a0 : Nat} (h0 : zi12 T R a0) (i1 : Int32) (M : zMem) : zMS l yX12_isBathed mi_X12_isBathed zrvI (mf_X12_isBathed R a0 i1 M) [.ref a0, .int i1] T R M := by
  refine zMS.of (by decide +kernel) rfl ⟨rfl, rfl⟩ (Nat.le_of_ble_eq_true rfl) (fun C ad _ => ?_)
  show zX C mi_X12_isBathed (zFin C zrvI ad T R) 0 0 (mf_X12_isBathed R a0 i1 M) 0 [(0, .ref a0), (1, .int i1)] [] ad T R M
  unfold mf_X12_isBathed
  refine zx_aload_n (i := 0) (zd me_X12_isBathed 0 rfl) rfl 0 rfl ?_
  refine zx_getR (zd me_X12_isBathed 1 rfl) fl_X12_98 (zi12_c h0) rfl (zi12_r14 h0) ?_
  refine zx_bipush (v := 64) (zd me_X12_isBathed 2 rfl) (by decide) ?_
  refine zx_iload_n (i := 1) (zd me_X12_isBathed 3 rfl) rfl 1 rfl ?_
  refine zx_iadd (zd me_X12_isBathed 4 rfl) ?_
  refine zx_iald (zd me_X12_isBathed 5 rfl) (zi12_t14 h0) (fun j1 hj1 => ?_)
  refine zx_iconst (v := 1) (zd me_X12_isBathed 6 rfl) (by decide) ?_
  refine zx_icmp_ne (tgt := 17) (zd me_X12_isBathed 7 rfl) (by decide) (fun c2 => ?_) (fun c2 => ?_)
  · refine zx_iconst (v := 0) (zd me_X12_isBathed 10 rfl) (by decide) ?_
    exact zx_zret (zd me_X12_isBathed 11 rfl) rfl rfl
  · refine zx_iconst (v := 1) (zd me_X12_isBathed 8 rfl) (by decide) ?_
    refine zx_goto (tgt := 18) (zd me_X12_isBathed 9 rfl) (by decide) ?_
    exact zx_zret (zd me_X12_isBathed 11 rfl) rfl rfl
def mf_X12_isHeld (R : zRR) (a0 : Nat) (i1 : Int32) (M : zMem) : Option (Int32 × zMem) :=
  zcl (mf_X12_isBathed R a0 i1 M) fun r2 M1 =>
  if r2 = 0 then
    (some ((0 : Int32), M1))
  else
    (zald 354 ((80 : Int32) + i1) fun j4 =>
    if (M1.1 (zrf R a0 14) j4) = 0 then
      (some ((1 : Int32), M1))
    else
      (some ((0 : Int32), M1)))
theorem mc_X12_isHeld (l : Launch) {T : zTT} {R : zRR} {a0 : Nat} (h0 : zi12 T R a0) (i1 : Int32) (M : zMem) : zMS l yX12_isHeld mi_X12_isHeld zrvI (mf_X12_isHeld R a0 i1 M) [.ref a0, .int i1] T R M := by
  refine zMS.of (by decide +kernel) rfl ⟨rfl, rfl⟩ (Nat.le_of_ble_eq_true rfl) (fun C ad _ => ?_)
  show zX C mi_X12_isHeld (zFin C zrvI ad T R) 0 0 (mf_X12_isHeld R a0 i1 M) 0 [(0, .ref a0), (1, .int i1)] [] ad T R M
  unfold mf_X12_isHeld
  refine zx_aload_n (i := 0) (zd me_X12_isHeld 0 rfl) rfl 0 rfl ?_
  refine zx_iload_n (i := 1) (zd me_X12_isHeld 1 rfl) rfl 1 rfl ?_
  refine zx_callVI1 (zd me_X12_isHeld 2 rfl) (mc_X12_isBathed (zl C) h0 i1 M) lk_X12_230 ⟨(Nat.le_of_ble_eq_true rfl), (Nat.le_of_ble_eq_true rfl)⟩ (Nat.le_of_ble_eq_true rfl) (zi12_c h0) rfl (fun r2 M1 => ?_)
  refine zx_if_eq (tgt := 24) (zd me_X12_isHeld 3 rfl) (by decide) (fun c3 => ?_) (fun c3 => ?_)
  · refine zx_iconst (v := 0) (zd me_X12_isHeld 13 rfl) (by decide) ?_
    exact zx_zret (zd me_X12_isHeld 14 rfl) rfl rfl
  · refine zx_aload_n (i := 0) (zd me_X12_isHeld 4 rfl) rfl 0 rfl ?_
    refine zx_getR (zd me_X12_isHeld 5 rfl) fl_X12_98 (zi12_c h0) rfl (zi12_r14 h0) ?_
    refine zx_bipush (v := 80) (zd me_X12_isHeld 6 rfl) (by decide) ?_
    refine zx_iload_n (i := 1) (zd me_X12_isHeld 7 rfl) rfl 1 rfl ?_
    refine zx_iadd (zd me_X12_isHeld 8 rfl) ?_
    refine zx_iald (zd me_X12_isHeld 9 rfl) (zi12_t14 h0) (fun j4 hj4 => ?_)
    refine zx_if_ne (tgt := 24) (zd me_X12_isHeld 10 rfl) (by decide) (fun c5 => ?_) (fun c5 => ?_)
    · refine zx_iconst (v := 0) (zd me_X12_isHeld 13 rfl) (by decide) ?_
      exact zx_zret (zd me_X12_isHeld 14 rfl) rfl rfl
    · refine zx_iconst (v := 1) (zd me_X12_isHeld 11 rfl) (by decide) ?_
      refine zx_goto (tgt := 25) (zd me_X12_isHeld 12 rfl) (by decide) ?_
      exact zx_zret (zd me_X12_isHeld 14 rfl) rfl rfl
def mf_X12_asked (R : zRR) (a0 : Nat) (i1 : Int32) (i2 : Int32) (M : zMem) : Option (Int32 × zMem) :=
  zald 354 (((18 : Int32) + ((6 : Int32) * i1)) + i2) fun j1 =>
  some ((M.1 (zrf R a0 14) j1), M)
theorem mc_X12_asked (l : Launch) {T : zTT} {R : zRR} {a0 : Nat} (h0 : zi12 T R a0) (i1 : Int32) (i2 : Int32) (M : zMem) : zMS l yX12_asked mi_X12_asked zrvI (mf_X12_asked R a0 i1 i2 M) [.ref a0, .int i1, .int i2] T R M := by
  refine zMS.of (by decide +kernel) rfl ⟨rfl, rfl⟩ (Nat.le_of_ble_eq_true rfl) (fun C ad _ => ?_)
  show zX C mi_X12_asked (zFin C zrvI ad T R) 0 0 (mf_X12_asked R a0 i1 i2 M) 0 [(0, .ref a0), (1, .int i1), (2, .int i2)] [] ad T R M
  unfold mf_X12_asked
  refine zx_aload_n (i := 0) (zd me_X12_asked 0 rfl) rfl 0 rfl ?_
  refine zx_getR (zd me_X12_asked 1 rfl) fl_X12_98 (zi12_c h0) rfl (zi12_r14 h0) ?_
  refine zx_bipush (v := 18) (zd me_X12_asked 2 rfl) (by decide) ?_
  refine zx_bipush (v := 6) (zd me_X12_asked 3 rfl) (by decide) ?_
  refine zx_iload_n (i := 1) (zd me_X12_asked 4 rfl) rfl 1 rfl ?_
  refine zx_imul (zd me_X12_asked 5 rfl) ?_
  refine zx_iadd (zd me_X12_asked 6 rfl) ?_
  refine zx_iload_n (i := 2) (zd me_X12_asked 7 rfl) rfl 2 rfl ?_
  refine zx_iadd (zd me_X12_asked 8 rfl) ?_
  refine zx_iald (zd me_X12_asked 9 rfl) (zi12_t14 h0) (fun j1 hj1 => ?_)
  exact zx_iret (zd me_X12_asked 10 rfl) rfl
def mf_X12_askedBy (R : zRR) (a0 : Nat) (i1 : Int32) (i2 : Int32) (M : zMem) : Option (Int32 × zMem) :=
  zald 354 ((48 : Int32) + i1) fun j1 =>
  zcl (mf_X12_asked R a0 (M.1 (zrf R a0 14) j1) i2 M) fun r3 M2 =>
  some (r3, M2)
theorem mc_X12_askedBy (l : Launch) {T : zTT} {R : zRR} {a0 : Nat} (h0 : zi12 T R a0) (i1 : Int32) (i2 : Int32) (M : zMem) : zMS l yX12_askedBy mi_X12_askedBy zrvI (mf_X12_askedBy R a0 i1 i2 M) [.ref a0, .int i1, .int i2] T R M := by
  refine zMS.of (by decide +kernel) rfl ⟨rfl, rfl⟩ (Nat.le_of_ble_eq_true rfl) (fun C ad _ => ?_)
  show zX C mi_X12_askedBy (zFin C zrvI ad T R) 0 0 (mf_X12_askedBy R a0 i1 i2 M) 0 [(0, .ref a0), (1, .int i1), (2, .int i2)] [] ad T R M
  unfold mf_X12_askedBy
  refine zx_aload_n (i := 0) (zd me_X12_askedBy 0 rfl) rfl 0 rfl ?_
  refine zx_aload_n (i := 0) (zd me_X12_askedBy 1 rfl) rfl 0 rfl ?_
  refine zx_getR (zd me_X12_askedBy 2 rfl) fl_X12_98 (zi12_c h0) rfl (zi12_r14 h0) ?_
  refine zx_bipush (v := 48) (zd me_X12_askedBy 3 rfl) (by decide) ?_
  refine zx_iload_n (i := 1) (zd me_X12_askedBy 4 rfl) rfl 1 rfl ?_
  refine zx_iadd (zd me_X12_askedBy 5 rfl) ?_
  refine zx_iald (zd me_X12_askedBy 6 rfl) (zi12_t14 h0) (fun j1 hj1 => ?_)
  refine zx_iload_n (i := 2) (zd me_X12_askedBy 7 rfl) rfl 2 rfl ?_
  refine zx_callVI2 (zd me_X12_askedBy 8 rfl) (mc_X12_asked (zl C) h0 (M.1 (zrf R a0 14) j1) i2 M) lk_X12_233 ⟨(Nat.le_of_ble_eq_true rfl), (Nat.le_of_ble_eq_true rfl)⟩ (Nat.le_of_ble_eq_true rfl) (zi12_c h0) rfl (fun r3 M2 => ?_)
  exact zx_iret (zd me_X12_askedBy 9 rfl) rfl
def mf_X12_sheetsIn_b33 (R : zRR) (a0 : Nat) (H4 : Int32 → Int32 → Int32 → zMem → Option (Int32 × zMem)) (i1 : Int32) (i2 : Int32) (i3 : Int32) (M : zMem) : Option (Int32 × zMem) :=
  H4 i1 i2 (i3 + 1) M
theorem mt_X12_sheetsIn_b33 {C : zCx} {ad : Nat → Nat} {T : zTT} {R : zRR} {a0 : Nat} (h0 : zi12 T R a0) {H4 : Int32 → Int32 → Int32 → zMem → Option (Int32 × zMem)} (hH4 : ∀ (i1 : Int32) (i2 : Int32) (i3 : Int32) (M : zMem), zX C mi_X12_sheetsIn (zFin C zrvI ad T R) 0 0 (H4 i1 i2 i3 M) 4 [(0, .ref a0), (1, .int i1), (2, .int i2), (3, .int i3)] [] ad T R M) (i1 : Int32) (i2 : Int32) (i3 : Int32) (M : zMem) : zX C mi_X12_sheetsIn (zFin C zrvI ad T R) 0 0 (mf_X12_sheetsIn_b33 R a0 H4 i1 i2 i3 M) 33 [(0, .ref a0), (1, .int i1), (2, .int i2), (3, .int i3)] [] ad T R M := by
  unfold mf_X12_sheetsIn_b33
  refine zx_iinc (v := 1) (ls' := [(3, .int (i3 + 1)), (0, .ref a0), (1, .int i1), (2, .int i2)]) (zd me_X12_sheetsIn 24 rfl) (Nat.le_of_ble_eq_true rfl) 3 rfl (by decide) rfl ?_
  refine zx_goto (tgt := 4) (zd me_X12_sheetsIn 25 rfl) (by decide) ?_
  refine zx_loc [1, 2, 3, 0] rfl ?_
  exact hH4 i1 i2 (i3 + 1) M
def mf_X12_sheetsIn_l4 (R : zRR) (a0 : Nat) : Nat → Int32 → Int32 → Int32 → zMem → Option (Int32 × zMem)
  | 0, _, _, _, _ => none
  | fuel + 1, i1, i2, i3, M =>
    zald 354 (2 : Int32) fun j1 =>
    if (M.1 (zrf R a0 14) j1) ≤ i3 then
      (some (i2, M))
    else
      (zald 354 ((72 : Int32) + i3) fun j3 =>
      if (M.1 (zrf R a0 14) j3) = i1 then
        (zlet ((i2 ||| ((1 : Int32) <<< (i3 &&& 31))) : Int32) fun x5 =>
        mf_X12_sheetsIn_b33 R a0 (mf_X12_sheetsIn_l4 R a0 fuel) i1 x5 i3 M)
      else
        (mf_X12_sheetsIn_b33 R a0 (mf_X12_sheetsIn_l4 R a0 fuel) i1 i2 i3 M))
theorem mt_X12_sheetsIn_l4 {C : zCx} {ad : Nat → Nat} {T : zTT} {R : zRR} {a0 : Nat} (h0 : zi12 T R a0) : ∀ (fuel : Nat) (i1 : Int32) (i2 : Int32) (i3 : Int32) (M : zMem), zX C mi_X12_sheetsIn (zFin C zrvI ad T R) 0 0 (mf_X12_sheetsIn_l4 R a0 fuel i1 i2 i3 M) 4 [(0, .ref a0), (1, .int i1), (2, .int i2), (3, .int i3)] [] ad T R M := by
  intro fuel
  induction fuel with
  | zero => intros; exact zx_none
  | succ fuel ih =>
    intro i1 i2 i3 M
    rw [mf_X12_sheetsIn_l4]
    refine zx_iload_n (i := 3) (zd me_X12_sheetsIn 4 rfl) rfl 3 rfl ?_
    refine zx_aload_n (i := 0) (zd me_X12_sheetsIn 5 rfl) rfl 0 rfl ?_
    refine zx_getR (zd me_X12_sheetsIn 6 rfl) fl_X12_98 (zi12_c h0) rfl (zi12_r14 h0) ?_
    refine zx_iconst (v := 2) (zd me_X12_sheetsIn 7 rfl) (by decide) ?_
    refine zx_iald (zd me_X12_sheetsIn 8 rfl) (zi12_t14 h0) (fun j1 hj1 => ?_)
    refine zx_icmp_ge (tgt := 39) (zd me_X12_sheetsIn 9 rfl) (by decide) (fun c2 => ?_) (fun c2 => ?_)
    · refine zx_iload_n (i := 2) (zd me_X12_sheetsIn 26 rfl) rfl 2 rfl ?_
      exact zx_iret (zd me_X12_sheetsIn 27 rfl) rfl
    · refine zx_aload_n (i := 0) (zd me_X12_sheetsIn 10 rfl) rfl 0 rfl ?_
      refine zx_getR (zd me_X12_sheetsIn 11 rfl) fl_X12_98 (zi12_c h0) rfl (zi12_r14 h0) ?_
      refine zx_bipush (v := 72) (zd me_X12_sheetsIn 12 rfl) (by decide) ?_
      refine zx_iload_n (i := 3) (zd me_X12_sheetsIn 13 rfl) rfl 3 rfl ?_
      refine zx_iadd (zd me_X12_sheetsIn 14 rfl) ?_
      refine zx_iald (zd me_X12_sheetsIn 15 rfl) (zi12_t14 h0) (fun j3 hj3 => ?_)
      refine zx_iload_n (i := 1) (zd me_X12_sheetsIn 16 rfl) rfl 1 rfl ?_
      refine zx_icmp_ne (tgt := 33) (zd me_X12_sheetsIn 17 rfl) (by decide) (fun c4 => ?_) (fun c4 => ?_)
      · exact mt_X12_sheetsIn_b33 h0 ih i1 i2 i3 M
      · refine zx_iload_n (i := 2) (zd me_X12_sheetsIn 18 rfl) rfl 2 rfl ?_
        refine zx_iconst (v := 1) (zd me_X12_sheetsIn 19 rfl) (by decide) ?_
        refine zx_iload_n (i := 3) (zd me_X12_sheetsIn 20 rfl) rfl 3 rfl ?_
        refine zx_ishl (zd me_X12_sheetsIn 21 rfl) ?_
        refine zx_ior (zd me_X12_sheetsIn 22 rfl) ?_
        refine zx_leti (fun x5 => ?_)
        refine zx_istore_n (i := 2) (ls' := [(2, .int x5), (0, .ref a0), (1, .int i1), (3, .int i3)]) (zd me_X12_sheetsIn 23 rfl) rfl (Nat.le_of_ble_eq_true rfl) rfl ?_
        refine zx_loc [1, 2, 0, 3] rfl ?_
        exact mt_X12_sheetsIn_b33 h0 ih i1 x5 i3 M
def mf_X12_sheetsIn (R : zRR) (a0 : Nat) (i1 : Int32) (M : zMem) : Option (Int32 × zMem) :=
  mf_X12_sheetsIn_l4 R a0 zF i1 (0 : Int32) (0 : Int32) M
theorem mc_X12_sheetsIn (l : Launch) {T : zTT} {R : zRR} {a0 : Nat} (h0 : zi12 T R a0) (i1 : Int32) (M : zMem) : zMS l yX12_sheetsIn mi_X12_sheetsIn zrvI (mf_X12_sheetsIn R a0 i1 M) [.ref a0, .int i1] T R M := by
  refine zMS.of (by decide +kernel) rfl ⟨rfl, rfl⟩ (Nat.le_of_ble_eq_true rfl) (fun C ad _ => ?_)
  show zX C mi_X12_sheetsIn (zFin C zrvI ad T R) 0 0 (mf_X12_sheetsIn R a0 i1 M) 0 [(0, .ref a0), (1, .int i1)] [] ad T R M
  unfold mf_X12_sheetsIn
  refine zx_iconst (v := 0) (zd me_X12_sheetsIn 0 rfl) (by decide) ?_
  refine zx_istore_n (i := 2) (ls' := [(2, .int (0 : Int32)), (0, .ref a0), (1, .int i1)]) (zd me_X12_sheetsIn 1 rfl) rfl (Nat.le_of_ble_eq_true rfl) rfl ?_
  refine zx_iconst (v := 0) (zd me_X12_sheetsIn 2 rfl) (by decide) ?_
  refine zx_istore_n (i := 3) (ls' := [(3, .int (0 : Int32)), (2, .int (0 : Int32)), (0, .ref a0), (1, .int i1)]) (zd me_X12_sheetsIn 3 rfl) rfl (Nat.le_of_ble_eq_true rfl) rfl ?_
  refine zx_loc [2, 3, 1, 0] rfl ?_
  exact mt_X12_sheetsIn_l4 h0 zF i1 (0 : Int32) (0 : Int32) M
def mf_X12_isOpen (R : zRR) (a0 : Nat) (i1 : Int32) (M : zMem) : Option (Int32 × zMem) :=
  zcl (mf_X12_sheetsIn R a0 i1 M) fun r2 M1 =>
  zcl (mf_X12_bits R r2 M1) fun r4 M3 =>
  zald 354 ((6 : Int32) + i1) fun j5 =>
  if (M3.1 (zrf R a0 14) j5) ≤ r4 then
    (some ((0 : Int32), M3))
  else
    (zald 354 ((58 : Int32) + i1) fun j7 =>
    zald 354 ((12 : Int32) + i1) fun j8 =>
    if (M3.1 (zrf R a0 14) j8) ≤ (M3.1 (zrf R a0 14) j7) then
      (some ((0 : Int32), M3))
    else
      (some ((1 : Int32), M3)))
theorem mc_X12_isOpen (l : Launch) {T : zTT} {R : zRR} {a0 : Nat} (h0 : zi12 T R a0) (i1 : Int32) (M : zMem) : zMS l yX12_isOpen mi_X12_isOpen zrvI (mf_X12_isOpen R a0 i1 M) [.ref a0, .int i1] T R M := by
  refine zMS.of (by decide +kernel) rfl ⟨rfl, rfl⟩ (Nat.le_of_ble_eq_true rfl) (fun C ad _ => ?_)
  show zX C mi_X12_isOpen (zFin C zrvI ad T R) 0 0 (mf_X12_isOpen R a0 i1 M) 0 [(0, .ref a0), (1, .int i1)] [] ad T R M
  unfold mf_X12_isOpen
  refine zx_aload_n (i := 0) (zd me_X12_isOpen 0 rfl) rfl 0 rfl ?_
  refine zx_iload_n (i := 1) (zd me_X12_isOpen 1 rfl) rfl 1 rfl ?_
  refine zx_callVI1 (zd me_X12_isOpen 2 rfl) (mc_X12_sheetsIn (zl C) h0 i1 M) lk_X12_237 ⟨(Nat.le_of_ble_eq_true rfl), (Nat.le_of_ble_eq_true rfl)⟩ (Nat.le_of_ble_eq_true rfl) (zi12_c h0) rfl (fun r2 M1 => ?_)
  refine zx_callSI1 (zd me_X12_isOpen 3 rfl) (mc_X12_bits (zl C) r2 M1) lk_X12_240 ⟨(Nat.le_of_ble_eq_true rfl), (Nat.le_of_ble_eq_true rfl)⟩ (Nat.le_of_ble_eq_true rfl) (fun r4 M3 => ?_)
  refine zx_aload_n (i := 0) (zd me_X12_isOpen 4 rfl) rfl 0 rfl ?_
  refine zx_getR (zd me_X12_isOpen 5 rfl) fl_X12_98 (zi12_c h0) rfl (zi12_r14 h0) ?_
  refine zx_bipush (v := 6) (zd me_X12_isOpen 6 rfl) (by decide) ?_
  refine zx_iload_n (i := 1) (zd me_X12_isOpen 7 rfl) rfl 1 rfl ?_
  refine zx_iadd (zd me_X12_isOpen 8 rfl) ?_
  refine zx_iald (zd me_X12_isOpen 9 rfl) (zi12_t14 h0) (fun j5 hj5 => ?_)
  refine zx_icmp_ge (tgt := 45) (zd me_X12_isOpen 10 rfl) (by decide) (fun c6 => ?_) (fun c6 => ?_)
  · refine zx_iconst (v := 0) (zd me_X12_isOpen 26 rfl) (by decide) ?_
    exact zx_zret (zd me_X12_isOpen 27 rfl) rfl rfl
  · refine zx_aload_n (i := 0) (zd me_X12_isOpen 11 rfl) rfl 0 rfl ?_
    refine zx_getR (zd me_X12_isOpen 12 rfl) fl_X12_98 (zi12_c h0) rfl (zi12_r14 h0) ?_
    refine zx_bipush (v := 58) (zd me_X12_isOpen 13 rfl) (by decide) ?_
    refine zx_iload_n (i := 1) (zd me_X12_isOpen 14 rfl) rfl 1 rfl ?_
    refine zx_iadd (zd me_X12_isOpen 15 rfl) ?_
    refine zx_iald (zd me_X12_isOpen 16 rfl) (zi12_t14 h0) (fun j7 hj7 => ?_)
    refine zx_aload_n (i := 0) (zd me_X12_isOpen 17 rfl) rfl 0 rfl ?_
    refine zx_getR (zd me_X12_isOpen 18 rfl) fl_X12_98 (zi12_c h0) rfl (zi12_r14 h0) ?_
    refine zx_bipush (v := 12) (zd me_X12_isOpen 19 rfl) (by decide) ?_
    refine zx_iload_n (i := 1) (zd me_X12_isOpen 20 rfl) rfl 1 rfl ?_
    refine zx_iadd (zd me_X12_isOpen 21 rfl) ?_
    refine zx_iald (zd me_X12_isOpen 22 rfl) (zi12_t14 h0) (fun j8 hj8 => ?_)
    refine zx_icmp_ge (tgt := 45) (zd me_X12_isOpen 23 rfl) (by decide) (fun c9 => ?_) (fun c9 => ?_)
    · refine zx_iconst (v := 0) (zd me_X12_isOpen 26 rfl) (by decide) ?_
      exact zx_zret (zd me_X12_isOpen 27 rfl) rfl rfl
    · refine zx_iconst (v := 1) (zd me_X12_isOpen 24 rfl) (by decide) ?_
      refine zx_goto (tgt := 46) (zd me_X12_isOpen 25 rfl) (by decide) ?_
      exact zx_zret (zd me_X12_isOpen 27 rfl) rfl rfl
def mf_X12_nextOf_l4 (R : zRR) (a0 : Nat) : Nat → Int32 → Int32 → zMem → Option (Int32 × zMem)
  | 0, _, _, _ => none
  | fuel + 1, i1, i3, M =>
    zald 354 (0 : Int32) fun j2 =>
    if (M.1 (zrf R a0 14) j2) ≤ i3 then
      (some ((-1 : Int32), M))
    else
      (zcl (mf_X12_askedBy R a0 i1 i3 M) fun r5 M4 =>
      if r5 ≤ 0 then
        (mf_X12_nextOf_l4 R a0 fuel i1 (i3 + 1) M4)
      else
        (some (i3, M4)))
theorem mt_X12_nextOf_l4 {C : zCx} {ad : Nat → Nat} {T : zTT} {R : zRR} {a0 : Nat} (h0 : zi12 T R a0) : ∀ (fuel : Nat) (i1 : Int32) (i3 : Int32) (M : zMem), zX C mi_X12_nextOf (zFin C zrvI ad T R) 0 0 (mf_X12_nextOf_l4 R a0 fuel i1 i3 M) 4 [(0, .ref a0), (1, .int i1), (3, .int i3)] [] ad T R M := by
  intro fuel
  induction fuel with
  | zero => intros; exact zx_none
  | succ fuel ih =>
    intro i1 i3 M
    rw [mf_X12_nextOf_l4]
    refine zx_iload_n (i := 3) (zd me_X12_nextOf 4 rfl) rfl 2 rfl ?_
    refine zx_aload_n (i := 0) (zd me_X12_nextOf 5 rfl) rfl 0 rfl ?_
    refine zx_getR (zd me_X12_nextOf 6 rfl) fl_X12_98 (zi12_c h0) rfl (zi12_r14 h0) ?_
    refine zx_iconst (v := 0) (zd me_X12_nextOf 7 rfl) (by decide) ?_
    refine zx_iald (zd me_X12_nextOf 8 rfl) (zi12_t14 h0) (fun j2 hj2 => ?_)
    refine zx_icmp_ge (tgt := 31) (zd me_X12_nextOf 9 rfl) (by decide) (fun c3 => ?_) (fun c3 => ?_)
    · refine zx_iconst (v := (-1)) (zd me_X12_nextOf 19 rfl) (by decide) ?_
      exact zx_iret (zd me_X12_nextOf 20 rfl) rfl
    · refine zx_aload_n (i := 0) (zd me_X12_nextOf 10 rfl) rfl 0 rfl ?_
      refine zx_iload_n (i := 1) (zd me_X12_nextOf 11 rfl) rfl 1 rfl ?_
      refine zx_iload_n (i := 3) (zd me_X12_nextOf 12 rfl) rfl 2 rfl ?_
      refine zx_callVI2 (zd me_X12_nextOf 13 rfl) (mc_X12_askedBy (zl C) h0 i1 i3 M) lk_X12_243 ⟨(Nat.le_of_ble_eq_true rfl), (Nat.le_of_ble_eq_true rfl)⟩ (Nat.le_of_ble_eq_true rfl) (zi12_c h0) rfl (fun r5 M4 => ?_)
      refine zx_if_le (tgt := 25) (zd me_X12_nextOf 14 rfl) (by decide) (fun c6 => ?_) (fun c6 => ?_)
      · refine zx_iinc (v := 1) (ls' := [(3, .int (i3 + 1)), (0, .ref a0), (1, .int i1)]) (zd me_X12_nextOf 17 rfl) (Nat.le_of_ble_eq_true rfl) 2 rfl (by decide) rfl ?_
        refine zx_goto (tgt := 4) (zd me_X12_nextOf 18 rfl) (by decide) ?_
        refine zx_loc [1, 2, 0] rfl ?_
        exact ih i1 (i3 + 1) M4
      · refine zx_iload_n (i := 3) (zd me_X12_nextOf 15 rfl) rfl 2 rfl ?_
        exact zx_iret (zd me_X12_nextOf 16 rfl) rfl
def mf_X12_nextOf (R : zRR) (a0 : Nat) (i1 : Int32) (i2 : Int32) (M : zMem) : Option (Int32 × zMem) :=
  zlet ((i2 + (1 : Int32)) : Int32) fun x1 =>
  mf_X12_nextOf_l4 R a0 zF i1 x1 M
theorem mc_X12_nextOf (l : Launch) {T : zTT} {R : zRR} {a0 : Nat} (h0 : zi12 T R a0) (i1 : Int32) (i2 : Int32) (M : zMem) : zMS l yX12_nextOf mi_X12_nextOf zrvI (mf_X12_nextOf R a0 i1 i2 M) [.ref a0, .int i1, .int i2] T R M := by
  refine zMS.of (by decide +kernel) rfl ⟨rfl, rfl⟩ (Nat.le_of_ble_eq_true rfl) (fun C ad _ => ?_)
  show zX C mi_X12_nextOf (zFin C zrvI ad T R) 0 0 (mf_X12_nextOf R a0 i1 i2 M) 0 [(0, .ref a0), (1, .int i1), (2, .int i2)] [] ad T R M
  unfold mf_X12_nextOf
  refine zx_iload_n (i := 2) (zd me_X12_nextOf 0 rfl) rfl 2 rfl ?_
  refine zx_iconst (v := 1) (zd me_X12_nextOf 1 rfl) (by decide) ?_
  refine zx_iadd (zd me_X12_nextOf 2 rfl) ?_
  refine zx_leti (fun x1 => ?_)
  refine zx_istore_n (i := 3) (ls' := [(3, .int x1), (0, .ref a0), (1, .int i1), (2, .int i2)]) (zd me_X12_nextOf 3 rfl) rfl (Nat.le_of_ble_eq_true rfl) rfl ?_
  refine zx_loc [1, 2, 0] rfl ?_
  exact mt_X12_nextOf_l4 h0 zF i1 x1 M
def mf_X12_needOf_b55 (R : zRR) (a0 : Nat) (H4 : Int32 → Int32 → Int32 → zMem → Option (Int32 × zMem)) (i1 : Int32) (i2 : Int32) (i3 : Int32) (M : zMem) : Option (Int32 × zMem) :=
  H4 i1 i2 (i3 + 1) M
theorem mt_X12_needOf_b55 {C : zCx} {ad : Nat → Nat} {T : zTT} {R : zRR} {a0 : Nat} (h0 : zi12 T R a0) {H4 : Int32 → Int32 → Int32 → zMem → Option (Int32 × zMem)} (hH4 : ∀ (i1 : Int32) (i2 : Int32) (i3 : Int32) (M : zMem), zX C mi_X12_needOf (zFin C zrvI ad T R) 0 0 (H4 i1 i2 i3 M) 4 [(0, .ref a0), (1, .int i1), (2, .int i2), (3, .int i3)] [] ad T R M) (i1 : Int32) (i2 : Int32) (i3 : Int32) (M : zMem) : zX C mi_X12_needOf (zFin C zrvI ad T R) 0 0 (mf_X12_needOf_b55 R a0 H4 i1 i2 i3 M) 55 [(0, .ref a0), (1, .int i1), (2, .int i2), (3, .int i3)] [] ad T R M := by
  unfold mf_X12_needOf_b55
  refine zx_iinc (v := 1) (ls' := [(3, .int (i3 + 1)), (0, .ref a0), (1, .int i1), (2, .int i2)]) (zd me_X12_needOf 32 rfl) (Nat.le_of_ble_eq_true rfl) 3 rfl (by decide) rfl ?_
  refine zx_goto (tgt := 4) (zd me_X12_needOf 33 rfl) (by decide) ?_
  refine zx_loc [1, 2, 3, 0] rfl ?_
  exact hH4 i1 i2 (i3 + 1) M
def mf_X12_needOf_b52 (R : zRR) (a0 : Nat) (H4 : Int32 → Int32 → Int32 → zMem → Option (Int32 × zMem)) (i1 : Int32) (i2 : Int32) (i3 : Int32) (M : zMem) : Option (Int32 × zMem) :=
  mf_X12_needOf_b55 R a0 H4 i1 (i2 + 1) i3 M
theorem mt_X12_needOf_b52 {C : zCx} {ad : Nat → Nat} {T : zTT} {R : zRR} {a0 : Nat} (h0 : zi12 T R a0) {H4 : Int32 → Int32 → Int32 → zMem → Option (Int32 × zMem)} (hH4 : ∀ (i1 : Int32) (i2 : Int32) (i3 : Int32) (M : zMem), zX C mi_X12_needOf (zFin C zrvI ad T R) 0 0 (H4 i1 i2 i3 M) 4 [(0, .ref a0), (1, .int i1), (2, .int i2), (3, .int i3)] [] ad T R M) (i1 : Int32) (i2 : Int32) (i3 : Int32) (M : zMem) : zX C mi_X12_needOf (zFin C zrvI ad T R) 0 0 (mf_X12_needOf_b52 R a0 H4 i1 i2 i3 M) 52 [(0, .ref a0), (1, .int i1), (2, .int i2), (3, .int i3)] [] ad T R M := by
  unfold mf_X12_needOf_b52
  refine zx_iinc (v := 1) (ls' := [(2, .int (i2 + 1)), (0, .ref a0), (1, .int i1), (3, .int i3)]) (zd me_X12_needOf 31 rfl) (Nat.le_of_ble_eq_true rfl) 2 rfl (by decide) rfl ?_
  refine zx_loc [1, 2, 0, 3] rfl ?_
  exact mt_X12_needOf_b55 h0 hH4 i1 (i2 + 1) i3 M
def mf_X12_needOf_l4 (R : zRR) (a0 : Nat) : Nat → Int32 → Int32 → Int32 → zMem → Option (Int32 × zMem)
  | 0, _, _, _, _ => none
  | fuel + 1, i1, i2, i3, M =>
    zald 354 (2 : Int32) fun j1 =>
    if (M.1 (zrf R a0 14) j1) ≤ i3 then
      (zald 354 ((12 : Int32) + i1) fun j3 =>
      zald 354 ((58 : Int32) + i1) fun j4 =>
      zlet ((i2 - ((M.1 (zrf R a0 14) j3) - (M.1 (zrf R a0 14) j4))) : Int32) fun x5 =>
      if 0 < x5 then
        (zald 354 ((12 : Int32) + i1) fun j7 =>
        zald 354 ((12 : Int32) + i1) fun j8 =>
        zchk (¬ (M.1 (zrf R a0 14) j8) = 0) <|
        some ((((x5 + (M.1 (zrf R a0 14) j7)) - (1 : Int32)) / (M.1 (zrf R a0 14) j8)), M))
      else
        (some ((0 : Int32), M)))
    else
      (zcl (mf_X12_askedBy R a0 i3 i1 M) fun r10 M9 =>
      if r10 ≤ 0 then
        (mf_X12_needOf_b55 R a0 (mf_X12_needOf_l4 R a0 fuel) i1 i2 i3 M9)
      else
        (zcl (mf_X12_isWaiting R a0 i3 M9) fun r13 M12 =>
        if r13 = 0 then
          (zcl (mf_X12_isBathed R a0 i3 M12) fun r16 M15 =>
          if r16 = 0 then
            (mf_X12_needOf_b55 R a0 (mf_X12_needOf_l4 R a0 fuel) i1 i2 i3 M15)
          else
            (zald 354 ((72 : Int32) + i3) fun j18 =>
            if i1 ≤ (M15.1 (zrf R a0 14) j18) then
              (mf_X12_needOf_b55 R a0 (mf_X12_needOf_l4 R a0 fuel) i1 i2 i3 M15)
            else
              (mf_X12_needOf_b52 R a0 (mf_X12_needOf_l4 R a0 fuel) i1 i2 i3 M15)))
        else
          (mf_X12_needOf_b52 R a0 (mf_X12_needOf_l4 R a0 fuel) i1 i2 i3 M12)))
theorem mt_X12_needOf_l4 {C : zCx} {ad : Nat → Nat} {T : zTT} {R : zRR} {a0 : Nat} (h0 : zi12 T R a0) : ∀ (fuel : Nat) (i1 : Int32) (i2 : Int32) (i3 : Int32) (M : zMem), zX C mi_X12_needOf (zFin C zrvI ad T R) 0 0 (mf_X12_needOf_l4 R a0 fuel i1 i2 i3 M) 4 [(0, .ref a0), (1, .int i1), (2, .int i2), (3, .int i3)] [] ad T R M := by
  intro fuel
  induction fuel with
  | zero => intros; exact zx_none
  | succ fuel ih =>
    intro i1 i2 i3 M
    rw [mf_X12_needOf_l4]
    refine zx_iload_n (i := 3) (zd me_X12_needOf 4 rfl) rfl 3 rfl ?_
    refine zx_aload_n (i := 0) (zd me_X12_needOf 5 rfl) rfl 0 rfl ?_
    refine zx_getR (zd me_X12_needOf 6 rfl) fl_X12_98 (zi12_c h0) rfl (zi12_r14 h0) ?_
    refine zx_iconst (v := 2) (zd me_X12_needOf 7 rfl) (by decide) ?_
    refine zx_iald (zd me_X12_needOf 8 rfl) (zi12_t14 h0) (fun j1 hj1 => ?_)
    refine zx_icmp_ge (tgt := 61) (zd me_X12_needOf 9 rfl) (by decide) (fun c2 => ?_) (fun c2 => ?_)
    · refine zx_iload_n (i := 2) (zd me_X12_needOf 34 rfl) rfl 2 rfl ?_
      refine zx_aload_n (i := 0) (zd me_X12_needOf 35 rfl) rfl 0 rfl ?_
      refine zx_getR (zd me_X12_needOf 36 rfl) fl_X12_98 (zi12_c h0) rfl (zi12_r14 h0) ?_
      refine zx_bipush (v := 12) (zd me_X12_needOf 37 rfl) (by decide) ?_
      refine zx_iload_n (i := 1) (zd me_X12_needOf 38 rfl) rfl 1 rfl ?_
      refine zx_iadd (zd me_X12_needOf 39 rfl) ?_
      refine zx_iald (zd me_X12_needOf 40 rfl) (zi12_t14 h0) (fun j3 hj3 => ?_)
      refine zx_aload_n (i := 0) (zd me_X12_needOf 41 rfl) rfl 0 rfl ?_
      refine zx_getR (zd me_X12_needOf 42 rfl) fl_X12_98 (zi12_c h0) rfl (zi12_r14 h0) ?_
      refine zx_bipush (v := 58) (zd me_X12_needOf 43 rfl) (by decide) ?_
      refine zx_iload_n (i := 1) (zd me_X12_needOf 44 rfl) rfl 1 rfl ?_
      refine zx_iadd (zd me_X12_needOf 45 rfl) ?_
      refine zx_iald (zd me_X12_needOf 46 rfl) (zi12_t14 h0) (fun j4 hj4 => ?_)
      refine zx_isub (zd me_X12_needOf 47 rfl) ?_
      refine zx_isub (zd me_X12_needOf 48 rfl) ?_
      refine zx_leti (fun x5 => ?_)
      refine zx_istore_n (i := 3) (ls' := [(3, .int x5), (0, .ref a0), (1, .int i1), (2, .int i2)]) (zd me_X12_needOf 49 rfl) rfl (Nat.le_of_ble_eq_true rfl) rfl ?_
      refine zx_iload_n (i := 3) (zd me_X12_needOf 50 rfl) rfl 0 rfl ?_
      refine zx_if_gt (tgt := 91) (zd me_X12_needOf 51 rfl) (by decide) (fun c6 => ?_) (fun c6 => ?_)
      · refine zx_iload_n (i := 3) (zd me_X12_needOf 54 rfl) rfl 0 rfl ?_
        refine zx_aload_n (i := 0) (zd me_X12_needOf 55 rfl) rfl 1 rfl ?_
        refine zx_getR (zd me_X12_needOf 56 rfl) fl_X12_98 (zi12_c h0) rfl (zi12_r14 h0) ?_
        refine zx_bipush (v := 12) (zd me_X12_needOf 57 rfl) (by decide) ?_
        refine zx_iload_n (i := 1) (zd me_X12_needOf 58 rfl) rfl 2 rfl ?_
        refine zx_iadd (zd me_X12_needOf 59 rfl) ?_
        refine zx_iald (zd me_X12_needOf 60 rfl) (zi12_t14 h0) (fun j7 hj7 => ?_)
        refine zx_iadd (zd me_X12_needOf 61 rfl) ?_
        refine zx_iconst (v := 1) (zd me_X12_needOf 62 rfl) (by decide) ?_
        refine zx_isub (zd me_X12_needOf 63 rfl) ?_
        refine zx_aload_n (i := 0) (zd me_X12_needOf 64 rfl) rfl 1 rfl ?_
        refine zx_getR (zd me_X12_needOf 65 rfl) fl_X12_98 (zi12_c h0) rfl (zi12_r14 h0) ?_
        refine zx_bipush (v := 12) (zd me_X12_needOf 66 rfl) (by decide) ?_
        refine zx_iload_n (i := 1) (zd me_X12_needOf 67 rfl) rfl 2 rfl ?_
        refine zx_iadd (zd me_X12_needOf 68 rfl) ?_
        refine zx_iald (zd me_X12_needOf 69 rfl) (zi12_t14 h0) (fun j8 hj8 => ?_)
        refine zx_idiv (zd me_X12_needOf 70 rfl) ?_
        exact zx_iret (zd me_X12_needOf 71 rfl) rfl
      · refine zx_iconst (v := 0) (zd me_X12_needOf 52 rfl) (by decide) ?_
        refine zx_goto (tgt := 114) (zd me_X12_needOf 53 rfl) (by decide) ?_
        exact zx_iret (zd me_X12_needOf 71 rfl) rfl
    · refine zx_aload_n (i := 0) (zd me_X12_needOf 10 rfl) rfl 0 rfl ?_
      refine zx_iload_n (i := 3) (zd me_X12_needOf 11 rfl) rfl 3 rfl ?_
      refine zx_iload_n (i := 1) (zd me_X12_needOf 12 rfl) rfl 1 rfl ?_
      refine zx_callVI2 (zd me_X12_needOf 13 rfl) (mc_X12_askedBy (zl C) h0 i3 i1 M) lk_X12_243 ⟨(Nat.le_of_ble_eq_true rfl), (Nat.le_of_ble_eq_true rfl)⟩ (Nat.le_of_ble_eq_true rfl) (zi12_c h0) rfl (fun r10 M9 => ?_)
      refine zx_if_le (tgt := 55) (zd me_X12_needOf 14 rfl) (by decide) (fun c11 => ?_) (fun c11 => ?_)
      · exact mt_X12_needOf_b55 h0 ih i1 i2 i3 M9
      · refine zx_aload_n (i := 0) (zd me_X12_needOf 15 rfl) rfl 0 rfl ?_
        refine zx_iload_n (i := 3) (zd me_X12_needOf 16 rfl) rfl 3 rfl ?_
        refine zx_callVI1 (zd me_X12_needOf 17 rfl) (mc_X12_isWaiting (zl C) h0 i3 M9) lk_X12_246 ⟨(Nat.le_of_ble_eq_true rfl), (Nat.le_of_ble_eq_true rfl)⟩ (Nat.le_of_ble_eq_true rfl) (zi12_c h0) rfl (fun r13 M12 => ?_)
        refine zx_if_ne (tgt := 52) (zd me_X12_needOf 18 rfl) (by decide) (fun c14 => ?_) (fun c14 => ?_)
        · exact mt_X12_needOf_b52 h0 ih i1 i2 i3 M12
        · refine zx_aload_n (i := 0) (zd me_X12_needOf 19 rfl) rfl 0 rfl ?_
          refine zx_iload_n (i := 3) (zd me_X12_needOf 20 rfl) rfl 3 rfl ?_
          refine zx_callVI1 (zd me_X12_needOf 21 rfl) (mc_X12_isBathed (zl C) h0 i3 M12) lk_X12_230 ⟨(Nat.le_of_ble_eq_true rfl), (Nat.le_of_ble_eq_true rfl)⟩ (Nat.le_of_ble_eq_true rfl) (zi12_c h0) rfl (fun r16 M15 => ?_)
          refine zx_if_eq (tgt := 55) (zd me_X12_needOf 22 rfl) (by decide) (fun c17 => ?_) (fun c17 => ?_)
          · exact mt_X12_needOf_b55 h0 ih i1 i2 i3 M15
          · refine zx_aload_n (i := 0) (zd me_X12_needOf 23 rfl) rfl 0 rfl ?_
            refine zx_getR (zd me_X12_needOf 24 rfl) fl_X12_98 (zi12_c h0) rfl (zi12_r14 h0) ?_
            refine zx_bipush (v := 72) (zd me_X12_needOf 25 rfl) (by decide) ?_
            refine zx_iload_n (i := 3) (zd me_X12_needOf 26 rfl) rfl 3 rfl ?_
            refine zx_iadd (zd me_X12_needOf 27 rfl) ?_
            refine zx_iald (zd me_X12_needOf 28 rfl) (zi12_t14 h0) (fun j18 hj18 => ?_)
            refine zx_iload_n (i := 1) (zd me_X12_needOf 29 rfl) rfl 1 rfl ?_
            refine zx_icmp_ge (tgt := 55) (zd me_X12_needOf 30 rfl) (by decide) (fun c19 => ?_) (fun c19 => ?_)
            · exact mt_X12_needOf_b55 h0 ih i1 i2 i3 M15
            · exact mt_X12_needOf_b52 h0 ih i1 i2 i3 M15
def mf_X12_needOf (R : zRR) (a0 : Nat) (i1 : Int32) (M : zMem) : Option (Int32 × zMem) :=
  mf_X12_needOf_l4 R a0 zF i1 (0 : Int32) (0 : Int32) M
theorem mc_X12_needOf (l : Launch) {T : zTT} {R : zRR} {a0 : Nat} (h0 : zi12 T R a0) (i1 : Int32) (M : zMem) : zMS l yX12_needOf mi_X12_needOf zrvI (mf_X12_needOf R a0 i1 M) [.ref a0, .int i1] T R M := by
  refine zMS.of (by decide +kernel) rfl ⟨rfl, rfl⟩ (Nat.le_of_ble_eq_true rfl) (fun C ad _ => ?_)
  show zX C mi_X12_needOf (zFin C zrvI ad T R) 0 0 (mf_X12_needOf R a0 i1 M) 0 [(0, .ref a0), (1, .int i1)] [] ad T R M
  unfold mf_X12_needOf
  refine zx_iconst (v := 0) (zd me_X12_needOf 0 rfl) (by decide) ?_
  refine zx_istore_n (i := 2) (ls' := [(2, .int (0 : Int32)), (0, .ref a0), (1, .int i1)]) (zd me_X12_needOf 1 rfl) rfl (Nat.le_of_ble_eq_true rfl) rfl ?_
  refine zx_iconst (v := 0) (zd me_X12_needOf 2 rfl) (by decide) ?_
  refine zx_istore_n (i := 3) (ls' := [(3, .int (0 : Int32)), (2, .int (0 : Int32)), (0, .ref a0), (1, .int i1)]) (zd me_X12_needOf 3 rfl) rfl (Nat.le_of_ble_eq_true rfl) rfl ?_
  refine zx_loc [2, 3, 1, 0] rfl ?_
  exact mt_X12_needOf_l4 h0 zF i1 (0 : Int32) (0 : Int32) M
def mf_X12_bath (R : zRR) (a0 : Nat) (i1 : Int32) (i2 : Int32) (M : zMem) : Option (Int32 × zMem) :=
  zlet (zwI M a0 0 (0 : Int32)) fun M1 =>
  zcl (mf_X12_isBath R a0 i1 M1) fun r3 M2 =>
  if r3 = 0 then
    (some ((-1 : Int32), M2))
  else
    (if i2 = 0 then
      (zald 354 ((6 : Int32) + i1) fun j6 =>
      some ((M2.1 (zrf R a0 14) j6), M2))
    else
    if i2 = 1 then
      (zald 354 ((12 : Int32) + i1) fun j8 =>
      some ((M2.1 (zrf R a0 14) j8), M2))
    else
    if i2 = 2 then
      (zald 354 ((58 : Int32) + i1) fun j10 =>
      some ((M2.1 (zrf R a0 14) j10), M2))
    else
    if i2 = 3 then
      (zcl (mf_X12_sheetsIn R a0 i1 M2) fun r13 M12 =>
      some (r13, M12))
    else
    if i2 = 4 then
      (zcl (mf_X12_isOpen R a0 i1 M2) fun r16 M15 =>
      if r16 = 0 then
        (some ((0 : Int32), M15))
      else
        (some ((1 : Int32), M15)))
    else
    if i2 = 5 then
      (zcl (mf_X12_needOf R a0 i1 M2) fun r20 M19 =>
      some (r20, M19))
    else
      (some ((-1 : Int32), M2)))
theorem mc_X12_bath (l : Launch) {T : zTT} {R : zRR} {a0 : Nat} (h0 : zi12 T R a0) (i1 : Int32) (i2 : Int32) (M : zMem) : zMS l yX12_bath mi_X12_bath zrvI (mf_X12_bath R a0 i1 i2 M) [.ref a0, .int i1, .int i2] T R M := by
  refine zMS.of (by decide +kernel) rfl ⟨rfl, rfl⟩ (Nat.le_of_ble_eq_true rfl) (fun C ad _ => ?_)
  show zX C mi_X12_bath (zFin C zrvI ad T R) 0 0 (mf_X12_bath R a0 i1 i2 M) 0 [(0, .ref a0), (1, .int i1), (2, .int i2)] [] ad T R M
  unfold mf_X12_bath
  refine zx_aload_n (i := 0) (zd me_X12_bath 0 rfl) rfl 0 rfl ?_
  refine zx_iconst (v := 0) (zd me_X12_bath 1 rfl) (by decide) ?_
  refine zx_putI (zd me_X12_bath 2 rfl) fp_X12_1 (zi12_c h0) rfl (fun M1 _ => ?_)
  refine zx_aload_n (i := 0) (zd me_X12_bath 3 rfl) rfl 0 rfl ?_
  refine zx_iload_n (i := 1) (zd me_X12_bath 4 rfl) rfl 1 rfl ?_
  refine zx_callVI1 (zd me_X12_bath 5 rfl) (mc_X12_isBath (zl C) h0 i1 M1) lk_X12_249 ⟨(Nat.le_of_ble_eq_true rfl), (Nat.le_of_ble_eq_true rfl)⟩ (Nat.le_of_ble_eq_true rfl) (zi12_c h0) rfl (fun r3 M2 => ?_)
  refine zx_if_ne (tgt := 15) (zd me_X12_bath 6 rfl) (by decide) (fun c4 => ?_) (fun c4 => ?_)
  · refine zx_iload_n (i := 2) (zd me_X12_bath 9 rfl) rfl 2 rfl ?_
    refine zx_ite (fun c5 => ?_) (fun c5 => ?_)
    · refine zx_tin (off := 40) (tgt := 56) (zd me_X12_bath 10 rfl) (by rw [c5]; decide) (by rw [c5]; decide) (by rw [c5]; rfl) (by decide) ?_
      refine zx_aload_n (i := 0) (zd me_X12_bath 11 rfl) rfl 0 rfl ?_
      refine zx_getR (zd me_X12_bath 12 rfl) fl_X12_98 (zi12_c h0) rfl (zi12_r14 h0) ?_
      refine zx_bipush (v := 6) (zd me_X12_bath 13 rfl) (by decide) ?_
      refine zx_iload_n (i := 1) (zd me_X12_bath 14 rfl) rfl 1 rfl ?_
      refine zx_iadd (zd me_X12_bath 15 rfl) ?_
      refine zx_iald (zd me_X12_bath 16 rfl) (zi12_t14 h0) (fun j6 hj6 => ?_)
      exact zx_iret (zd me_X12_bath 17 rfl) rfl
    · refine zx_ite (fun c7 => ?_) (fun c7 => ?_)
      · refine zx_tin (off := 50) (tgt := 66) (zd me_X12_bath 10 rfl) (by rw [c7]; decide) (by rw [c7]; decide) (by rw [c7]; rfl) (by decide) ?_
        refine zx_aload_n (i := 0) (zd me_X12_bath 18 rfl) rfl 0 rfl ?_
        refine zx_getR (zd me_X12_bath 19 rfl) fl_X12_98 (zi12_c h0) rfl (zi12_r14 h0) ?_
        refine zx_bipush (v := 12) (zd me_X12_bath 20 rfl) (by decide) ?_
        refine zx_iload_n (i := 1) (zd me_X12_bath 21 rfl) rfl 1 rfl ?_
        refine zx_iadd (zd me_X12_bath 22 rfl) ?_
        refine zx_iald (zd me_X12_bath 23 rfl) (zi12_t14 h0) (fun j8 hj8 => ?_)
        exact zx_iret (zd me_X12_bath 24 rfl) rfl
      · refine zx_ite (fun c9 => ?_) (fun c9 => ?_)
        · refine zx_tin (off := 60) (tgt := 76) (zd me_X12_bath 10 rfl) (by rw [c9]; decide) (by rw [c9]; decide) (by rw [c9]; rfl) (by decide) ?_
          refine zx_aload_n (i := 0) (zd me_X12_bath 25 rfl) rfl 0 rfl ?_
          refine zx_getR (zd me_X12_bath 26 rfl) fl_X12_98 (zi12_c h0) rfl (zi12_r14 h0) ?_
          refine zx_bipush (v := 58) (zd me_X12_bath 27 rfl) (by decide) ?_
          refine zx_iload_n (i := 1) (zd me_X12_bath 28 rfl) rfl 1 rfl ?_
          refine zx_iadd (zd me_X12_bath 29 rfl) ?_
          refine zx_iald (zd me_X12_bath 30 rfl) (zi12_t14 h0) (fun j10 hj10 => ?_)
          exact zx_iret (zd me_X12_bath 31 rfl) rfl
        · refine zx_ite (fun c11 => ?_) (fun c11 => ?_)
          · refine zx_tin (off := 70) (tgt := 86) (zd me_X12_bath 10 rfl) (by rw [c11]; decide) (by rw [c11]; decide) (by rw [c11]; rfl) (by decide) ?_
            refine zx_aload_n (i := 0) (zd me_X12_bath 32 rfl) rfl 0 rfl ?_
            refine zx_iload_n (i := 1) (zd me_X12_bath 33 rfl) rfl 1 rfl ?_
            refine zx_callVI1 (zd me_X12_bath 34 rfl) (mc_X12_sheetsIn (zl C) h0 i1 M2) lk_X12_237 ⟨(Nat.le_of_ble_eq_true rfl), (Nat.le_of_ble_eq_true rfl)⟩ (Nat.le_of_ble_eq_true rfl) (zi12_c h0) rfl (fun r13 M12 => ?_)
            exact zx_iret (zd me_X12_bath 35 rfl) rfl
          · refine zx_ite (fun c14 => ?_) (fun c14 => ?_)
            · refine zx_tin (off := 76) (tgt := 92) (zd me_X12_bath 10 rfl) (by rw [c14]; decide) (by rw [c14]; decide) (by rw [c14]; rfl) (by decide) ?_
              refine zx_aload_n (i := 0) (zd me_X12_bath 36 rfl) rfl 0 rfl ?_
              refine zx_iload_n (i := 1) (zd me_X12_bath 37 rfl) rfl 1 rfl ?_
              refine zx_callVI1 (zd me_X12_bath 38 rfl) (mc_X12_isOpen (zl C) h0 i1 M2) lk_X12_252 ⟨(Nat.le_of_ble_eq_true rfl), (Nat.le_of_ble_eq_true rfl)⟩ (Nat.le_of_ble_eq_true rfl) (zi12_c h0) rfl (fun r16 M15 => ?_)
              refine zx_if_eq (tgt := 104) (zd me_X12_bath 39 rfl) (by decide) (fun c17 => ?_) (fun c17 => ?_)
              · refine zx_iconst (v := 0) (zd me_X12_bath 42 rfl) (by decide) ?_
                exact zx_iret (zd me_X12_bath 43 rfl) rfl
              · refine zx_iconst (v := 1) (zd me_X12_bath 40 rfl) (by decide) ?_
                refine zx_goto (tgt := 105) (zd me_X12_bath 41 rfl) (by decide) ?_
                exact zx_iret (zd me_X12_bath 43 rfl) rfl
            · refine zx_ite (fun c18 => ?_) (fun c18 => ?_)
              · refine zx_tin (off := 90) (tgt := 106) (zd me_X12_bath 10 rfl) (by rw [c18]; decide) (by rw [c18]; decide) (by rw [c18]; rfl) (by decide) ?_
                refine zx_aload_n (i := 0) (zd me_X12_bath 44 rfl) rfl 0 rfl ?_
                refine zx_iload_n (i := 1) (zd me_X12_bath 45 rfl) rfl 1 rfl ?_
                refine zx_callVI1 (zd me_X12_bath 46 rfl) (mc_X12_needOf (zl C) h0 i1 M2) lk_X12_255 ⟨(Nat.le_of_ble_eq_true rfl), (Nat.le_of_ble_eq_true rfl)⟩ (Nat.le_of_ble_eq_true rfl) (zi12_c h0) rfl (fun r20 M19 => ?_)
                exact zx_iret (zd me_X12_bath 47 rfl) rfl
              · refine zx_tout (tgt := 112) (zd me_X12_bath 10 rfl) (by have e0 := lv_neT c5 (a := 0) (by decide); have e1 := lv_neT c7 (a := 1) (by decide); have e2 := lv_neT c9 (a := 2) (by decide); have e3 := lv_neT c11 (a := 3) (by decide); have e4 := lv_neT c14 (a := 4) (by decide); have e5 := lv_neT c18 (a := 5) (by decide); omega) (by decide) ?_
                refine zx_iconst (v := (-1)) (zd me_X12_bath 48 rfl) (by decide) ?_
                exact zx_iret (zd me_X12_bath 49 rfl) rfl
  · refine zx_iconst (v := (-1)) (zd me_X12_bath 7 rfl) (by decide) ?_
    exact zx_iret (zd me_X12_bath 8 rfl) rfl
def mf_X12_asks (R : zRR) (a0 : Nat) (i1 : Int32) (i2 : Int32) (M : zMem) : Option (Int32 × zMem) :=
  zlet (zwI M a0 0 (0 : Int32)) fun M1 =>
  zcl (mf_X12_isPaper R a0 i1 M1) fun r3 M2 =>
  if r3 = 0 then
    (some ((-1 : Int32), M2))
  else
    (zcl (mf_X12_isBath R a0 i2 M2) fun r6 M5 =>
    if r6 = 0 then
      (some ((-1 : Int32), M5))
    else
      (zcl (mf_X12_asked R a0 i1 i2 M5) fun r9 M8 =>
      some (r9, M8)))
theorem mc_X12_asks (l : Launch) {T : zTT} {R : zRR} {a0 : Nat} (h0 : zi12 T R a0) (i1 : Int32) (i2 : Int32) (M : zMem) : zMS l yX12_asks mi_X12_asks zrvI (mf_X12_asks R a0 i1 i2 M) [.ref a0, .int i1, .int i2] T R M := by
  refine zMS.of (by decide +kernel) rfl ⟨rfl, rfl⟩ (Nat.le_of_ble_eq_true rfl) (fun C ad _ => ?_)
  show zX C mi_X12_asks (zFin C zrvI ad T R) 0 0 (mf_X12_asks R a0 i1 i2 M) 0 [(0, .ref a0), (1, .int i1), (2, .int i2)] [] ad T R M
  unfold mf_X12_asks
  refine zx_aload_n (i := 0) (zd me_X12_asks 0 rfl) rfl 0 rfl ?_
  refine zx_iconst (v := 0) (zd me_X12_asks 1 rfl) (by decide) ?_
  refine zx_putI (zd me_X12_asks 2 rfl) fp_X12_1 (zi12_c h0) rfl (fun M1 _ => ?_)
  refine zx_aload_n (i := 0) (zd me_X12_asks 3 rfl) rfl 0 rfl ?_
  refine zx_iload_n (i := 1) (zd me_X12_asks 4 rfl) rfl 1 rfl ?_
  refine zx_callVI1 (zd me_X12_asks 5 rfl) (mc_X12_isPaper (zl C) h0 i1 M1) lk_X12_258 ⟨(Nat.le_of_ble_eq_true rfl), (Nat.le_of_ble_eq_true rfl)⟩ (Nat.le_of_ble_eq_true rfl) (zi12_c h0) rfl (fun r3 M2 => ?_)
  refine zx_if_eq (tgt := 30) (zd me_X12_asks 6 rfl) (by decide) (fun c4 => ?_) (fun c4 => ?_)
  · refine zx_iconst (v := (-1)) (zd me_X12_asks 16 rfl) (by decide) ?_
    exact zx_iret (zd me_X12_asks 17 rfl) rfl
  · refine zx_aload_n (i := 0) (zd me_X12_asks 7 rfl) rfl 0 rfl ?_
    refine zx_iload_n (i := 2) (zd me_X12_asks 8 rfl) rfl 2 rfl ?_
    refine zx_callVI1 (zd me_X12_asks 9 rfl) (mc_X12_isBath (zl C) h0 i2 M2) lk_X12_249 ⟨(Nat.le_of_ble_eq_true rfl), (Nat.le_of_ble_eq_true rfl)⟩ (Nat.le_of_ble_eq_true rfl) (zi12_c h0) rfl (fun r6 M5 => ?_)
    refine zx_if_eq (tgt := 30) (zd me_X12_asks 10 rfl) (by decide) (fun c7 => ?_) (fun c7 => ?_)
    · refine zx_iconst (v := (-1)) (zd me_X12_asks 16 rfl) (by decide) ?_
      exact zx_iret (zd me_X12_asks 17 rfl) rfl
    · refine zx_aload_n (i := 0) (zd me_X12_asks 11 rfl) rfl 0 rfl ?_
      refine zx_iload_n (i := 1) (zd me_X12_asks 12 rfl) rfl 1 rfl ?_
      refine zx_iload_n (i := 2) (zd me_X12_asks 13 rfl) rfl 2 rfl ?_
      refine zx_callVI2 (zd me_X12_asks 14 rfl) (mc_X12_asked (zl C) h0 i1 i2 M5) lk_X12_233 ⟨(Nat.le_of_ble_eq_true rfl), (Nat.le_of_ble_eq_true rfl)⟩ (Nat.le_of_ble_eq_true rfl) (zi12_c h0) rfl (fun r9 M8 => ?_)
      refine zx_goto (tgt := 31) (zd me_X12_asks 15 rfl) (by decide) ?_
      exact zx_iret (zd me_X12_asks 17 rfl) rfl
def mf_X12_sheet (R : zRR) (a0 : Nat) (i1 : Int32) (i2 : Int32) (M : zMem) : Option (Int32 × zMem) :=
  zlet (zwI M a0 0 (0 : Int32)) fun M1 =>
  zcl (mf_X12_isSheet R a0 i1 M1) fun r3 M2 =>
  if r3 = 0 then
    (zcl (mf_X12_refuse R a0 M2) fun r22 M21 =>
    some (r22, M21))
  else
    (if i2 = 0 then
      (zald 354 ((48 : Int32) + i1) fun j6 =>
      some ((M2.1 (zrf R a0 14) j6), M2))
    else
    if i2 = 1 then
      (zald 354 ((64 : Int32) + i1) fun j8 =>
      some ((M2.1 (zrf R a0 14) j8), M2))
    else
    if i2 = 2 then
      (zald 354 ((72 : Int32) + i1) fun j10 =>
      some ((M2.1 (zrf R a0 14) j10), M2))
    else
    if i2 = 3 then
      (zald 354 ((80 : Int32) + i1) fun j12 =>
      some ((M2.1 (zrf R a0 14) j12), M2))
    else
    if i2 = 4 then
      (zald 354 ((88 : Int32) + i1) fun j14 =>
      some ((M2.1 (zrf R a0 14) j14), M2))
    else
    if i2 = 5 then
      (zald 354 ((96 : Int32) + i1) fun j16 =>
      some ((M2.1 (zrf R a0 14) j16), M2))
    else
    if i2 = 6 then
      (zald 354 ((104 : Int32) + i1) fun j18 =>
      some ((M2.1 (zrf R a0 14) j18), M2))
    else
      (zcl (mf_X12_refuse R a0 M2) fun r20 M19 =>
      some (r20, M19)))
theorem mc_X12_sheet (l : Launch) {T : zTT} {R : zRR} {a0 : Nat} (h0 : zi12 T R a0) (i1 : Int32) (i2 : Int32) (M : zMem) : zMS l yX12_sheet mi_X12_sheet zrvI (mf_X12_sheet R a0 i1 i2 M) [.ref a0, .int i1, .int i2] T R M := by
  refine zMS.of (by decide +kernel) rfl ⟨rfl, rfl⟩ (Nat.le_of_ble_eq_true rfl) (fun C ad _ => ?_)
  show zX C mi_X12_sheet (zFin C zrvI ad T R) 0 0 (mf_X12_sheet R a0 i1 i2 M) 0 [(0, .ref a0), (1, .int i1), (2, .int i2)] [] ad T R M
  unfold mf_X12_sheet
  refine zx_aload_n (i := 0) (zd me_X12_sheet 0 rfl) rfl 0 rfl ?_
  refine zx_iconst (v := 0) (zd me_X12_sheet 1 rfl) (by decide) ?_
  refine zx_putI (zd me_X12_sheet 2 rfl) fp_X12_1 (zi12_c h0) rfl (fun M1 _ => ?_)
  refine zx_aload_n (i := 0) (zd me_X12_sheet 3 rfl) rfl 0 rfl ?_
  refine zx_iload_n (i := 1) (zd me_X12_sheet 4 rfl) rfl 1 rfl ?_
  refine zx_callVI1 (zd me_X12_sheet 5 rfl) (mc_X12_isSheet (zl C) h0 i1 M1) lk_X12_261 ⟨(Nat.le_of_ble_eq_true rfl), (Nat.le_of_ble_eq_true rfl)⟩ (Nat.le_of_ble_eq_true rfl) (zi12_c h0) rfl (fun r3 M2 => ?_)
  refine zx_if_ne (tgt := 18) (zd me_X12_sheet 6 rfl) (by decide) (fun c4 => ?_) (fun c4 => ?_)
  · refine zx_iload_n (i := 2) (zd me_X12_sheet 10 rfl) rfl 2 rfl ?_
    refine zx_ite (fun c5 => ?_) (fun c5 => ?_)
    · refine zx_tin (off := 41) (tgt := 60) (zd me_X12_sheet 11 rfl) (by rw [c5]; decide) (by rw [c5]; decide) (by rw [c5]; rfl) (by decide) ?_
      refine zx_aload_n (i := 0) (zd me_X12_sheet 12 rfl) rfl 0 rfl ?_
      refine zx_getR (zd me_X12_sheet 13 rfl) fl_X12_98 (zi12_c h0) rfl (zi12_r14 h0) ?_
      refine zx_bipush (v := 48) (zd me_X12_sheet 14 rfl) (by decide) ?_
      refine zx_iload_n (i := 1) (zd me_X12_sheet 15 rfl) rfl 1 rfl ?_
      refine zx_iadd (zd me_X12_sheet 16 rfl) ?_
      refine zx_iald (zd me_X12_sheet 17 rfl) (zi12_t14 h0) (fun j6 hj6 => ?_)
      exact zx_iret (zd me_X12_sheet 18 rfl) rfl
    · refine zx_ite (fun c7 => ?_) (fun c7 => ?_)
      · refine zx_tin (off := 51) (tgt := 70) (zd me_X12_sheet 11 rfl) (by rw [c7]; decide) (by rw [c7]; decide) (by rw [c7]; rfl) (by decide) ?_
        refine zx_aload_n (i := 0) (zd me_X12_sheet 19 rfl) rfl 0 rfl ?_
        refine zx_getR (zd me_X12_sheet 20 rfl) fl_X12_98 (zi12_c h0) rfl (zi12_r14 h0) ?_
        refine zx_bipush (v := 64) (zd me_X12_sheet 21 rfl) (by decide) ?_
        refine zx_iload_n (i := 1) (zd me_X12_sheet 22 rfl) rfl 1 rfl ?_
        refine zx_iadd (zd me_X12_sheet 23 rfl) ?_
        refine zx_iald (zd me_X12_sheet 24 rfl) (zi12_t14 h0) (fun j8 hj8 => ?_)
        exact zx_iret (zd me_X12_sheet 25 rfl) rfl
      · refine zx_ite (fun c9 => ?_) (fun c9 => ?_)
        · refine zx_tin (off := 61) (tgt := 80) (zd me_X12_sheet 11 rfl) (by rw [c9]; decide) (by rw [c9]; decide) (by rw [c9]; rfl) (by decide) ?_
          refine zx_aload_n (i := 0) (zd me_X12_sheet 26 rfl) rfl 0 rfl ?_
          refine zx_getR (zd me_X12_sheet 27 rfl) fl_X12_98 (zi12_c h0) rfl (zi12_r14 h0) ?_
          refine zx_bipush (v := 72) (zd me_X12_sheet 28 rfl) (by decide) ?_
          refine zx_iload_n (i := 1) (zd me_X12_sheet 29 rfl) rfl 1 rfl ?_
          refine zx_iadd (zd me_X12_sheet 30 rfl) ?_
          refine zx_iald (zd me_X12_sheet 31 rfl) (zi12_t14 h0) (fun j10 hj10 => ?_)
          exact zx_iret (zd me_X12_sheet 32 rfl) rfl
        · refine zx_ite (fun c11 => ?_) (fun c11 => ?_)
          · refine zx_tin (off := 71) (tgt := 90) (zd me_X12_sheet 11 rfl) (by rw [c11]; decide) (by rw [c11]; decide) (by rw [c11]; rfl) (by decide) ?_
            refine zx_aload_n (i := 0) (zd me_X12_sheet 33 rfl) rfl 0 rfl ?_
            refine zx_getR (zd me_X12_sheet 34 rfl) fl_X12_98 (zi12_c h0) rfl (zi12_r14 h0) ?_
            refine zx_bipush (v := 80) (zd me_X12_sheet 35 rfl) (by decide) ?_
            refine zx_iload_n (i := 1) (zd me_X12_sheet 36 rfl) rfl 1 rfl ?_
            refine zx_iadd (zd me_X12_sheet 37 rfl) ?_
            refine zx_iald (zd me_X12_sheet 38 rfl) (zi12_t14 h0) (fun j12 hj12 => ?_)
            exact zx_iret (zd me_X12_sheet 39 rfl) rfl
          · refine zx_ite (fun c13 => ?_) (fun c13 => ?_)
            · refine zx_tin (off := 81) (tgt := 100) (zd me_X12_sheet 11 rfl) (by rw [c13]; decide) (by rw [c13]; decide) (by rw [c13]; rfl) (by decide) ?_
              refine zx_aload_n (i := 0) (zd me_X12_sheet 40 rfl) rfl 0 rfl ?_
              refine zx_getR (zd me_X12_sheet 41 rfl) fl_X12_98 (zi12_c h0) rfl (zi12_r14 h0) ?_
              refine zx_bipush (v := 88) (zd me_X12_sheet 42 rfl) (by decide) ?_
              refine zx_iload_n (i := 1) (zd me_X12_sheet 43 rfl) rfl 1 rfl ?_
              refine zx_iadd (zd me_X12_sheet 44 rfl) ?_
              refine zx_iald (zd me_X12_sheet 45 rfl) (zi12_t14 h0) (fun j14 hj14 => ?_)
              exact zx_iret (zd me_X12_sheet 46 rfl) rfl
            · refine zx_ite (fun c15 => ?_) (fun c15 => ?_)
              · refine zx_tin (off := 91) (tgt := 110) (zd me_X12_sheet 11 rfl) (by rw [c15]; decide) (by rw [c15]; decide) (by rw [c15]; rfl) (by decide) ?_
                refine zx_aload_n (i := 0) (zd me_X12_sheet 47 rfl) rfl 0 rfl ?_
                refine zx_getR (zd me_X12_sheet 48 rfl) fl_X12_98 (zi12_c h0) rfl (zi12_r14 h0) ?_
                refine zx_bipush (v := 96) (zd me_X12_sheet 49 rfl) (by decide) ?_
                refine zx_iload_n (i := 1) (zd me_X12_sheet 50 rfl) rfl 1 rfl ?_
                refine zx_iadd (zd me_X12_sheet 51 rfl) ?_
                refine zx_iald (zd me_X12_sheet 52 rfl) (zi12_t14 h0) (fun j16 hj16 => ?_)
                exact zx_iret (zd me_X12_sheet 53 rfl) rfl
              · refine zx_ite (fun c17 => ?_) (fun c17 => ?_)
                · refine zx_tin (off := 101) (tgt := 120) (zd me_X12_sheet 11 rfl) (by rw [c17]; decide) (by rw [c17]; decide) (by rw [c17]; rfl) (by decide) ?_
                  refine zx_aload_n (i := 0) (zd me_X12_sheet 54 rfl) rfl 0 rfl ?_
                  refine zx_getR (zd me_X12_sheet 55 rfl) fl_X12_98 (zi12_c h0) rfl (zi12_r14 h0) ?_
                  refine zx_bipush (v := 104) (zd me_X12_sheet 56 rfl) (by decide) ?_
                  refine zx_iload_n (i := 1) (zd me_X12_sheet 57 rfl) rfl 1 rfl ?_
                  refine zx_iadd (zd me_X12_sheet 58 rfl) ?_
                  refine zx_iald (zd me_X12_sheet 59 rfl) (zi12_t14 h0) (fun j18 hj18 => ?_)
                  exact zx_iret (zd me_X12_sheet 60 rfl) rfl
                · refine zx_tout (tgt := 130) (zd me_X12_sheet 11 rfl) (by have e0 := lv_neT c5 (a := 0) (by decide); have e1 := lv_neT c7 (a := 1) (by decide); have e2 := lv_neT c9 (a := 2) (by decide); have e3 := lv_neT c11 (a := 3) (by decide); have e4 := lv_neT c13 (a := 4) (by decide); have e5 := lv_neT c15 (a := 5) (by decide); have e6 := lv_neT c17 (a := 6) (by decide); omega) (by decide) ?_
                  refine zx_aload_n (i := 0) (zd me_X12_sheet 61 rfl) rfl 0 rfl ?_
                  refine zx_callVI0 (zd me_X12_sheet 62 rfl) (mc_X12_refuse (zl C) h0 M2) lk_X12_264 ⟨(Nat.le_of_ble_eq_true rfl), (Nat.le_of_ble_eq_true rfl)⟩ (Nat.le_of_ble_eq_true rfl) (zi12_c h0) rfl (fun r20 M19 => ?_)
                  exact zx_iret (zd me_X12_sheet 63 rfl) rfl
  · refine zx_aload_n (i := 0) (zd me_X12_sheet 7 rfl) rfl 0 rfl ?_
    refine zx_callVI0 (zd me_X12_sheet 8 rfl) (mc_X12_refuse (zl C) h0 M2) lk_X12_264 ⟨(Nat.le_of_ble_eq_true rfl), (Nat.le_of_ble_eq_true rfl)⟩ (Nat.le_of_ble_eq_true rfl) (zi12_c h0) rfl (fun r22 M21 => ?_)
    exact zx_iret (zd me_X12_sheet 9 rfl) rfl
def mf_X12_those_b33 (R : zRR) (a0 : Nat) (H4 : Int32 → Int32 → Int32 → zMem → Option (Int32 × zMem)) (i1 : Int32) (i2 : Int32) (i3 : Int32) (M : zMem) : Option (Int32 × zMem) :=
  H4 i1 i2 (i3 + 1) M
theorem mt_X12_those_b33 {C : zCx} {ad : Nat → Nat} {T : zTT} {R : zRR} {a0 : Nat} (h0 : zi12 T R a0) {H4 : Int32 → Int32 → Int32 → zMem → Option (Int32 × zMem)} (hH4 : ∀ (i1 : Int32) (i2 : Int32) (i3 : Int32) (M : zMem), zX C mi_X12_those (zFin C zrvI ad T R) 0 0 (H4 i1 i2 i3 M) 4 [(0, .ref a0), (1, .int i1), (2, .int i2), (3, .int i3)] [] ad T R M) (i1 : Int32) (i2 : Int32) (i3 : Int32) (M : zMem) : zX C mi_X12_those (zFin C zrvI ad T R) 0 0 (mf_X12_those_b33 R a0 H4 i1 i2 i3 M) 33 [(0, .ref a0), (1, .int i1), (2, .int i2), (3, .int i3)] [] ad T R M := by
  unfold mf_X12_those_b33
  refine zx_iinc (v := 1) (ls' := [(3, .int (i3 + 1)), (0, .ref a0), (1, .int i1), (2, .int i2)]) (zd me_X12_those 24 rfl) (Nat.le_of_ble_eq_true rfl) 3 rfl (by decide) rfl ?_
  refine zx_goto (tgt := 4) (zd me_X12_those 25 rfl) (by decide) ?_
  refine zx_loc [1, 2, 3, 0] rfl ?_
  exact hH4 i1 i2 (i3 + 1) M
def mf_X12_those_l4 (R : zRR) (a0 : Nat) : Nat → Int32 → Int32 → Int32 → zMem → Option (Int32 × zMem)
  | 0, _, _, _, _ => none
  | fuel + 1, i1, i2, i3, M =>
    zald 354 (2 : Int32) fun j1 =>
    if (M.1 (zrf R a0 14) j1) ≤ i3 then
      (some (i2, M))
    else
      (zald 354 ((64 : Int32) + i3) fun j3 =>
      if (M.1 (zrf R a0 14) j3) = i1 then
        (zlet ((i2 ||| ((1 : Int32) <<< (i3 &&& 31))) : Int32) fun x5 =>
        mf_X12_those_b33 R a0 (mf_X12_those_l4 R a0 fuel) i1 x5 i3 M)
      else
        (mf_X12_those_b33 R a0 (mf_X12_those_l4 R a0 fuel) i1 i2 i3 M))
theorem mt_X12_those_l4 {C : zCx} {ad : Nat → Nat} {T : zTT} {R : zRR} {a0 : Nat} (h0 : zi12 T R a0) : ∀ (fuel : Nat) (i1 : Int32) (i2 : Int32) (i3 : Int32) (M : zMem), zX C mi_X12_those (zFin C zrvI ad T R) 0 0 (mf_X12_those_l4 R a0 fuel i1 i2 i3 M) 4 [(0, .ref a0), (1, .int i1), (2, .int i2), (3, .int i3)] [] ad T R M := by
  intro fuel
  induction fuel with
  | zero => intros; exact zx_none
  | succ fuel ih =>
    intro i1 i2 i3 M
    rw [mf_X12_those_l4]
    refine zx_iload_n (i := 3) (zd me_X12_those 4 rfl) rfl 3 rfl ?_
    refine zx_aload_n (i := 0) (zd me_X12_those 5 rfl) rfl 0 rfl ?_
    refine zx_getR (zd me_X12_those 6 rfl) fl_X12_98 (zi12_c h0) rfl (zi12_r14 h0) ?_
    refine zx_iconst (v := 2) (zd me_X12_those 7 rfl) (by decide) ?_
    refine zx_iald (zd me_X12_those 8 rfl) (zi12_t14 h0) (fun j1 hj1 => ?_)
    refine zx_icmp_ge (tgt := 39) (zd me_X12_those 9 rfl) (by decide) (fun c2 => ?_) (fun c2 => ?_)
    · refine zx_iload_n (i := 2) (zd me_X12_those 26 rfl) rfl 2 rfl ?_
      exact zx_iret (zd me_X12_those 27 rfl) rfl
    · refine zx_aload_n (i := 0) (zd me_X12_those 10 rfl) rfl 0 rfl ?_
      refine zx_getR (zd me_X12_those 11 rfl) fl_X12_98 (zi12_c h0) rfl (zi12_r14 h0) ?_
      refine zx_bipush (v := 64) (zd me_X12_those 12 rfl) (by decide) ?_
      refine zx_iload_n (i := 3) (zd me_X12_those 13 rfl) rfl 3 rfl ?_
      refine zx_iadd (zd me_X12_those 14 rfl) ?_
      refine zx_iald (zd me_X12_those 15 rfl) (zi12_t14 h0) (fun j3 hj3 => ?_)
      refine zx_iload_n (i := 1) (zd me_X12_those 16 rfl) rfl 1 rfl ?_
      refine zx_icmp_ne (tgt := 33) (zd me_X12_those 17 rfl) (by decide) (fun c4 => ?_) (fun c4 => ?_)
      · exact mt_X12_those_b33 h0 ih i1 i2 i3 M
      · refine zx_iload_n (i := 2) (zd me_X12_those 18 rfl) rfl 2 rfl ?_
        refine zx_iconst (v := 1) (zd me_X12_those 19 rfl) (by decide) ?_
        refine zx_iload_n (i := 3) (zd me_X12_those 20 rfl) rfl 3 rfl ?_
        refine zx_ishl (zd me_X12_those 21 rfl) ?_
        refine zx_ior (zd me_X12_those 22 rfl) ?_
        refine zx_leti (fun x5 => ?_)
        refine zx_istore_n (i := 2) (ls' := [(2, .int x5), (0, .ref a0), (1, .int i1), (3, .int i3)]) (zd me_X12_those 23 rfl) rfl (Nat.le_of_ble_eq_true rfl) rfl ?_
        refine zx_loc [1, 2, 0, 3] rfl ?_
        exact mt_X12_those_b33 h0 ih i1 x5 i3 M
def mf_X12_those (R : zRR) (a0 : Nat) (i1 : Int32) (M : zMem) : Option (Int32 × zMem) :=
  mf_X12_those_l4 R a0 zF i1 (0 : Int32) (0 : Int32) M
theorem mc_X12_those (l : Launch) {T : zTT} {R : zRR} {a0 : Nat} (h0 : zi12 T R a0) (i1 : Int32) (M : zMem) : zMS l yX12_those mi_X12_those zrvI (mf_X12_those R a0 i1 M) [.ref a0, .int i1] T R M := by
  refine zMS.of (by decide +kernel) rfl ⟨rfl, rfl⟩ (Nat.le_of_ble_eq_true rfl) (fun C ad _ => ?_)
  show zX C mi_X12_those (zFin C zrvI ad T R) 0 0 (mf_X12_those R a0 i1 M) 0 [(0, .ref a0), (1, .int i1)] [] ad T R M
  unfold mf_X12_those
  refine zx_iconst (v := 0) (zd me_X12_those 0 rfl) (by decide) ?_
  refine zx_istore_n (i := 2) (ls' := [(2, .int (0 : Int32)), (0, .ref a0), (1, .int i1)]) (zd me_X12_those 1 rfl) rfl (Nat.le_of_ble_eq_true rfl) rfl ?_
  refine zx_iconst (v := 0) (zd me_X12_those 2 rfl) (by decide) ?_
  refine zx_istore_n (i := 3) (ls' := [(3, .int (0 : Int32)), (2, .int (0 : Int32)), (0, .ref a0), (1, .int i1)]) (zd me_X12_those 3 rfl) rfl (Nat.le_of_ble_eq_true rfl) rfl ?_
  refine zx_loc [2, 3, 1, 0] rfl ?_
  exact mt_X12_those_l4 h0 zF i1 (0 : Int32) (0 : Int32) M
def mf_X12_now_b98 (R : zRR) (a0 : Nat) (H74 : Int32 → Int32 → zMem → Option (Int32 × zMem)) (i2 : Int32) (i3 : Int32) (M : zMem) : Option (Int32 × zMem) :=
  H74 i2 (i3 + 1) M
theorem mt_X12_now_b98 {C : zCx} {ad : Nat → Nat} {T : zTT} {R : zRR} {a0 : Nat} (h0 : zi12 T R a0) {H74 : Int32 → Int32 → zMem → Option (Int32 × zMem)} (hH74 : ∀ (i2 : Int32) (i3 : Int32) (M : zMem), zX C mi_X12_now (zFin C zrvI ad T R) 0 0 (H74 i2 i3 M) 74 [(0, .ref a0), (2, .int i2), (3, .int i3)] [] ad T R M) (i2 : Int32) (i3 : Int32) (M : zMem) : zX C mi_X12_now (zFin C zrvI ad T R) 0 0 (mf_X12_now_b98 R a0 H74 i2 i3 M) 98 [(0, .ref a0), (2, .int i2), (3, .int i3)] [] ad T R M := by
  unfold mf_X12_now_b98
  refine zx_iinc (v := 1) (ls' := [(3, .int (i3 + 1)), (0, .ref a0), (2, .int i2)]) (zd me_X12_now 36 rfl) (Nat.le_of_ble_eq_true rfl) 2 rfl (by decide) rfl ?_
  refine zx_goto (tgt := 74) (zd me_X12_now 37 rfl) (by decide) ?_
  refine zx_loc [1, 2, 0] rfl ?_
  exact hH74 i2 (i3 + 1) M
def mf_X12_now_l74 (R : zRR) (a0 : Nat) : Nat → Int32 → Int32 → zMem → Option (Int32 × zMem)
  | 0, _, _, _ => none
  | fuel + 1, i2, i3, M =>
    zald 354 (2 : Int32) fun j20 =>
    if (M.1 (zrf R a0 14) j20) ≤ i3 then
      (some (i2, M))
    else
      (zcl (mf_X12_isHeld R a0 i3 M) fun r23 M22 =>
      if r23 = 0 then
        (mf_X12_now_b98 R a0 (mf_X12_now_l74 R a0 fuel) i2 i3 M22)
      else
        (zlet ((i2 ||| ((1 : Int32) <<< (i3 &&& 31))) : Int32) fun x25 =>
        mf_X12_now_b98 R a0 (mf_X12_now_l74 R a0 fuel) x25 i3 M22))
theorem mt_X12_now_l74 {C : zCx} {ad : Nat → Nat} {T : zTT} {R : zRR} {a0 : Nat} (h0 : zi12 T R a0) : ∀ (fuel : Nat) (i2 : Int32) (i3 : Int32) (M : zMem), zX C mi_X12_now (zFin C zrvI ad T R) 0 0 (mf_X12_now_l74 R a0 fuel i2 i3 M) 74 [(0, .ref a0), (2, .int i2), (3, .int i3)] [] ad T R M := by
  intro fuel
  induction fuel with
  | zero => intros; exact zx_none
  | succ fuel ih =>
    intro i2 i3 M
    rw [mf_X12_now_l74]
    refine zx_iload_n (i := 3) (zd me_X12_now 20 rfl) rfl 2 rfl ?_
    refine zx_aload_n (i := 0) (zd me_X12_now 21 rfl) rfl 0 rfl ?_
    refine zx_getR (zd me_X12_now 22 rfl) fl_X12_98 (zi12_c h0) rfl (zi12_r14 h0) ?_
    refine zx_iconst (v := 2) (zd me_X12_now 23 rfl) (by decide) ?_
    refine zx_iald (zd me_X12_now 24 rfl) (zi12_t14 h0) (fun j20 hj20 => ?_)
    refine zx_icmp_ge (tgt := 104) (zd me_X12_now 25 rfl) (by decide) (fun c21 => ?_) (fun c21 => ?_)
    · refine zx_iload_n (i := 2) (zd me_X12_now 38 rfl) rfl 1 rfl ?_
      exact zx_iret (zd me_X12_now 39 rfl) rfl
    · refine zx_aload_n (i := 0) (zd me_X12_now 26 rfl) rfl 0 rfl ?_
      refine zx_iload_n (i := 3) (zd me_X12_now 27 rfl) rfl 2 rfl ?_
      refine zx_callVI1 (zd me_X12_now 28 rfl) (mc_X12_isHeld (zl C) h0 i3 M) lk_X12_270 ⟨(Nat.le_of_ble_eq_true rfl), (Nat.le_of_ble_eq_true rfl)⟩ (Nat.le_of_ble_eq_true rfl) (zi12_c h0) rfl (fun r23 M22 => ?_)
      refine zx_if_eq (tgt := 98) (zd me_X12_now 29 rfl) (by decide) (fun c24 => ?_) (fun c24 => ?_)
      · exact mt_X12_now_b98 h0 ih i2 i3 M22
      · refine zx_iload_n (i := 2) (zd me_X12_now 30 rfl) rfl 1 rfl ?_
        refine zx_iconst (v := 1) (zd me_X12_now 31 rfl) (by decide) ?_
        refine zx_iload_n (i := 3) (zd me_X12_now 32 rfl) rfl 2 rfl ?_
        refine zx_ishl (zd me_X12_now 33 rfl) ?_
        refine zx_ior (zd me_X12_now 34 rfl) ?_
        refine zx_leti (fun x25 => ?_)
        refine zx_istore_n (i := 2) (ls' := [(2, .int x25), (0, .ref a0), (3, .int i3)]) (zd me_X12_now 35 rfl) rfl (Nat.le_of_ble_eq_true rfl) rfl ?_
        refine zx_loc [1, 0, 2] rfl ?_
        exact mt_X12_now_b98 h0 ih x25 i3 M22
def mf_X12_now_b132 (R : zRR) (a0 : Nat) (H108 : Int32 → Int32 → zMem → Option (Int32 × zMem)) (i2 : Int32) (i3 : Int32) (M : zMem) : Option (Int32 × zMem) :=
  H108 i2 (i3 + 1) M
theorem mt_X12_now_b132 {C : zCx} {ad : Nat → Nat} {T : zTT} {R : zRR} {a0 : Nat} (h0 : zi12 T R a0) {H108 : Int32 → Int32 → zMem → Option (Int32 × zMem)} (hH108 : ∀ (i2 : Int32) (i3 : Int32) (M : zMem), zX C mi_X12_now (zFin C zrvI ad T R) 0 0 (H108 i2 i3 M) 108 [(0, .ref a0), (2, .int i2), (3, .int i3)] [] ad T R M) (i2 : Int32) (i3 : Int32) (M : zMem) : zX C mi_X12_now (zFin C zrvI ad T R) 0 0 (mf_X12_now_b132 R a0 H108 i2 i3 M) 132 [(0, .ref a0), (2, .int i2), (3, .int i3)] [] ad T R M := by
  unfold mf_X12_now_b132
  refine zx_iinc (v := 1) (ls' := [(3, .int (i3 + 1)), (0, .ref a0), (2, .int i2)]) (zd me_X12_now 58 rfl) (Nat.le_of_ble_eq_true rfl) 2 rfl (by decide) rfl ?_
  refine zx_goto (tgt := 108) (zd me_X12_now 59 rfl) (by decide) ?_
  refine zx_loc [1, 2, 0] rfl ?_
  exact hH108 i2 (i3 + 1) M
def mf_X12_now_l108 (R : zRR) (a0 : Nat) : Nat → Int32 → Int32 → zMem → Option (Int32 × zMem)
  | 0, _, _, _ => none
  | fuel + 1, i2, i3, M =>
    zald 354 (0 : Int32) fun j26 =>
    if (M.1 (zrf R a0 14) j26) ≤ i3 then
      (some (i2, M))
    else
      (zcl (mf_X12_isOpen R a0 i3 M) fun r29 M28 =>
      if r29 = 0 then
        (mf_X12_now_b132 R a0 (mf_X12_now_l108 R a0 fuel) i2 i3 M28)
      else
        (zlet ((i2 ||| ((1 : Int32) <<< (i3 &&& 31))) : Int32) fun x31 =>
        mf_X12_now_b132 R a0 (mf_X12_now_l108 R a0 fuel) x31 i3 M28))
theorem mt_X12_now_l108 {C : zCx} {ad : Nat → Nat} {T : zTT} {R : zRR} {a0 : Nat} (h0 : zi12 T R a0) : ∀ (fuel : Nat) (i2 : Int32) (i3 : Int32) (M : zMem), zX C mi_X12_now (zFin C zrvI ad T R) 0 0 (mf_X12_now_l108 R a0 fuel i2 i3 M) 108 [(0, .ref a0), (2, .int i2), (3, .int i3)] [] ad T R M := by
  intro fuel
  induction fuel with
  | zero => intros; exact zx_none
  | succ fuel ih =>
    intro i2 i3 M
    rw [mf_X12_now_l108]
    refine zx_iload_n (i := 3) (zd me_X12_now 42 rfl) rfl 2 rfl ?_
    refine zx_aload_n (i := 0) (zd me_X12_now 43 rfl) rfl 0 rfl ?_
    refine zx_getR (zd me_X12_now 44 rfl) fl_X12_98 (zi12_c h0) rfl (zi12_r14 h0) ?_
    refine zx_iconst (v := 0) (zd me_X12_now 45 rfl) (by decide) ?_
    refine zx_iald (zd me_X12_now 46 rfl) (zi12_t14 h0) (fun j26 hj26 => ?_)
    refine zx_icmp_ge (tgt := 138) (zd me_X12_now 47 rfl) (by decide) (fun c27 => ?_) (fun c27 => ?_)
    · refine zx_iload_n (i := 2) (zd me_X12_now 60 rfl) rfl 1 rfl ?_
      exact zx_iret (zd me_X12_now 61 rfl) rfl
    · refine zx_aload_n (i := 0) (zd me_X12_now 48 rfl) rfl 0 rfl ?_
      refine zx_iload_n (i := 3) (zd me_X12_now 49 rfl) rfl 2 rfl ?_
      refine zx_callVI1 (zd me_X12_now 50 rfl) (mc_X12_isOpen (zl C) h0 i3 M) lk_X12_252 ⟨(Nat.le_of_ble_eq_true rfl), (Nat.le_of_ble_eq_true rfl)⟩ (Nat.le_of_ble_eq_true rfl) (zi12_c h0) rfl (fun r29 M28 => ?_)
      refine zx_if_eq (tgt := 132) (zd me_X12_now 51 rfl) (by decide) (fun c30 => ?_) (fun c30 => ?_)
      · exact mt_X12_now_b132 h0 ih i2 i3 M28
      · refine zx_iload_n (i := 2) (zd me_X12_now 52 rfl) rfl 1 rfl ?_
        refine zx_iconst (v := 1) (zd me_X12_now 53 rfl) (by decide) ?_
        refine zx_iload_n (i := 3) (zd me_X12_now 54 rfl) rfl 2 rfl ?_
        refine zx_ishl (zd me_X12_now 55 rfl) ?_
        refine zx_ior (zd me_X12_now 56 rfl) ?_
        refine zx_leti (fun x31 => ?_)
        refine zx_istore_n (i := 2) (ls' := [(2, .int x31), (0, .ref a0), (3, .int i3)]) (zd me_X12_now 57 rfl) rfl (Nat.le_of_ble_eq_true rfl) rfl ?_
        refine zx_loc [1, 0, 2] rfl ?_
        exact mt_X12_now_b132 h0 ih x31 i3 M28
def mf_X12_now (R : zRR) (a0 : Nat) (i1 : Int32) (M : zMem) : Option (Int32 × zMem) :=
  zlet (zwI M a0 0 (0 : Int32)) fun M1 =>
  if i1 = 0 then
    (zald 354 (56 : Int32) fun j3 =>
    some ((M1.1 (zrf R a0 14) j3), M1))
  else
  if i1 = 1 then
    (zcl (mf_X12_those R a0 (i1 - (1 : Int32)) M1) fun r6 M5 =>
    some (r6, M5))
  else
  if i1 = 2 then
    (zcl (mf_X12_those R a0 (i1 - (1 : Int32)) M1) fun r9 M8 =>
    some (r9, M8))
  else
  if i1 = 3 then
    (zcl (mf_X12_those R a0 (i1 - (1 : Int32)) M1) fun r12 M11 =>
    some (r12, M11))
  else
  if i1 = 4 then
    (zcl (mf_X12_those R a0 (i1 - (1 : Int32)) M1) fun r15 M14 =>
    some (r15, M14))
  else
  if i1 = 5 then
    (mf_X12_now_l74 R a0 zF (0 : Int32) (0 : Int32) M1)
  else
  if i1 = 6 then
    (mf_X12_now_l108 R a0 zF (0 : Int32) (0 : Int32) M1)
  else
  if i1 = 7 then
    (zald 354 (57 : Int32) fun j19 =>
    some ((M1.1 (zrf R a0 14) j19), M1))
  else
    (some ((-1 : Int32), M1))
theorem mc_X12_now (l : Launch) {T : zTT} {R : zRR} {a0 : Nat} (h0 : zi12 T R a0) (i1 : Int32) (M : zMem) : zMS l yX12_now mi_X12_now zrvI (mf_X12_now R a0 i1 M) [.ref a0, .int i1] T R M := by
  refine zMS.of (by decide +kernel) rfl ⟨rfl, rfl⟩ (Nat.le_of_ble_eq_true rfl) (fun C ad _ => ?_)
  show zX C mi_X12_now (zFin C zrvI ad T R) 0 0 (mf_X12_now R a0 i1 M) 0 [(0, .ref a0), (1, .int i1)] [] ad T R M
  unfold mf_X12_now
  refine zx_aload_n (i := 0) (zd me_X12_now 0 rfl) rfl 0 rfl ?_
  refine zx_iconst (v := 0) (zd me_X12_now 1 rfl) (by decide) ?_
  refine zx_putI (zd me_X12_now 2 rfl) fp_X12_1 (zi12_c h0) rfl (fun M1 _ => ?_)
  refine zx_iconst (v := 0) (zd me_X12_now 3 rfl) (by decide) ?_
  refine zx_istore_n (i := 2) (ls' := [(2, .int (0 : Int32)), (0, .ref a0), (1, .int i1)]) (zd me_X12_now 4 rfl) rfl (Nat.le_of_ble_eq_true rfl) rfl ?_
  refine zx_iload_n (i := 1) (zd me_X12_now 5 rfl) rfl 2 rfl ?_
  refine zx_ite (fun c2 => ?_) (fun c2 => ?_)
  · refine zx_tin (off := 48) (tgt := 56) (zd me_X12_now 6 rfl) (by rw [c2]; decide) (by rw [c2]; decide) (by rw [c2]; rfl) (by decide) ?_
    refine zx_aload_n (i := 0) (zd me_X12_now 7 rfl) rfl 1 rfl ?_
    refine zx_getR (zd me_X12_now 8 rfl) fl_X12_98 (zi12_c h0) rfl (zi12_r14 h0) ?_
    refine zx_bipush (v := 56) (zd me_X12_now 9 rfl) (by decide) ?_
    refine zx_iald (zd me_X12_now 10 rfl) (zi12_t14 h0) (fun j3 hj3 => ?_)
    exact zx_iret (zd me_X12_now 11 rfl) rfl
  · refine zx_ite (fun c4 => ?_) (fun c4 => ?_)
    · refine zx_tin (off := 56) (tgt := 64) (zd me_X12_now 6 rfl) (by rw [c4]; decide) (by rw [c4]; decide) (by rw [c4]; rfl) (by decide) ?_
      refine zx_aload_n (i := 0) (zd me_X12_now 12 rfl) rfl 1 rfl ?_
      refine zx_iload_n (i := 1) (zd me_X12_now 13 rfl) rfl 2 rfl ?_
      refine zx_iconst (v := 1) (zd me_X12_now 14 rfl) (by decide) ?_
      refine zx_isub (zd me_X12_now 15 rfl) ?_
      refine zx_callVI1 (zd me_X12_now 16 rfl) (mc_X12_those (zl C) h0 (i1 - (1 : Int32)) M1) lk_X12_267 ⟨(Nat.le_of_ble_eq_true rfl), (Nat.le_of_ble_eq_true rfl)⟩ (Nat.le_of_ble_eq_true rfl) (zi12_c h0) rfl (fun r6 M5 => ?_)
      exact zx_iret (zd me_X12_now 17 rfl) rfl
    · refine zx_ite (fun c7 => ?_) (fun c7 => ?_)
      · refine zx_tin (off := 56) (tgt := 64) (zd me_X12_now 6 rfl) (by rw [c7]; decide) (by rw [c7]; decide) (by rw [c7]; rfl) (by decide) ?_
        refine zx_aload_n (i := 0) (zd me_X12_now 12 rfl) rfl 1 rfl ?_
        refine zx_iload_n (i := 1) (zd me_X12_now 13 rfl) rfl 2 rfl ?_
        refine zx_iconst (v := 1) (zd me_X12_now 14 rfl) (by decide) ?_
        refine zx_isub (zd me_X12_now 15 rfl) ?_
        refine zx_callVI1 (zd me_X12_now 16 rfl) (mc_X12_those (zl C) h0 (i1 - (1 : Int32)) M1) lk_X12_267 ⟨(Nat.le_of_ble_eq_true rfl), (Nat.le_of_ble_eq_true rfl)⟩ (Nat.le_of_ble_eq_true rfl) (zi12_c h0) rfl (fun r9 M8 => ?_)
        exact zx_iret (zd me_X12_now 17 rfl) rfl
      · refine zx_ite (fun c10 => ?_) (fun c10 => ?_)
        · refine zx_tin (off := 56) (tgt := 64) (zd me_X12_now 6 rfl) (by rw [c10]; decide) (by rw [c10]; decide) (by rw [c10]; rfl) (by decide) ?_
          refine zx_aload_n (i := 0) (zd me_X12_now 12 rfl) rfl 1 rfl ?_
          refine zx_iload_n (i := 1) (zd me_X12_now 13 rfl) rfl 2 rfl ?_
          refine zx_iconst (v := 1) (zd me_X12_now 14 rfl) (by decide) ?_
          refine zx_isub (zd me_X12_now 15 rfl) ?_
          refine zx_callVI1 (zd me_X12_now 16 rfl) (mc_X12_those (zl C) h0 (i1 - (1 : Int32)) M1) lk_X12_267 ⟨(Nat.le_of_ble_eq_true rfl), (Nat.le_of_ble_eq_true rfl)⟩ (Nat.le_of_ble_eq_true rfl) (zi12_c h0) rfl (fun r12 M11 => ?_)
          exact zx_iret (zd me_X12_now 17 rfl) rfl
        · refine zx_ite (fun c13 => ?_) (fun c13 => ?_)
          · refine zx_tin (off := 56) (tgt := 64) (zd me_X12_now 6 rfl) (by rw [c13]; decide) (by rw [c13]; decide) (by rw [c13]; rfl) (by decide) ?_
            refine zx_aload_n (i := 0) (zd me_X12_now 12 rfl) rfl 1 rfl ?_
            refine zx_iload_n (i := 1) (zd me_X12_now 13 rfl) rfl 2 rfl ?_
            refine zx_iconst (v := 1) (zd me_X12_now 14 rfl) (by decide) ?_
            refine zx_isub (zd me_X12_now 15 rfl) ?_
            refine zx_callVI1 (zd me_X12_now 16 rfl) (mc_X12_those (zl C) h0 (i1 - (1 : Int32)) M1) lk_X12_267 ⟨(Nat.le_of_ble_eq_true rfl), (Nat.le_of_ble_eq_true rfl)⟩ (Nat.le_of_ble_eq_true rfl) (zi12_c h0) rfl (fun r15 M14 => ?_)
            exact zx_iret (zd me_X12_now 17 rfl) rfl
          · refine zx_ite (fun c16 => ?_) (fun c16 => ?_)
            · refine zx_tin (off := 64) (tgt := 72) (zd me_X12_now 6 rfl) (by rw [c16]; decide) (by rw [c16]; decide) (by rw [c16]; rfl) (by decide) ?_
              refine zx_iconst (v := 0) (zd me_X12_now 18 rfl) (by decide) ?_
              refine zx_istore_n (i := 3) (ls' := [(3, .int (0 : Int32)), (2, .int (0 : Int32)), (0, .ref a0), (1, .int i1)]) (zd me_X12_now 19 rfl) rfl (Nat.le_of_ble_eq_true rfl) rfl ?_
              refine zx_loc [2, 1, 0] rfl ?_
              exact mt_X12_now_l74 h0 zF (0 : Int32) (0 : Int32) M1
            · refine zx_ite (fun c17 => ?_) (fun c17 => ?_)
              · refine zx_tin (off := 98) (tgt := 106) (zd me_X12_now 6 rfl) (by rw [c17]; decide) (by rw [c17]; decide) (by rw [c17]; rfl) (by decide) ?_
                refine zx_iconst (v := 0) (zd me_X12_now 40 rfl) (by decide) ?_
                refine zx_istore_n (i := 3) (ls' := [(3, .int (0 : Int32)), (2, .int (0 : Int32)), (0, .ref a0), (1, .int i1)]) (zd me_X12_now 41 rfl) rfl (Nat.le_of_ble_eq_true rfl) rfl ?_
                refine zx_loc [2, 1, 0] rfl ?_
                exact mt_X12_now_l108 h0 zF (0 : Int32) (0 : Int32) M1
              · refine zx_ite (fun c18 => ?_) (fun c18 => ?_)
                · refine zx_tin (off := 132) (tgt := 140) (zd me_X12_now 6 rfl) (by rw [c18]; decide) (by rw [c18]; decide) (by rw [c18]; rfl) (by decide) ?_
                  refine zx_aload_n (i := 0) (zd me_X12_now 62 rfl) rfl 1 rfl ?_
                  refine zx_getR (zd me_X12_now 63 rfl) fl_X12_98 (zi12_c h0) rfl (zi12_r14 h0) ?_
                  refine zx_bipush (v := 57) (zd me_X12_now 64 rfl) (by decide) ?_
                  refine zx_iald (zd me_X12_now 65 rfl) (zi12_t14 h0) (fun j19 hj19 => ?_)
                  exact zx_iret (zd me_X12_now 66 rfl) rfl
                · refine zx_tout (tgt := 148) (zd me_X12_now 6 rfl) (by have e0 := lv_neT c2 (a := 0) (by decide); have e1 := lv_neT c4 (a := 1) (by decide); have e2 := lv_neT c7 (a := 2) (by decide); have e3 := lv_neT c10 (a := 3) (by decide); have e4 := lv_neT c13 (a := 4) (by decide); have e5 := lv_neT c16 (a := 5) (by decide); have e6 := lv_neT c17 (a := 6) (by decide); have e7 := lv_neT c18 (a := 7) (by decide); omega) (by decide) ?_
                  refine zx_iconst (v := (-1)) (zd me_X12_now 67 rfl) (by decide) ?_
                  exact zx_iret (zd me_X12_now 68 rfl) rfl
def mf_X12_save_l2 (R : zRR) (a0 : Nat) (a1 n1 : Nat) : Nat → Int32 → Int32 → zMem → Option (Unit × zMem)
  | 0, _, _, _ => none
  | fuel + 1, i2, i3, M =>
    if (56 : Int32) ≤ i3 then
      (some ((), M))
    else
      (zald 354 ((56 : Int32) + i3) fun j2 =>
      zald n1 (i2 + i3) fun j3 =>
      zlet (zwI M a1 j3 (M.1 (zrf R a0 14) j2)) fun M4 =>
      mf_X12_save_l2 R a0 a1 n1 fuel i2 (i3 + 1) M4)
theorem mt_X12_save_l2 {C : zCx} {ad : Nat → Nat} {T : zTT} {R : zRR} {a0 : Nat} {a1 n1 : Nat} (h0 : zi12 T R a0) (h1 : T[a1]? = some (1, n1)) : ∀ (fuel : Nat) (i2 : Int32) (i3 : Int32) (M : zMem), zX C mi_X12_save (zFin C zrvV ad T R) 0 0 (mf_X12_save_l2 R a0 a1 n1 fuel i2 i3 M) 2 [(0, .ref a0), (1, .ref a1), (2, .int i2), (3, .int i3)] [] ad T R M := by
  intro fuel
  induction fuel with
  | zero => intros; exact zx_none
  | succ fuel ih =>
    intro i2 i3 M
    rw [mf_X12_save_l2]
    refine zx_iload_n (i := 3) (zd me_X12_save 2 rfl) rfl 3 rfl ?_
    refine zx_bipush (v := 56) (zd me_X12_save 3 rfl) (by decide) ?_
    refine zx_icmp_ge (tgt := 28) (zd me_X12_save 4 rfl) (by decide) (fun c1 => ?_) (fun c1 => ?_)
    · exact zx_vret (zd me_X12_save 18 rfl) rfl
    · refine zx_aload_n (i := 1) (zd me_X12_save 5 rfl) rfl 1 rfl ?_
      refine zx_iload_n (i := 2) (zd me_X12_save 6 rfl) rfl 2 rfl ?_
      refine zx_iload_n (i := 3) (zd me_X12_save 7 rfl) rfl 3 rfl ?_
      refine zx_iadd (zd me_X12_save 8 rfl) ?_
      refine zx_aload_n (i := 0) (zd me_X12_save 9 rfl) rfl 0 rfl ?_
      refine zx_getR (zd me_X12_save 10 rfl) fl_X12_98 (zi12_c h0) rfl (zi12_r14 h0) ?_
      refine zx_bipush (v := 56) (zd me_X12_save 11 rfl) (by decide) ?_
      refine zx_iload_n (i := 3) (zd me_X12_save 12 rfl) rfl 3 rfl ?_
      refine zx_iadd (zd me_X12_save 13 rfl) ?_
      refine zx_iald (zd me_X12_save 14 rfl) (zi12_t14 h0) (fun j2 hj2 => ?_)
      refine zx_iast (zd me_X12_save 15 rfl) h1 (fun M4 => ?_)
      refine zx_iinc (v := 1) (ls' := [(3, .int (i3 + 1)), (0, .ref a0), (1, .ref a1), (2, .int i2)]) (zd me_X12_save 16 rfl) (Nat.le_of_ble_eq_true rfl) 3 rfl (by decide) rfl ?_
      refine zx_goto (tgt := 2) (zd me_X12_save 17 rfl) (by decide) ?_
      refine zx_loc [1, 2, 3, 0] rfl ?_
      exact ih i2 (i3 + 1) M4
def mf_X12_save (R : zRR) (a0 : Nat) (a1 n1 : Nat) (i2 : Int32) (M : zMem) : Option (Unit × zMem) :=
  mf_X12_save_l2 R a0 a1 n1 zF i2 (0 : Int32) M
theorem mc_X12_save (l : Launch) {T : zTT} {R : zRR} {a0 : Nat} {a1 n1 : Nat} (h0 : zi12 T R a0) (h1 : T[a1]? = some (1, n1)) (i2 : Int32) (M : zMem) : zMS l yX12_save mi_X12_save zrvV (mf_X12_save R a0 a1 n1 i2 M) [.ref a0, .ref a1, .int i2] T R M := by
  refine zMS.of (by decide +kernel) rfl ⟨rfl, rfl⟩ (Nat.le_of_ble_eq_true rfl) (fun C ad _ => ?_)
  show zX C mi_X12_save (zFin C zrvV ad T R) 0 0 (mf_X12_save R a0 a1 n1 i2 M) 0 [(0, .ref a0), (1, .ref a1), (2, .int i2)] [] ad T R M
  unfold mf_X12_save
  refine zx_iconst (v := 0) (zd me_X12_save 0 rfl) (by decide) ?_
  refine zx_istore_n (i := 3) (ls' := [(3, .int (0 : Int32)), (0, .ref a0), (1, .ref a1), (2, .int i2)]) (zd me_X12_save 1 rfl) rfl (Nat.le_of_ble_eq_true rfl) rfl ?_
  refine zx_loc [1, 2, 3, 0] rfl ?_
  exact mt_X12_save_l2 h0 h1 zF i2 (0 : Int32) M
def mf_X12_snap_b49 (R : zRR) (a0 : Nat) (M : zMem) : Option (Unit × zMem) :=
  zcl (mf_X12_save R a0 (zrf R a0 17) 448 ((56 : Int32) * (M.1 a0 26)) M) fun _ M2 =>
  zlet (zwI M2 a0 26 ((M2.1 a0 26) + (1 : Int32))) fun M4 =>
  some ((), M4)
theorem mt_X12_snap_b49 {C : zCx} {ad : Nat → Nat} {T : zTT} {R : zRR} {a0 : Nat} (h0 : zi12 T R a0) (M : zMem) : zX C mi_X12_snap (zFin C zrvV ad T R) 0 0 (mf_X12_snap_b49 R a0 M) 49 [(0, .ref a0)] [] ad T R M := by
  unfold mf_X12_snap_b49
  refine zx_aload_n (i := 0) (zd me_X12_snap 27 rfl) rfl 0 rfl ?_
  refine zx_aload_n (i := 0) (zd me_X12_snap 28 rfl) rfl 0 rfl ?_
  refine zx_getR (zd me_X12_snap 29 rfl) fl_X12_107 (zi12_c h0) rfl (zi12_r17 h0) ?_
  refine zx_bipush (v := 56) (zd me_X12_snap 30 rfl) (by decide) ?_
  refine zx_aload_n (i := 0) (zd me_X12_snap 31 rfl) rfl 0 rfl ?_
  refine zx_getI (zd me_X12_snap 32 rfl) fl_X12_227 (zi12_c h0) rfl ?_
  refine zx_imul (zd me_X12_snap 33 rfl) ?_
  refine zx_callVV2 (zd me_X12_snap 34 rfl) (mc_X12_save (zl C) h0 (zi12_t17 h0) ((56 : Int32) * (M.1 a0 26)) M) lk_X12_273 ⟨(Nat.le_of_ble_eq_true rfl), (Nat.le_of_ble_eq_true rfl)⟩ (Nat.le_of_ble_eq_true rfl) (zi12_c h0) rfl (fun r3 M2 => ?_)
  refine zx_aload_n (i := 0) (zd me_X12_snap 35 rfl) rfl 0 rfl ?_
  refine zx_dup (zd me_X12_snap 36 rfl) rfl ?_
  refine zx_getI (zd me_X12_snap 37 rfl) fl_X12_227 (zi12_c h0) rfl ?_
  refine zx_iconst (v := 1) (zd me_X12_snap 38 rfl) (by decide) ?_
  refine zx_iadd (zd me_X12_snap 39 rfl) ?_
  refine zx_putI (zd me_X12_snap 40 rfl) fp_X12_227 (zi12_c h0) rfl (fun M4 _ => ?_)
  exact zx_vret (zd me_X12_snap 41 rfl) rfl
def mf_X12_snap_l11 (R : zRR) (a0 : Nat) : Nat → Int32 → zMem → Option (Unit × zMem)
  | 0, _, _ => none
  | fuel + 1, i1, M =>
    if (392 : Int32) ≤ i1 then
      (zlet (zwI M a0 26 ((M.1 a0 26) - (1 : Int32))) fun M6 =>
      mf_X12_snap_b49 R a0 M6)
    else
      (zald 448 (i1 + (56 : Int32)) fun j7 =>
      zald 448 i1 fun j8 =>
      zlet (zwI M (zrf R a0 17) j8 (M.1 (zrf R a0 17) j7)) fun M9 =>
      mf_X12_snap_l11 R a0 fuel (i1 + 1) M9)
theorem mt_X12_snap_l11 {C : zCx} {ad : Nat → Nat} {T : zTT} {R : zRR} {a0 : Nat} (h0 : zi12 T R a0) : ∀ (fuel : Nat) (i1 : Int32) (M : zMem), zX C mi_X12_snap (zFin C zrvV ad T R) 0 0 (mf_X12_snap_l11 R a0 fuel i1 M) 11 [(0, .ref a0), (1, .int i1)] [] ad T R M := by
  intro fuel
  induction fuel with
  | zero => intros; exact zx_none
  | succ fuel ih =>
    intro i1 M
    rw [mf_X12_snap_l11]
    refine zx_iload_n (i := 1) (zd me_X12_snap 6 rfl) rfl 1 rfl ?_
    refine zx_sipush (v := 392) (zd me_X12_snap 7 rfl) (by decide) ?_
    refine zx_icmp_ge (tgt := 39) (zd me_X12_snap 8 rfl) (by decide) (fun c5 => ?_) (fun c5 => ?_)
    · refine zx_aload_n (i := 0) (zd me_X12_snap 21 rfl) rfl 0 rfl ?_
      refine zx_dup (zd me_X12_snap 22 rfl) rfl ?_
      refine zx_getI (zd me_X12_snap 23 rfl) fl_X12_227 (zi12_c h0) rfl ?_
      refine zx_iconst (v := 1) (zd me_X12_snap 24 rfl) (by decide) ?_
      refine zx_isub (zd me_X12_snap 25 rfl) ?_
      refine zx_putI (zd me_X12_snap 26 rfl) fp_X12_227 (zi12_c h0) rfl (fun M6 _ => ?_)
      refine zx_loc [0] rfl ?_
      exact mt_X12_snap_b49 h0 M6
    · refine zx_aload_n (i := 0) (zd me_X12_snap 9 rfl) rfl 0 rfl ?_
      refine zx_getR (zd me_X12_snap 10 rfl) fl_X12_107 (zi12_c h0) rfl (zi12_r17 h0) ?_
      refine zx_iload_n (i := 1) (zd me_X12_snap 11 rfl) rfl 1 rfl ?_
      refine zx_aload_n (i := 0) (zd me_X12_snap 12 rfl) rfl 0 rfl ?_
      refine zx_getR (zd me_X12_snap 13 rfl) fl_X12_107 (zi12_c h0) rfl (zi12_r17 h0) ?_
      refine zx_iload_n (i := 1) (zd me_X12_snap 14 rfl) rfl 1 rfl ?_
      refine zx_bipush (v := 56) (zd me_X12_snap 15 rfl) (by decide) ?_
      refine zx_iadd (zd me_X12_snap 16 rfl) ?_
      refine zx_iald (zd me_X12_snap 17 rfl) (zi12_t17 h0) (fun j7 hj7 => ?_)
      refine zx_iast (zd me_X12_snap 18 rfl) (zi12_t17 h0) (fun M9 => ?_)
      refine zx_iinc (v := 1) (ls' := [(1, .int (i1 + 1)), (0, .ref a0)]) (zd me_X12_snap 19 rfl) (Nat.le_of_ble_eq_true rfl) 1 rfl (by decide) rfl ?_
      refine zx_goto (tgt := 11) (zd me_X12_snap 20 rfl) (by decide) ?_
      refine zx_loc [1, 0] rfl ?_
      exact ih (i1 + 1) M9
def mf_X12_snap (R : zRR) (a0 : Nat) (M : zMem) : Option (Unit × zMem) :=
  if (M.1 a0 26) = (8 : Int32) then
    (mf_X12_snap_l11 R a0 zF (0 : Int32) M)
  else
    (mf_X12_snap_b49 R a0 M)
theorem mc_X12_snap (l : Launch) {T : zTT} {R : zRR} {a0 : Nat} (h0 : zi12 T R a0) (M : zMem) : zMS l yX12_snap mi_X12_snap zrvV (mf_X12_snap R a0 M) [.ref a0] T R M := by
  refine zMS.of (by decide +kernel) rfl ⟨rfl, rfl⟩ (Nat.le_of_ble_eq_true rfl) (fun C ad _ => ?_)
  show zX C mi_X12_snap (zFin C zrvV ad T R) 0 0 (mf_X12_snap R a0 M) 0 [(0, .ref a0)] [] ad T R M
  unfold mf_X12_snap
  refine zx_aload_n (i := 0) (zd me_X12_snap 0 rfl) rfl 0 rfl ?_
  refine zx_getI (zd me_X12_snap 1 rfl) fl_X12_227 (zi12_c h0) rfl ?_
  refine zx_bipush (v := 8) (zd me_X12_snap 2 rfl) (by decide) ?_
  refine zx_icmp_ne (tgt := 49) (zd me_X12_snap 3 rfl) (by decide) (fun c1 => ?_) (fun c1 => ?_)
  · exact mt_X12_snap_b49 h0 M
  · refine zx_iconst (v := 0) (zd me_X12_snap 4 rfl) (by decide) ?_
    refine zx_istore_n (i := 1) (ls' := [(1, .int (0 : Int32)), (0, .ref a0)]) (zd me_X12_snap 5 rfl) rfl (Nat.le_of_ble_eq_true rfl) rfl ?_
    refine zx_loc [1, 0] rfl ?_
    exact mt_X12_snap_l11 h0 zF (0 : Int32) M
def mf_X12_comeBack_l2 (R : zRR) (a0 : Nat) (a1 n1 : Nat) : Nat → Int32 → Int32 → zMem → Option (Unit × zMem)
  | 0, _, _, _ => none
  | fuel + 1, i2, i3, M =>
    if (56 : Int32) ≤ i3 then
      (some ((), M))
    else
      (zald n1 (i2 + i3) fun j2 =>
      zald 354 ((56 : Int32) + i3) fun j3 =>
      zlet (zwI M (zrf R a0 14) j3 (M.1 a1 j2)) fun M4 =>
      mf_X12_comeBack_l2 R a0 a1 n1 fuel i2 (i3 + 1) M4)
theorem mt_X12_comeBack_l2 {C : zCx} {ad : Nat → Nat} {T : zTT} {R : zRR} {a0 : Nat} {a1 n1 : Nat} (h0 : zi12 T R a0) (h1 : T[a1]? = some (1, n1)) : ∀ (fuel : Nat) (i2 : Int32) (i3 : Int32) (M : zMem), zX C mi_X12_comeBack (zFin C zrvV ad T R) 0 0 (mf_X12_comeBack_l2 R a0 a1 n1 fuel i2 i3 M) 2 [(0, .ref a0), (1, .ref a1), (2, .int i2), (3, .int i3)] [] ad T R M := by
  intro fuel
  induction fuel with
  | zero => intros; exact zx_none
  | succ fuel ih =>
    intro i2 i3 M
    rw [mf_X12_comeBack_l2]
    refine zx_iload_n (i := 3) (zd me_X12_comeBack 2 rfl) rfl 3 rfl ?_
    refine zx_bipush (v := 56) (zd me_X12_comeBack 3 rfl) (by decide) ?_
    refine zx_icmp_ge (tgt := 28) (zd me_X12_comeBack 4 rfl) (by decide) (fun c1 => ?_) (fun c1 => ?_)
    · exact zx_vret (zd me_X12_comeBack 18 rfl) rfl
    · refine zx_aload_n (i := 0) (zd me_X12_comeBack 5 rfl) rfl 0 rfl ?_
      refine zx_getR (zd me_X12_comeBack 6 rfl) fl_X12_98 (zi12_c h0) rfl (zi12_r14 h0) ?_
      refine zx_bipush (v := 56) (zd me_X12_comeBack 7 rfl) (by decide) ?_
      refine zx_iload_n (i := 3) (zd me_X12_comeBack 8 rfl) rfl 3 rfl ?_
      refine zx_iadd (zd me_X12_comeBack 9 rfl) ?_
      refine zx_aload_n (i := 1) (zd me_X12_comeBack 10 rfl) rfl 1 rfl ?_
      refine zx_iload_n (i := 2) (zd me_X12_comeBack 11 rfl) rfl 2 rfl ?_
      refine zx_iload_n (i := 3) (zd me_X12_comeBack 12 rfl) rfl 3 rfl ?_
      refine zx_iadd (zd me_X12_comeBack 13 rfl) ?_
      refine zx_iald (zd me_X12_comeBack 14 rfl) h1 (fun j2 hj2 => ?_)
      refine zx_iast (zd me_X12_comeBack 15 rfl) (zi12_t14 h0) (fun M4 => ?_)
      refine zx_iinc (v := 1) (ls' := [(3, .int (i3 + 1)), (0, .ref a0), (1, .ref a1), (2, .int i2)]) (zd me_X12_comeBack 16 rfl) (Nat.le_of_ble_eq_true rfl) 3 rfl (by decide) rfl ?_
      refine zx_goto (tgt := 2) (zd me_X12_comeBack 17 rfl) (by decide) ?_
      refine zx_loc [1, 2, 3, 0] rfl ?_
      exact ih i2 (i3 + 1) M4
def mf_X12_comeBack (R : zRR) (a0 : Nat) (a1 n1 : Nat) (i2 : Int32) (M : zMem) : Option (Unit × zMem) :=
  mf_X12_comeBack_l2 R a0 a1 n1 zF i2 (0 : Int32) M
theorem mc_X12_comeBack (l : Launch) {T : zTT} {R : zRR} {a0 : Nat} {a1 n1 : Nat} (h0 : zi12 T R a0) (h1 : T[a1]? = some (1, n1)) (i2 : Int32) (M : zMem) : zMS l yX12_comeBack mi_X12_comeBack zrvV (mf_X12_comeBack R a0 a1 n1 i2 M) [.ref a0, .ref a1, .int i2] T R M := by
  refine zMS.of (by decide +kernel) rfl ⟨rfl, rfl⟩ (Nat.le_of_ble_eq_true rfl) (fun C ad _ => ?_)
  show zX C mi_X12_comeBack (zFin C zrvV ad T R) 0 0 (mf_X12_comeBack R a0 a1 n1 i2 M) 0 [(0, .ref a0), (1, .ref a1), (2, .int i2)] [] ad T R M
  unfold mf_X12_comeBack
  refine zx_iconst (v := 0) (zd me_X12_comeBack 0 rfl) (by decide) ?_
  refine zx_istore_n (i := 3) (ls' := [(3, .int (0 : Int32)), (0, .ref a0), (1, .ref a1), (2, .int i2)]) (zd me_X12_comeBack 1 rfl) rfl (Nat.le_of_ble_eq_true rfl) rfl ?_
  refine zx_loc [1, 2, 3, 0] rfl ?_
  exact mt_X12_comeBack_l2 h0 h1 zF i2 (0 : Int32) M
def mf_X12_whyStart (R : zRR) (a0 : Nat) (i1 : Int32) (M : zMem) : Option (Int32 × zMem) :=
  zcl (mf_X12_isWaiting R a0 i1 M) fun r2 M1 =>
  if r2 = 0 then
    (some ((1 : Int32), M1))
  else
    (zcl (mf_X12_nextOf R a0 i1 (-1 : Int32) M1) fun r5 M4 =>
    if r5 = (-1 : Int32) then
      (some ((0 : Int32), M4))
    else
      (zcl (mf_X12_isOpen R a0 r5 M4) fun r8 M7 =>
      if r8 = 0 then
        (some ((2 : Int32), M7))
      else
        (some ((0 : Int32), M7))))
theorem mc_X12_whyStart (l : Launch) {T : zTT} {R : zRR} {a0 : Nat} (h0 : zi12 T R a0) (i1 : Int32) (M : zMem) : zMS l yX12_whyStart mi_X12_whyStart zrvI (mf_X12_whyStart R a0 i1 M) [.ref a0, .int i1] T R M := by
  refine zMS.of (by decide +kernel) rfl ⟨rfl, rfl⟩ (Nat.le_of_ble_eq_true rfl) (fun C ad _ => ?_)
  show zX C mi_X12_whyStart (zFin C zrvI ad T R) 0 0 (mf_X12_whyStart R a0 i1 M) 0 [(0, .ref a0), (1, .int i1)] [] ad T R M
  unfold mf_X12_whyStart
  refine zx_aload_n (i := 0) (zd me_X12_whyStart 0 rfl) rfl 0 rfl ?_
  refine zx_iload_n (i := 1) (zd me_X12_whyStart 1 rfl) rfl 1 rfl ?_
  refine zx_callVI1 (zd me_X12_whyStart 2 rfl) (mc_X12_isWaiting (zl C) h0 i1 M) lk_X12_246 ⟨(Nat.le_of_ble_eq_true rfl), (Nat.le_of_ble_eq_true rfl)⟩ (Nat.le_of_ble_eq_true rfl) (zi12_c h0) rfl (fun r2 M1 => ?_)
  refine zx_if_ne (tgt := 10) (zd me_X12_whyStart 3 rfl) (by decide) (fun c3 => ?_) (fun c3 => ?_)
  · refine zx_aload_n (i := 0) (zd me_X12_whyStart 6 rfl) rfl 0 rfl ?_
    refine zx_iload_n (i := 1) (zd me_X12_whyStart 7 rfl) rfl 1 rfl ?_
    refine zx_iconst (v := (-1)) (zd me_X12_whyStart 8 rfl) (by decide) ?_
    refine zx_callVI2 (zd me_X12_whyStart 9 rfl) (mc_X12_nextOf (zl C) h0 i1 (-1 : Int32) M1) lk_X12_277 ⟨(Nat.le_of_ble_eq_true rfl), (Nat.le_of_ble_eq_true rfl)⟩ (Nat.le_of_ble_eq_true rfl) (zi12_c h0) rfl (fun r5 M4 => ?_)
    refine zx_istore_n (i := 2) (ls' := [(2, .int r5), (0, .ref a0), (1, .int i1)]) (zd me_X12_whyStart 10 rfl) rfl (Nat.le_of_ble_eq_true rfl) rfl ?_
    refine zx_iload_n (i := 2) (zd me_X12_whyStart 11 rfl) rfl 0 rfl ?_
    refine zx_iconst (v := (-1)) (zd me_X12_whyStart 12 rfl) (by decide) ?_
    refine zx_icmp_eq (tgt := 34) (zd me_X12_whyStart 13 rfl) (by decide) (fun c6 => ?_) (fun c6 => ?_)
    · refine zx_iconst (v := 0) (zd me_X12_whyStart 20 rfl) (by decide) ?_
      exact zx_iret (zd me_X12_whyStart 21 rfl) rfl
    · refine zx_aload_n (i := 0) (zd me_X12_whyStart 14 rfl) rfl 1 rfl ?_
      refine zx_iload_n (i := 2) (zd me_X12_whyStart 15 rfl) rfl 0 rfl ?_
      refine zx_callVI1 (zd me_X12_whyStart 16 rfl) (mc_X12_isOpen (zl C) h0 r5 M4) lk_X12_252 ⟨(Nat.le_of_ble_eq_true rfl), (Nat.le_of_ble_eq_true rfl)⟩ (Nat.le_of_ble_eq_true rfl) (zi12_c h0) rfl (fun r8 M7 => ?_)
      refine zx_if_ne (tgt := 34) (zd me_X12_whyStart 17 rfl) (by decide) (fun c9 => ?_) (fun c9 => ?_)
      · refine zx_iconst (v := 0) (zd me_X12_whyStart 20 rfl) (by decide) ?_
        exact zx_iret (zd me_X12_whyStart 21 rfl) rfl
      · refine zx_iconst (v := 2) (zd me_X12_whyStart 18 rfl) (by decide) ?_
        refine zx_goto (tgt := 35) (zd me_X12_whyStart 19 rfl) (by decide) ?_
        exact zx_iret (zd me_X12_whyStart 21 rfl) rfl
  · refine zx_iconst (v := 1) (zd me_X12_whyStart 4 rfl) (by decide) ?_
    exact zx_iret (zd me_X12_whyStart 5 rfl) rfl
def mf_X12_whyRenew (R : zRR) (a0 : Nat) (i1 : Int32) (M : zMem) : Option (Int32 × zMem) :=
  zald 354 ((58 : Int32) + i1) fun j1 =>
  if (M.1 (zrf R a0 14) j1) = 0 then
    (some ((1 : Int32), M))
  else
    (zald 354 (57 : Int32) fun j3 =>
    if (M.1 (zrf R a0 14) j3) = 0 then
      (some ((2 : Int32), M))
    else
      (zcl (mf_X12_sheetsIn R a0 i1 M) fun r6 M5 =>
      if r6 = 0 then
        (some ((0 : Int32), M5))
      else
        (some ((3 : Int32), M5))))
theorem mc_X12_whyRenew (l : Launch) {T : zTT} {R : zRR} {a0 : Nat} (h0 : zi12 T R a0) (i1 : Int32) (M : zMem) : zMS l yX12_whyRenew mi_X12_whyRenew zrvI (mf_X12_whyRenew R a0 i1 M) [.ref a0, .int i1] T R M := by
  refine zMS.of (by decide +kernel) rfl ⟨rfl, rfl⟩ (Nat.le_of_ble_eq_true rfl) (fun C ad _ => ?_)
  show zX C mi_X12_whyRenew (zFin C zrvI ad T R) 0 0 (mf_X12_whyRenew R a0 i1 M) 0 [(0, .ref a0), (1, .int i1)] [] ad T R M
  unfold mf_X12_whyRenew
  refine zx_aload_n (i := 0) (zd me_X12_whyRenew 0 rfl) rfl 0 rfl ?_
  refine zx_getR (zd me_X12_whyRenew 1 rfl) fl_X12_98 (zi12_c h0) rfl (zi12_r14 h0) ?_
  refine zx_bipush (v := 58) (zd me_X12_whyRenew 2 rfl) (by decide) ?_
  refine zx_iload_n (i := 1) (zd me_X12_whyRenew 3 rfl) rfl 1 rfl ?_
  refine zx_iadd (zd me_X12_whyRenew 4 rfl) ?_
  refine zx_iald (zd me_X12_whyRenew 5 rfl) (zi12_t14 h0) (fun j1 hj1 => ?_)
  refine zx_if_ne (tgt := 16) (zd me_X12_whyRenew 6 rfl) (by decide) (fun c2 => ?_) (fun c2 => ?_)
  · refine zx_aload_n (i := 0) (zd me_X12_whyRenew 9 rfl) rfl 0 rfl ?_
    refine zx_getR (zd me_X12_whyRenew 10 rfl) fl_X12_98 (zi12_c h0) rfl (zi12_r14 h0) ?_
    refine zx_bipush (v := 57) (zd me_X12_whyRenew 11 rfl) (by decide) ?_
    refine zx_iald (zd me_X12_whyRenew 12 rfl) (zi12_t14 h0) (fun j3 hj3 => ?_)
    refine zx_if_ne (tgt := 30) (zd me_X12_whyRenew 13 rfl) (by decide) (fun c4 => ?_) (fun c4 => ?_)
    · refine zx_aload_n (i := 0) (zd me_X12_whyRenew 16 rfl) rfl 0 rfl ?_
      refine zx_iload_n (i := 1) (zd me_X12_whyRenew 17 rfl) rfl 1 rfl ?_
      refine zx_callVI1 (zd me_X12_whyRenew 18 rfl) (mc_X12_sheetsIn (zl C) h0 i1 M) lk_X12_237 ⟨(Nat.le_of_ble_eq_true rfl), (Nat.le_of_ble_eq_true rfl)⟩ (Nat.le_of_ble_eq_true rfl) (zi12_c h0) rfl (fun r6 M5 => ?_)
      refine zx_if_eq (tgt := 42) (zd me_X12_whyRenew 19 rfl) (by decide) (fun c7 => ?_) (fun c7 => ?_)
      · refine zx_iconst (v := 0) (zd me_X12_whyRenew 22 rfl) (by decide) ?_
        exact zx_iret (zd me_X12_whyRenew 23 rfl) rfl
      · refine zx_iconst (v := 3) (zd me_X12_whyRenew 20 rfl) (by decide) ?_
        refine zx_goto (tgt := 43) (zd me_X12_whyRenew 21 rfl) (by decide) ?_
        exact zx_iret (zd me_X12_whyRenew 23 rfl) rfl
    · refine zx_iconst (v := 2) (zd me_X12_whyRenew 14 rfl) (by decide) ?_
      refine zx_goto (tgt := 43) (zd me_X12_whyRenew 15 rfl) (by decide) ?_
      exact zx_iret (zd me_X12_whyRenew 23 rfl) rfl
  · refine zx_iconst (v := 1) (zd me_X12_whyRenew 7 rfl) (by decide) ?_
    refine zx_goto (tgt := 43) (zd me_X12_whyRenew 8 rfl) (by decide) ?_
    exact zx_iret (zd me_X12_whyRenew 23 rfl) rfl
def mf_X12_why (R : zRR) (a0 : Nat) (i1 : Int32) (i2 : Int32) (M : zMem) : Option (Int32 × zMem) :=
  if i1 = 0 then
    (zcl (mf_X12_whyStart R a0 i2 M) fun r3 M2 =>
    some (r3, M2))
  else
  if i1 = 1 then
    (zcl (mf_X12_isBathed R a0 i2 M) fun r6 M5 =>
    if r6 = 0 then
      (some ((1 : Int32), M5))
    else
      (some ((0 : Int32), M5)))
  else
  if i1 = 2 then
    (zald 354 ((64 : Int32) + i2) fun j9 =>
    if (M.1 (zrf R a0 14) j9) = (3 : Int32) then
      (some ((0 : Int32), M))
    else
      (some ((1 : Int32), M)))
  else
    (zcl (mf_X12_whyRenew R a0 i2 M) fun r12 M11 =>
    some (r12, M11))
theorem mc_X12_why (l : Launch) {T : zTT} {R : zRR} {a0 : Nat} (h0 : zi12 T R a0) (i1 : Int32) (i2 : Int32) (M : zMem) : zMS l yX12_why mi_X12_why zrvI (mf_X12_why R a0 i1 i2 M) [.ref a0, .int i1, .int i2] T R M := by
  refine zMS.of (by decide +kernel) rfl ⟨rfl, rfl⟩ (Nat.le_of_ble_eq_true rfl) (fun C ad _ => ?_)
  show zX C mi_X12_why (zFin C zrvI ad T R) 0 0 (mf_X12_why R a0 i1 i2 M) 0 [(0, .ref a0), (1, .int i1), (2, .int i2)] [] ad T R M
  unfold mf_X12_why
  refine zx_iload_n (i := 1) (zd me_X12_why 0 rfl) rfl 1 rfl ?_
  refine zx_ite (fun c1 => ?_) (fun c1 => ?_)
  · refine zx_tin (off := 27) (tgt := 28) (zd me_X12_why 1 rfl) (by rw [c1]; decide) (by rw [c1]; decide) (by rw [c1]; rfl) (by decide) ?_
    refine zx_aload_n (i := 0) (zd me_X12_why 2 rfl) rfl 0 rfl ?_
    refine zx_iload_n (i := 2) (zd me_X12_why 3 rfl) rfl 2 rfl ?_
    refine zx_callVI1 (zd me_X12_why 4 rfl) (mc_X12_whyStart (zl C) h0 i2 M) lk_X12_280 ⟨(Nat.le_of_ble_eq_true rfl), (Nat.le_of_ble_eq_true rfl)⟩ (Nat.le_of_ble_eq_true rfl) (zi12_c h0) rfl (fun r3 M2 => ?_)
    exact zx_iret (zd me_X12_why 5 rfl) rfl
  · refine zx_ite (fun c4 => ?_) (fun c4 => ?_)
    · refine zx_tin (off := 33) (tgt := 34) (zd me_X12_why 1 rfl) (by rw [c4]; decide) (by rw [c4]; decide) (by rw [c4]; rfl) (by decide) ?_
      refine zx_aload_n (i := 0) (zd me_X12_why 6 rfl) rfl 0 rfl ?_
      refine zx_iload_n (i := 2) (zd me_X12_why 7 rfl) rfl 2 rfl ?_
      refine zx_callVI1 (zd me_X12_why 8 rfl) (mc_X12_isBathed (zl C) h0 i2 M) lk_X12_230 ⟨(Nat.le_of_ble_eq_true rfl), (Nat.le_of_ble_eq_true rfl)⟩ (Nat.le_of_ble_eq_true rfl) (zi12_c h0) rfl (fun r6 M5 => ?_)
      refine zx_if_eq (tgt := 46) (zd me_X12_why 9 rfl) (by decide) (fun c7 => ?_) (fun c7 => ?_)
      · refine zx_iconst (v := 1) (zd me_X12_why 12 rfl) (by decide) ?_
        exact zx_iret (zd me_X12_why 13 rfl) rfl
      · refine zx_iconst (v := 0) (zd me_X12_why 10 rfl) (by decide) ?_
        refine zx_goto (tgt := 47) (zd me_X12_why 11 rfl) (by decide) ?_
        exact zx_iret (zd me_X12_why 13 rfl) rfl
    · refine zx_ite (fun c8 => ?_) (fun c8 => ?_)
      · refine zx_tin (off := 47) (tgt := 48) (zd me_X12_why 1 rfl) (by rw [c8]; decide) (by rw [c8]; decide) (by rw [c8]; rfl) (by decide) ?_
        refine zx_aload_n (i := 0) (zd me_X12_why 14 rfl) rfl 0 rfl ?_
        refine zx_getR (zd me_X12_why 15 rfl) fl_X12_98 (zi12_c h0) rfl (zi12_r14 h0) ?_
        refine zx_bipush (v := 64) (zd me_X12_why 16 rfl) (by decide) ?_
        refine zx_iload_n (i := 2) (zd me_X12_why 17 rfl) rfl 2 rfl ?_
        refine zx_iadd (zd me_X12_why 18 rfl) ?_
        refine zx_iald (zd me_X12_why 19 rfl) (zi12_t14 h0) (fun j9 hj9 => ?_)
        refine zx_iconst (v := 3) (zd me_X12_why 20 rfl) (by decide) ?_
        refine zx_icmp_ne (tgt := 65) (zd me_X12_why 21 rfl) (by decide) (fun c10 => ?_) (fun c10 => ?_)
        · refine zx_iconst (v := 1) (zd me_X12_why 24 rfl) (by decide) ?_
          exact zx_iret (zd me_X12_why 25 rfl) rfl
        · refine zx_iconst (v := 0) (zd me_X12_why 22 rfl) (by decide) ?_
          refine zx_goto (tgt := 66) (zd me_X12_why 23 rfl) (by decide) ?_
          exact zx_iret (zd me_X12_why 25 rfl) rfl
      · refine zx_tout (tgt := 67) (zd me_X12_why 1 rfl) (by have e0 := lv_neT c1 (a := 0) (by decide); have e1 := lv_neT c4 (a := 1) (by decide); have e2 := lv_neT c8 (a := 2) (by decide); omega) (by decide) ?_
        refine zx_aload_n (i := 0) (zd me_X12_why 26 rfl) rfl 0 rfl ?_
        refine zx_iload_n (i := 2) (zd me_X12_why 27 rfl) rfl 2 rfl ?_
        refine zx_callVI1 (zd me_X12_why 28 rfl) (mc_X12_whyRenew (zl C) h0 i2 M) lk_X12_283 ⟨(Nat.le_of_ble_eq_true rfl), (Nat.le_of_ble_eq_true rfl)⟩ (Nat.le_of_ble_eq_true rfl) (zi12_c h0) rfl (fun r12 M11 => ?_)
        exact zx_iret (zd me_X12_why 29 rfl) rfl
def mf_X12_comesInto_b67 (R : zRR) (a0 : Nat) (i1 : Int32) (i2 : Int32) (s0 : Int32) (s1 : Int32) (s2 : Int32) (M : zMem) : Option (Unit × zMem) :=
  zald 354 s2 fun j11 =>
  zlet (zwI M (zrf R a0 14) j11 (s1 + s0)) fun M12 =>
  zald 354 ((88 : Int32) + i1) fun j13 =>
  zlet (zwI M12 (zrf R a0 14) j13 (0 : Int32)) fun M14 =>
  zald 354 ((58 : Int32) + i2) fun j15 =>
  zald 354 ((58 : Int32) + i2) fun j16 =>
  zlet (zwI M14 (zrf R a0 14) j16 ((M14.1 (zrf R a0 14) j15) + (1 : Int32))) fun M17 =>
  some ((), M17)
theorem mt_X12_comesInto_b67 {C : zCx} {ad : Nat → Nat} {T : zTT} {R : zRR} {a0 : Nat} (h0 : zi12 T R a0) (i1 : Int32) (i2 : Int32) (s0 : Int32) (s1 : Int32) (s2 : Int32) (M : zMem) : zX C mi_X12_comesInto (zFin C zrvV ad T R) 0 0 (mf_X12_comesInto_b67 R a0 i1 i2 s0 s1 s2 M) 67 [(0, .ref a0), (1, .int i1), (2, .int i2)] [.int s0, .int s1, .int s2, .ref (zrf R a0 14)] ad T R M := by
  unfold mf_X12_comesInto_b67
  refine zx_iadd (zd me_X12_comesInto 44 rfl) ?_
  refine zx_iast (zd me_X12_comesInto 45 rfl) (zi12_t14 h0) (fun M12 => ?_)
  refine zx_aload_n (i := 0) (zd me_X12_comesInto 46 rfl) rfl 0 rfl ?_
  refine zx_getR (zd me_X12_comesInto 47 rfl) fl_X12_98 (zi12_c h0) rfl (zi12_r14 h0) ?_
  refine zx_bipush (v := 88) (zd me_X12_comesInto 48 rfl) (by decide) ?_
  refine zx_iload_n (i := 1) (zd me_X12_comesInto 49 rfl) rfl 1 rfl ?_
  refine zx_iadd (zd me_X12_comesInto 50 rfl) ?_
  refine zx_iconst (v := 0) (zd me_X12_comesInto 51 rfl) (by decide) ?_
  refine zx_iast (zd me_X12_comesInto 52 rfl) (zi12_t14 h0) (fun M14 => ?_)
  refine zx_aload_n (i := 0) (zd me_X12_comesInto 53 rfl) rfl 0 rfl ?_
  refine zx_getR (zd me_X12_comesInto 54 rfl) fl_X12_98 (zi12_c h0) rfl (zi12_r14 h0) ?_
  refine zx_bipush (v := 58) (zd me_X12_comesInto 55 rfl) (by decide) ?_
  refine zx_iload_n (i := 2) (zd me_X12_comesInto 56 rfl) rfl 2 rfl ?_
  refine zx_iadd (zd me_X12_comesInto 57 rfl) ?_
  refine zx_dup2 (zd me_X12_comesInto 58 rfl) rfl rfl ?_
  refine zx_iald (zd me_X12_comesInto 59 rfl) (zi12_t14 h0) (fun j15 hj15 => ?_)
  refine zx_iconst (v := 1) (zd me_X12_comesInto 60 rfl) (by decide) ?_
  refine zx_iadd (zd me_X12_comesInto 61 rfl) ?_
  refine zx_iast (zd me_X12_comesInto 62 rfl) (zi12_t14 h0) (fun M17 => ?_)
  exact zx_vret (zd me_X12_comesInto 63 rfl) rfl
def mf_X12_comesInto (R : zRR) (a0 : Nat) (i1 : Int32) (i2 : Int32) (M : zMem) : Option (Unit × zMem) :=
  zald 354 ((64 : Int32) + i1) fun j1 =>
  zlet (zwI M (zrf R a0 14) j1 (1 : Int32)) fun M2 =>
  zald 354 ((72 : Int32) + i1) fun j3 =>
  zlet (zwI M2 (zrf R a0 14) j3 i2) fun M4 =>
  zcl (mf_X12_askedBy R a0 i1 i2 M4) fun r6 M5 =>
  zald 354 ((58 : Int32) + i2) fun j7 =>
  zald 354 ((12 : Int32) + i2) fun j8 =>
  if ((2 : Int32) * (M5.1 (zrf R a0 14) j7)) < (M5.1 (zrf R a0 14) j8) then
    (mf_X12_comesInto_b67 R a0 i1 i2 (0 : Int32) r6 ((80 : Int32) + i1) M5)
  else
    (zald 354 (4 : Int32) fun j10 =>
    mf_X12_comesInto_b67 R a0 i1 i2 (M5.1 (zrf R a0 14) j10) r6 ((80 : Int32) + i1) M5)
theorem mc_X12_comesInto (l : Launch) {T : zTT} {R : zRR} {a0 : Nat} (h0 : zi12 T R a0) (i1 : Int32) (i2 : Int32) (M : zMem) : zMS l yX12_comesInto mi_X12_comesInto zrvV (mf_X12_comesInto R a0 i1 i2 M) [.ref a0, .int i1, .int i2] T R M := by
  refine zMS.of (by decide +kernel) rfl ⟨rfl, rfl⟩ (Nat.le_of_ble_eq_true rfl) (fun C ad _ => ?_)
  show zX C mi_X12_comesInto (zFin C zrvV ad T R) 0 0 (mf_X12_comesInto R a0 i1 i2 M) 0 [(0, .ref a0), (1, .int i1), (2, .int i2)] [] ad T R M
  unfold mf_X12_comesInto
  refine zx_aload_n (i := 0) (zd me_X12_comesInto 0 rfl) rfl 0 rfl ?_
  refine zx_getR (zd me_X12_comesInto 1 rfl) fl_X12_98 (zi12_c h0) rfl (zi12_r14 h0) ?_
  refine zx_bipush (v := 64) (zd me_X12_comesInto 2 rfl) (by decide) ?_
  refine zx_iload_n (i := 1) (zd me_X12_comesInto 3 rfl) rfl 1 rfl ?_
  refine zx_iadd (zd me_X12_comesInto 4 rfl) ?_
  refine zx_iconst (v := 1) (zd me_X12_comesInto 5 rfl) (by decide) ?_
  refine zx_iast (zd me_X12_comesInto 6 rfl) (zi12_t14 h0) (fun M2 => ?_)
  refine zx_aload_n (i := 0) (zd me_X12_comesInto 7 rfl) rfl 0 rfl ?_
  refine zx_getR (zd me_X12_comesInto 8 rfl) fl_X12_98 (zi12_c h0) rfl (zi12_r14 h0) ?_
  refine zx_bipush (v := 72) (zd me_X12_comesInto 9 rfl) (by decide) ?_
  refine zx_iload_n (i := 1) (zd me_X12_comesInto 10 rfl) rfl 1 rfl ?_
  refine zx_iadd (zd me_X12_comesInto 11 rfl) ?_
  refine zx_iload_n (i := 2) (zd me_X12_comesInto 12 rfl) rfl 2 rfl ?_
  refine zx_iast (zd me_X12_comesInto 13 rfl) (zi12_t14 h0) (fun M4 => ?_)
  refine zx_aload_n (i := 0) (zd me_X12_comesInto 14 rfl) rfl 0 rfl ?_
  refine zx_getR (zd me_X12_comesInto 15 rfl) fl_X12_98 (zi12_c h0) rfl (zi12_r14 h0) ?_
  refine zx_bipush (v := 80) (zd me_X12_comesInto 16 rfl) (by decide) ?_
  refine zx_iload_n (i := 1) (zd me_X12_comesInto 17 rfl) rfl 1 rfl ?_
  refine zx_iadd (zd me_X12_comesInto 18 rfl) ?_
  refine zx_aload_n (i := 0) (zd me_X12_comesInto 19 rfl) rfl 0 rfl ?_
  refine zx_iload_n (i := 1) (zd me_X12_comesInto 20 rfl) rfl 1 rfl ?_
  refine zx_iload_n (i := 2) (zd me_X12_comesInto 21 rfl) rfl 2 rfl ?_
  refine zx_callVI2 (zd me_X12_comesInto 22 rfl) (mc_X12_askedBy (zl C) h0 i1 i2 M4) lk_X12_243 ⟨(Nat.le_of_ble_eq_true rfl), (Nat.le_of_ble_eq_true rfl)⟩ (Nat.le_of_ble_eq_true rfl) (zi12_c h0) rfl (fun r6 M5 => ?_)
  refine zx_iconst (v := 2) (zd me_X12_comesInto 23 rfl) (by decide) ?_
  refine zx_aload_n (i := 0) (zd me_X12_comesInto 24 rfl) rfl 0 rfl ?_
  refine zx_getR (zd me_X12_comesInto 25 rfl) fl_X12_98 (zi12_c h0) rfl (zi12_r14 h0) ?_
  refine zx_bipush (v := 58) (zd me_X12_comesInto 26 rfl) (by decide) ?_
  refine zx_iload_n (i := 2) (zd me_X12_comesInto 27 rfl) rfl 2 rfl ?_
  refine zx_iadd (zd me_X12_comesInto 28 rfl) ?_
  refine zx_iald (zd me_X12_comesInto 29 rfl) (zi12_t14 h0) (fun j7 hj7 => ?_)
  refine zx_imul (zd me_X12_comesInto 30 rfl) ?_
  refine zx_aload_n (i := 0) (zd me_X12_comesInto 31 rfl) rfl 0 rfl ?_
  refine zx_getR (zd me_X12_comesInto 32 rfl) fl_X12_98 (zi12_c h0) rfl (zi12_r14 h0) ?_
  refine zx_bipush (v := 12) (zd me_X12_comesInto 33 rfl) (by decide) ?_
  refine zx_iload_n (i := 2) (zd me_X12_comesInto 34 rfl) rfl 2 rfl ?_
  refine zx_iadd (zd me_X12_comesInto 35 rfl) ?_
  refine zx_iald (zd me_X12_comesInto 36 rfl) (zi12_t14 h0) (fun j8 hj8 => ?_)
  refine zx_icmp_lt (tgt := 66) (zd me_X12_comesInto 37 rfl) (by decide) (fun c9 => ?_) (fun c9 => ?_)
  · refine zx_iconst (v := 0) (zd me_X12_comesInto 43 rfl) (by decide) ?_
    exact mt_X12_comesInto_b67 h0 i1 i2 (0 : Int32) r6 ((80 : Int32) + i1) M5
  · refine zx_aload_n (i := 0) (zd me_X12_comesInto 38 rfl) rfl 0 rfl ?_
    refine zx_getR (zd me_X12_comesInto 39 rfl) fl_X12_98 (zi12_c h0) rfl (zi12_r14 h0) ?_
    refine zx_iconst (v := 4) (zd me_X12_comesInto 40 rfl) (by decide) ?_
    refine zx_iald (zd me_X12_comesInto 41 rfl) (zi12_t14 h0) (fun j10 hj10 => ?_)
    refine zx_goto (tgt := 67) (zd me_X12_comesInto 42 rfl) (by decide) ?_
    exact mt_X12_comesInto_b67 h0 i1 i2 (M5.1 (zrf R a0 14) j10) r6 ((80 : Int32) + i1) M5
def mf_X12_goesOut (R : zRR) (a0 : Nat) (i1 : Int32) (i2 : Int32) (M : zMem) : Option (Unit × zMem) :=
  zald 354 ((64 : Int32) + i1) fun j1 =>
  zlet (zwI M (zrf R a0 14) j1 i2) fun M2 =>
  zald 354 ((72 : Int32) + i1) fun j3 =>
  zlet (zwI M2 (zrf R a0 14) j3 (-1 : Int32)) fun M4 =>
  zald 354 ((80 : Int32) + i1) fun j5 =>
  zlet (zwI M4 (zrf R a0 14) j5 (0 : Int32)) fun M6 =>
  zald 354 ((88 : Int32) + i1) fun j7 =>
  zlet (zwI M6 (zrf R a0 14) j7 (0 : Int32)) fun M8 =>
  some ((), M8)
theorem mc_X12_goesOut (l : Launch) {T : zTT} {R : zRR} {a0 : Nat} (h0 : zi12 T R a0) (i1 : Int32) (i2 : Int32) (M : zMem) : zMS l yX12_goesOut mi_X12_goesOut zrvV (mf_X12_goesOut R a0 i1 i2 M) [.ref a0, .int i1, .int i2] T R M := by
  refine zMS.of (by decide +kernel) rfl ⟨rfl, rfl⟩ (Nat.le_of_ble_eq_true rfl) (fun C ad _ => ?_)
  show zX C mi_X12_goesOut (zFin C zrvV ad T R) 0 0 (mf_X12_goesOut R a0 i1 i2 M) 0 [(0, .ref a0), (1, .int i1), (2, .int i2)] [] ad T R M
  unfold mf_X12_goesOut
  refine zx_aload_n (i := 0) (zd me_X12_goesOut 0 rfl) rfl 0 rfl ?_
  refine zx_getR (zd me_X12_goesOut 1 rfl) fl_X12_98 (zi12_c h0) rfl (zi12_r14 h0) ?_
  refine zx_bipush (v := 64) (zd me_X12_goesOut 2 rfl) (by decide) ?_
  refine zx_iload_n (i := 1) (zd me_X12_goesOut 3 rfl) rfl 1 rfl ?_
  refine zx_iadd (zd me_X12_goesOut 4 rfl) ?_
  refine zx_iload_n (i := 2) (zd me_X12_goesOut 5 rfl) rfl 2 rfl ?_
  refine zx_iast (zd me_X12_goesOut 6 rfl) (zi12_t14 h0) (fun M2 => ?_)
  refine zx_aload_n (i := 0) (zd me_X12_goesOut 7 rfl) rfl 0 rfl ?_
  refine zx_getR (zd me_X12_goesOut 8 rfl) fl_X12_98 (zi12_c h0) rfl (zi12_r14 h0) ?_
  refine zx_bipush (v := 72) (zd me_X12_goesOut 9 rfl) (by decide) ?_
  refine zx_iload_n (i := 1) (zd me_X12_goesOut 10 rfl) rfl 1 rfl ?_
  refine zx_iadd (zd me_X12_goesOut 11 rfl) ?_
  refine zx_iconst (v := (-1)) (zd me_X12_goesOut 12 rfl) (by decide) ?_
  refine zx_iast (zd me_X12_goesOut 13 rfl) (zi12_t14 h0) (fun M4 => ?_)
  refine zx_aload_n (i := 0) (zd me_X12_goesOut 14 rfl) rfl 0 rfl ?_
  refine zx_getR (zd me_X12_goesOut 15 rfl) fl_X12_98 (zi12_c h0) rfl (zi12_r14 h0) ?_
  refine zx_bipush (v := 80) (zd me_X12_goesOut 16 rfl) (by decide) ?_
  refine zx_iload_n (i := 1) (zd me_X12_goesOut 17 rfl) rfl 1 rfl ?_
  refine zx_iadd (zd me_X12_goesOut 18 rfl) ?_
  refine zx_iconst (v := 0) (zd me_X12_goesOut 19 rfl) (by decide) ?_
  refine zx_iast (zd me_X12_goesOut 20 rfl) (zi12_t14 h0) (fun M6 => ?_)
  refine zx_aload_n (i := 0) (zd me_X12_goesOut 21 rfl) rfl 0 rfl ?_
  refine zx_getR (zd me_X12_goesOut 22 rfl) fl_X12_98 (zi12_c h0) rfl (zi12_r14 h0) ?_
  refine zx_bipush (v := 88) (zd me_X12_goesOut 23 rfl) (by decide) ?_
  refine zx_iload_n (i := 1) (zd me_X12_goesOut 24 rfl) rfl 1 rfl ?_
  refine zx_iadd (zd me_X12_goesOut 25 rfl) ?_
  refine zx_iconst (v := 0) (zd me_X12_goesOut 26 rfl) (by decide) ?_
  refine zx_iast (zd me_X12_goesOut 27 rfl) (zi12_t14 h0) (fun M8 => ?_)
  exact zx_vret (zd me_X12_goesOut 28 rfl) rfl
def mf_X12_starts (R : zRR) (a0 : Nat) (i1 : Int32) (M : zMem) : Option (Unit × zMem) :=
  zald 354 ((96 : Int32) + i1) fun j1 =>
  zlet (zwI M (zrf R a0 14) j1 (0 : Int32)) fun M2 =>
  zald 354 ((104 : Int32) + i1) fun j3 =>
  zald 354 ((104 : Int32) + i1) fun j4 =>
  zlet (zwI M2 (zrf R a0 14) j4 ((M2.1 (zrf R a0 14) j3) + (1 : Int32))) fun M5 =>
  zcl (mf_X12_nextOf R a0 i1 (-1 : Int32) M5) fun r7 M6 =>
  if r7 = (-1 : Int32) then
    (zcl (mf_X12_goesOut R a0 i1 (2 : Int32) M6) fun _ M11 =>
    some ((), M11))
  else
    (zcl (mf_X12_comesInto R a0 i1 r7 M6) fun _ M9 =>
    some ((), M9))
theorem mc_X12_starts (l : Launch) {T : zTT} {R : zRR} {a0 : Nat} (h0 : zi12 T R a0) (i1 : Int32) (M : zMem) : zMS l yX12_starts mi_X12_starts zrvV (mf_X12_starts R a0 i1 M) [.ref a0, .int i1] T R M := by
  refine zMS.of (by decide +kernel) rfl ⟨rfl, rfl⟩ (Nat.le_of_ble_eq_true rfl) (fun C ad _ => ?_)
  show zX C mi_X12_starts (zFin C zrvV ad T R) 0 0 (mf_X12_starts R a0 i1 M) 0 [(0, .ref a0), (1, .int i1)] [] ad T R M
  unfold mf_X12_starts
  refine zx_aload_n (i := 0) (zd me_X12_starts 0 rfl) rfl 0 rfl ?_
  refine zx_getR (zd me_X12_starts 1 rfl) fl_X12_98 (zi12_c h0) rfl (zi12_r14 h0) ?_
  refine zx_bipush (v := 96) (zd me_X12_starts 2 rfl) (by decide) ?_
  refine zx_iload_n (i := 1) (zd me_X12_starts 3 rfl) rfl 1 rfl ?_
  refine zx_iadd (zd me_X12_starts 4 rfl) ?_
  refine zx_iconst (v := 0) (zd me_X12_starts 5 rfl) (by decide) ?_
  refine zx_iast (zd me_X12_starts 6 rfl) (zi12_t14 h0) (fun M2 => ?_)
  refine zx_aload_n (i := 0) (zd me_X12_starts 7 rfl) rfl 0 rfl ?_
  refine zx_getR (zd me_X12_starts 8 rfl) fl_X12_98 (zi12_c h0) rfl (zi12_r14 h0) ?_
  refine zx_bipush (v := 104) (zd me_X12_starts 9 rfl) (by decide) ?_
  refine zx_iload_n (i := 1) (zd me_X12_starts 10 rfl) rfl 1 rfl ?_
  refine zx_iadd (zd me_X12_starts 11 rfl) ?_
  refine zx_dup2 (zd me_X12_starts 12 rfl) rfl rfl ?_
  refine zx_iald (zd me_X12_starts 13 rfl) (zi12_t14 h0) (fun j3 hj3 => ?_)
  refine zx_iconst (v := 1) (zd me_X12_starts 14 rfl) (by decide) ?_
  refine zx_iadd (zd me_X12_starts 15 rfl) ?_
  refine zx_iast (zd me_X12_starts 16 rfl) (zi12_t14 h0) (fun M5 => ?_)
  refine zx_aload_n (i := 0) (zd me_X12_starts 17 rfl) rfl 0 rfl ?_
  refine zx_iload_n (i := 1) (zd me_X12_starts 18 rfl) rfl 1 rfl ?_
  refine zx_iconst (v := (-1)) (zd me_X12_starts 19 rfl) (by decide) ?_
  refine zx_callVI2 (zd me_X12_starts 20 rfl) (mc_X12_nextOf (zl C) h0 i1 (-1 : Int32) M5) lk_X12_277 ⟨(Nat.le_of_ble_eq_true rfl), (Nat.le_of_ble_eq_true rfl)⟩ (Nat.le_of_ble_eq_true rfl) (zi12_c h0) rfl (fun r7 M6 => ?_)
  refine zx_istore_n (i := 2) (ls' := [(2, .int r7), (0, .ref a0), (1, .int i1)]) (zd me_X12_starts 21 rfl) rfl (Nat.le_of_ble_eq_true rfl) rfl ?_
  refine zx_iload_n (i := 2) (zd me_X12_starts 22 rfl) rfl 0 rfl ?_
  refine zx_iconst (v := (-1)) (zd me_X12_starts 23 rfl) (by decide) ?_
  refine zx_icmp_ne (tgt := 44) (zd me_X12_starts 24 rfl) (by decide) (fun c8 => ?_) (fun c8 => ?_)
  · refine zx_aload_n (i := 0) (zd me_X12_starts 30 rfl) rfl 1 rfl ?_
    refine zx_iload_n (i := 1) (zd me_X12_starts 31 rfl) rfl 2 rfl ?_
    refine zx_iload_n (i := 2) (zd me_X12_starts 32 rfl) rfl 0 rfl ?_
    refine zx_callVV2 (zd me_X12_starts 33 rfl) (mc_X12_comesInto (zl C) h0 i1 r7 M6) lk_X12_290 ⟨(Nat.le_of_ble_eq_true rfl), (Nat.le_of_ble_eq_true rfl)⟩ (Nat.le_of_ble_eq_true rfl) (zi12_c h0) rfl (fun r10 M9 => ?_)
    exact zx_vret (zd me_X12_starts 34 rfl) rfl
  · refine zx_aload_n (i := 0) (zd me_X12_starts 25 rfl) rfl 1 rfl ?_
    refine zx_iload_n (i := 1) (zd me_X12_starts 26 rfl) rfl 2 rfl ?_
    refine zx_iconst (v := 2) (zd me_X12_starts 27 rfl) (by decide) ?_
    refine zx_callVV2 (zd me_X12_starts 28 rfl) (mc_X12_goesOut (zl C) h0 i1 (2 : Int32) M6) lk_X12_286 ⟨(Nat.le_of_ble_eq_true rfl), (Nat.le_of_ble_eq_true rfl)⟩ (Nat.le_of_ble_eq_true rfl) (zi12_c h0) rfl (fun r12 M11 => ?_)
    refine zx_goto (tgt := 50) (zd me_X12_starts 29 rfl) (by decide) ?_
    exact zx_vret (zd me_X12_starts 34 rfl) rfl
