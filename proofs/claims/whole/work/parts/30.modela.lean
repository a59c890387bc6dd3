def mf_X12_thrown (R : zRR) (a0 : Nat) (M : zMem) : Option (Int32 × zMem) :=
  some ((M.1 a0 0), M)
theorem mc_X12_thrown (l : Launch) {T : zTT} {R : zRR} {a0 : Nat} (h0 : zi12 T R a0) (M : zMem) : zMS l yX12_thrown mi_X12_thrown zrvI (mf_X12_thrown R a0 M) [.ref a0] T R M := by
  refine zMS.of (by decide +kernel) rfl ⟨rfl, rfl⟩ (Nat.le_of_ble_eq_true rfl) (fun C ad _ => ?_)
  show zX C mi_X12_thrown (zFin C zrvI ad T R) 0 0 (mf_X12_thrown R a0 M) 0 [(0, .ref a0)] [] ad T R M
  unfold mf_X12_thrown
  refine zx_aload_n (i := 0) (zd me_X12_thrown 0 rfl) rfl 0 rfl ?_
  refine zx_getI (zd me_X12_thrown 1 rfl) fl_X12_1 (zi12_c h0) rfl ?_
  exact zx_iret (zd me_X12_thrown 2 rfl) rfl
def mf_X12_refuse (R : zRR) (a0 : Nat) (M : zMem) : Option (Int32 × zMem) :=
  zlet (zwI M a0 0 (1 : Int32)) fun M1 =>
  some ((0 : Int32), M1)
theorem mc_X12_refuse (l : Launch) {T : zTT} {R : zRR} {a0 : Nat} (h0 : zi12 T R a0) (M : zMem) : zMS l yX12_refuse mi_X12_refuse zrvI (mf_X12_refuse R a0 M) [.ref a0] T R M := by
  refine zMS.of (by decide +kernel) rfl ⟨rfl, rfl⟩ (Nat.le_of_ble_eq_true rfl) (fun C ad _ => ?_)
  show zX C mi_X12_refuse (zFin C zrvI ad T R) 0 0 (mf_X12_refuse R a0 M) 0 [(0, .ref a0)] [] ad T R M
  unfold mf_X12_refuse
  refine zx_aload_n (i := 0) (zd me_X12_refuse 0 rfl) rfl 0 rfl ?_
  refine zx_iconst (v := 1) (zd me_X12_refuse 1 rfl) (by decide) ?_
  refine zx_putI (zd me_X12_refuse 2 rfl) fp_X12_1 (zi12_c h0) rfl (fun M1 _ => ?_)
  refine zx_iconst (v := 0) (zd me_X12_refuse 3 rfl) (by decide) ?_
  exact zx_iret (zd me_X12_refuse 4 rfl) rfl
def mf_X12_come_l3 (R : zRR) (a0 : Nat) : Nat → Int32 → Int32 → zMem → Option (Unit × zMem)
  | 0, _, _, _ => none
  | fuel + 1, i1, i2, M =>
    if i2 < 0 then
      (some ((), M))
    else
      (zald 940 (M.1 a0 2) fun j2 =>
      zlet (zwI M (zrf R a0 1) j2 ((i1.toUInt32 >>> (i2.toUInt32 &&& Int32.toUInt32 31)).toInt32 &&& (255 : Int32))) fun M3 =>
      zlet (zwI M3 a0 2 ((M3.1 a0 2) + (1 : Int32))) fun M4 =>
      mf_X12_come_l3 R a0 fuel i1 (i2 + (-8)) M4)
theorem mt_X12_come_l3 {C : zCx} {ad : Nat → Nat} {T : zTT} {R : zRR} {a0 : Nat} (h0 : zi12 T R a0) : ∀ (fuel : Nat) (i1 : Int32) (i2 : Int32) (M : zMem), zX C mi_X12_come (zFin C zrvV ad T R) 0 0 (mf_X12_come_l3 R a0 fuel i1 i2 M) 3 [(0, .ref a0), (1, .int i1), (2, .int i2)] [] ad T R M := by
  intro fuel
  induction fuel with
  | zero => intros; exact zx_none
  | succ fuel ih =>
    intro i1 i2 M
    rw [mf_X12_come_l3]
    refine zx_iload_n (i := 2) (zd me_X12_come 2 rfl) rfl 2 rfl ?_
    refine zx_if_lt (tgt := 39) (zd me_X12_come 3 rfl) (by decide) (fun c1 => ?_) (fun c1 => ?_)
    · exact zx_vret (zd me_X12_come 22 rfl) rfl
    · refine zx_aload_n (i := 0) (zd me_X12_come 4 rfl) rfl 0 rfl ?_
      refine zx_getR (zd me_X12_come 5 rfl) fl_X12_7 (zi12_c h0) rfl (zi12_r1 h0) ?_
      refine zx_aload_n (i := 0) (zd me_X12_come 6 rfl) rfl 0 rfl ?_
      refine zx_getI (zd me_X12_come 7 rfl) fl_X12_11 (zi12_c h0) rfl ?_
      refine zx_iload_n (i := 1) (zd me_X12_come 8 rfl) rfl 1 rfl ?_
      refine zx_iload_n (i := 2) (zd me_X12_come 9 rfl) rfl 2 rfl ?_
      refine zx_iushr (zd me_X12_come 10 rfl) ?_
      refine zx_sipush (v := 255) (zd me_X12_come 11 rfl) (by decide) ?_
      refine zx_iand (zd me_X12_come 12 rfl) ?_
      refine zx_iast (zd me_X12_come 13 rfl) (zi12_t1 h0) (fun M3 => ?_)
      refine zx_aload_n (i := 0) (zd me_X12_come 14 rfl) rfl 0 rfl ?_
      refine zx_dup (zd me_X12_come 15 rfl) rfl ?_
      refine zx_getI (zd me_X12_come 16 rfl) fl_X12_11 (zi12_c h0) rfl ?_
      refine zx_iconst (v := 1) (zd me_X12_come 17 rfl) (by decide) ?_
      refine zx_iadd (zd me_X12_come 18 rfl) ?_
      refine zx_putI (zd me_X12_come 19 rfl) fp_X12_11 (zi12_c h0) rfl (fun M4 _ => ?_)
      refine zx_iinc (v := (-8)) (ls' := [(2, .int (i2 + (-8))), (0, .ref a0), (1, .int i1)]) (zd me_X12_come 20 rfl) (Nat.le_of_ble_eq_true rfl) 2 rfl (by decide) rfl ?_
      refine zx_goto (tgt := 3) (zd me_X12_come 21 rfl) (by decide) ?_
      refine zx_loc [1, 2, 0] rfl ?_
      exact ih i1 (i2 + (-8)) M4
def mf_X12_come (R : zRR) (a0 : Nat) (i1 : Int32) (M : zMem) : Option (Unit × zMem) :=
  mf_X12_come_l3 R a0 zF i1 (24 : Int32) M
theorem mc_X12_come (l : Launch) {T : zTT} {R : zRR} {a0 : Nat} (h0 : zi12 T R a0) (i1 : Int32) (M : zMem) : zMS l yX12_come mi_X12_come zrvV (mf_X12_come R a0 i1 M) [.ref a0, .int i1] T R M := by
  refine zMS.of (by decide +kernel) rfl ⟨rfl, rfl⟩ (Nat.le_of_ble_eq_true rfl) (fun C ad _ => ?_)
  show zX C mi_X12_come (zFin C zrvV ad T R) 0 0 (mf_X12_come R a0 i1 M) 0 [(0, .ref a0), (1, .int i1)] [] ad T R M
  unfold mf_X12_come
  refine zx_bipush (v := 24) (zd me_X12_come 0 rfl) (by decide) ?_
  refine zx_istore_n (i := 2) (ls' := [(2, .int (24 : Int32)), (0, .ref a0), (1, .int i1)]) (zd me_X12_come 1 rfl) rfl (Nat.le_of_ble_eq_true rfl) rfl ?_
  refine zx_loc [1, 2, 0] rfl ?_
  exact mt_X12_come_l3 h0 zF i1 (24 : Int32) M
def mf_X12_feed (R : zRR) (a0 : Nat) (i1 : Int32) (i2 : Int32) (i3 : Int32) (i4 : Int32) (i5 : Int32) (M : zMem) : Option (Int32 × zMem) :=
  zlet (zwI M a0 0 (0 : Int32)) fun M1 =>
  if ((M1.1 a0 2) + (20 : Int32)) ≤ (940 : Int32) then
    (zcl (mf_X12_come R a0 i1 M1) fun _ M3 =>
    zcl (mf_X12_come R a0 i2 M3) fun _ M5 =>
    zcl (mf_X12_come R a0 i3 M5) fun _ M7 =>
    zcl (mf_X12_come R a0 i4 M7) fun _ M9 =>
    zcl (mf_X12_come R a0 i5 M9) fun _ M11 =>
    some ((M11.1 a0 2), M11))
  else
    (some ((-1 : Int32), M1))
theorem mc_X12_feed (l : Launch) {T : zTT} {R : zRR} {a0 : Nat} (h0 : zi12 T R a0) (i1 : Int32) (i2 : Int32) (i3 : Int32) (i4 : Int32) (i5 : Int32) (M : zMem) : zMS l yX12_feed mi_X12_feed zrvI (mf_X12_feed R a0 i1 i2 i3 i4 i5 M) [.ref a0, .int i1, .int i2, .int i3, .int i4, .int i5] T R M := by
  refine zMS.of (by decide +kernel) rfl ⟨rfl, rfl⟩ (Nat.le_of_ble_eq_true rfl) (fun C ad _ => ?_)
  show zX C mi_X12_feed (zFin C zrvI ad T R) 0 0 (mf_X12_feed R a0 i1 i2 i3 i4 i5 M) 0 [(0, .ref a0), (1, .int i1), (2, .int i2), (3, .int i3), (4, .int i4), (5, .int i5)] [] ad T R M
  unfold mf_X12_feed
  refine zx_aload_n (i := 0) (zd me_X12_feed 0 rfl) rfl 0 rfl ?_
  refine zx_iconst (v := 0) (zd me_X12_feed 1 rfl) (by decide) ?_
  refine zx_putI (zd me_X12_feed 2 rfl) fp_X12_1 (zi12_c h0) rfl (fun M1 _ => ?_)
  refine zx_aload_n (i := 0) (zd me_X12_feed 3 rfl) rfl 0 rfl ?_
  refine zx_getI (zd me_X12_feed 4 rfl) fl_X12_11 (zi12_c h0) rfl ?_
  refine zx_bipush (v := 20) (zd me_X12_feed 5 rfl) (by decide) ?_
  refine zx_iadd (zd me_X12_feed 6 rfl) ?_
  refine zx_sipush (v := 940) (zd me_X12_feed 7 rfl) (by decide) ?_
  refine zx_icmp_le (tgt := 20) (zd me_X12_feed 8 rfl) (by decide) (fun c2 => ?_) (fun c2 => ?_)
  · refine zx_aload_n (i := 0) (zd me_X12_feed 11 rfl) rfl 0 rfl ?_
    refine zx_iload_n (i := 1) (zd me_X12_feed 12 rfl) rfl 1 rfl ?_
    refine zx_callVV1 (zd me_X12_feed 13 rfl) (mc_X12_come (zl C) h0 i1 M1) lk_X12_14 ⟨(Nat.le_of_ble_eq_true rfl), (Nat.le_of_ble_eq_true rfl)⟩ (Nat.le_of_ble_eq_true rfl) (zi12_c h0) rfl (fun r4 M3 => ?_)
    refine zx_aload_n (i := 0) (zd me_X12_feed 14 rfl) rfl 0 rfl ?_
    refine zx_iload_n (i := 2) (zd me_X12_feed 15 rfl) rfl 2 rfl ?_
    refine zx_callVV1 (zd me_X12_feed 16 rfl) (mc_X12_come (zl C) h0 i2 M3) lk_X12_14 ⟨(Nat.le_of_ble_eq_true rfl), (Nat.le_of_ble_eq_true rfl)⟩ (Nat.le_of_ble_eq_true rfl) (zi12_c h0) rfl (fun r6 M5 => ?_)
    refine zx_aload_n (i := 0) (zd me_X12_feed 17 rfl) rfl 0 rfl ?_
    refine zx_iload_n (i := 3) (zd me_X12_feed 18 rfl) rfl 3 rfl ?_
    refine zx_callVV1 (zd me_X12_feed 19 rfl) (mc_X12_come (zl C) h0 i3 M5) lk_X12_14 ⟨(Nat.le_of_ble_eq_true rfl), (Nat.le_of_ble_eq_true rfl)⟩ (Nat.le_of_ble_eq_true rfl) (zi12_c h0) rfl (fun r8 M7 => ?_)
    refine zx_aload_n (i := 0) (zd me_X12_feed 20 rfl) rfl 0 rfl ?_
    refine zx_iload (zd me_X12_feed 21 rfl) 4 rfl ?_
    refine zx_callVV1 (zd me_X12_feed 22 rfl) (mc_X12_come (zl C) h0 i4 M7) lk_X12_14 ⟨(Nat.le_of_ble_eq_true rfl), (Nat.le_of_ble_eq_true rfl)⟩ (Nat.le_of_ble_eq_true rfl) (zi12_c h0) rfl (fun r10 M9 => ?_)
    refine zx_aload_n (i := 0) (zd me_X12_feed 23 rfl) rfl 0 rfl ?_
    refine zx_iload (zd me_X12_feed 24 rfl) 5 rfl ?_
    refine zx_callVV1 (zd me_X12_feed 25 rfl) (mc_X12_come (zl C) h0 i5 M9) lk_X12_14 ⟨(Nat.le_of_ble_eq_true rfl), (Nat.le_of_ble_eq_true rfl)⟩ (Nat.le_of_ble_eq_true rfl) (zi12_c h0) rfl (fun r12 M11 => ?_)
    refine zx_aload_n (i := 0) (zd me_X12_feed 26 rfl) rfl 0 rfl ?_
    refine zx_getI (zd me_X12_feed 27 rfl) fl_X12_11 (zi12_c h0) rfl ?_
    exact zx_iret (zd me_X12_feed 28 rfl) rfl
  · refine zx_iconst (v := (-1)) (zd me_X12_feed 9 rfl) (by decide) ?_
    exact zx_iret (zd me_X12_feed 10 rfl) rfl
def mf_X12_end (R : zRR) (a0 : Nat) (i1 : Int32) (M : zMem) : Option (Int32 × zMem) :=
  zlet (zwI M a0 0 (0 : Int32)) fun M1 =>
  if i1 < 0 then
    (some ((0 : Int32), M1))
  else
    (if i1 ≤ (M1.1 a0 2) then
      (zlet (zwI M1 a0 2 i1) fun M4 =>
      some ((1 : Int32), M4))
    else
      (some ((0 : Int32), M1)))
theorem mc_X12_end (l : Launch) {T : zTT} {R : zRR} {a0 : Nat} (h0 : zi12 T R a0) (i1 : Int32) (M : zMem) : zMS l yX12_end mi_X12_end zrvI (mf_X12_end R a0 i1 M) [.ref a0, .int i1] T R M := by
  refine zMS.of (by decide +kernel) rfl ⟨rfl, rfl⟩ (Nat.le_of_ble_eq_true rfl) (fun C ad _ => ?_)
  show zX C mi_X12_end (zFin C zrvI ad T R) 0 0 (mf_X12_end R a0 i1 M) 0 [(0, .ref a0), (1, .int i1)] [] ad T R M
  unfold mf_X12_end
  refine zx_aload_n (i := 0) (zd me_X12_end 0 rfl) rfl 0 rfl ?_
  refine zx_iconst (v := 0) (zd me_X12_end 1 rfl) (by decide) ?_
  refine zx_putI (zd me_X12_end 2 rfl) fp_X12_1 (zi12_c h0) rfl (fun M1 _ => ?_)
  refine zx_iload_n (i := 1) (zd me_X12_end 3 rfl) rfl 1 rfl ?_
  refine zx_if_lt (tgt := 17) (zd me_X12_end 4 rfl) (by decide) (fun c2 => ?_) (fun c2 => ?_)
  · refine zx_iconst (v := 0) (zd me_X12_end 9 rfl) (by decide) ?_
    exact zx_zret (zd me_X12_end 10 rfl) rfl rfl
  · refine zx_iload_n (i := 1) (zd me_X12_end 5 rfl) rfl 1 rfl ?_
    refine zx_aload_n (i := 0) (zd me_X12_end 6 rfl) rfl 0 rfl ?_
    refine zx_getI (zd me_X12_end 7 rfl) fl_X12_11 (zi12_c h0) rfl ?_
    refine zx_icmp_le (tgt := 19) (zd me_X12_end 8 rfl) (by decide) (fun c3 => ?_) (fun c3 => ?_)
    · refine zx_aload_n (i := 0) (zd me_X12_end 11 rfl) rfl 0 rfl ?_
      refine zx_iload_n (i := 1) (zd me_X12_end 12 rfl) rfl 1 rfl ?_
      refine zx_putI (zd me_X12_end 13 rfl) fp_X12_11 (zi12_c h0) rfl (fun M4 _ => ?_)
      refine zx_iconst (v := 1) (zd me_X12_end 14 rfl) (by decide) ?_
      exact zx_zret (zd me_X12_end 15 rfl) rfl rfl
    · refine zx_iconst (v := 0) (zd me_X12_end 9 rfl) (by decide) ?_
      exact zx_zret (zd me_X12_end 10 rfl) rfl rfl
def mf_X12_take (R : zRR) (a0 : Nat) (M : zMem) : Option (Int32 × zMem) :=
  zlet ((M.1 a0 2) : Int32) fun x1 =>
  zlet (zwI M a0 2 (0 : Int32)) fun M2 =>
  some (x1, M2)
theorem mc_X12_take (l : Launch) {T : zTT} {R : zRR} {a0 : Nat} (h0 : zi12 T R a0) (M : zMem) : zMS l yX12_take mi_X12_take zrvI (mf_X12_take R a0 M) [.ref a0] T R M := by
  refine zMS.of (by decide +kernel) rfl ⟨rfl, rfl⟩ (Nat.le_of_ble_eq_true rfl) (fun C ad _ => ?_)
  show zX C mi_X12_take (zFin C zrvI ad T R) 0 0 (mf_X12_take R a0 M) 0 [(0, .ref a0)] [] ad T R M
  unfold mf_X12_take
  refine zx_aload_n (i := 0) (zd me_X12_take 0 rfl) rfl 0 rfl ?_
  refine zx_getI (zd me_X12_take 1 rfl) fl_X12_11 (zi12_c h0) rfl ?_
  refine zx_leti (fun x1 => ?_)
  refine zx_istore_n (i := 1) (ls' := [(1, .int x1), (0, .ref a0)]) (zd me_X12_take 2 rfl) rfl (Nat.le_of_ble_eq_true rfl) rfl ?_
  refine zx_aload_n (i := 0) (zd me_X12_take 3 rfl) rfl 1 rfl ?_
  refine zx_iconst (v := 0) (zd me_X12_take 4 rfl) (by decide) ?_
  refine zx_putI (zd me_X12_take 5 rfl) fp_X12_11 (zi12_c h0) rfl (fun M2 _ => ?_)
  refine zx_iload_n (i := 1) (zd me_X12_take 6 rfl) rfl 0 rfl ?_
  exact zx_iret (zd me_X12_take 7 rfl) rfl
def mf_X12_isIn (R : zRR) (i0 : Int32) (i1 : Int32) (i2 : Int32) (M : zMem) : Option (Int32 × zMem) :=
  if i0 < i1 then
    (some ((0 : Int32), M))
  else
    (if i2 < i0 then
      (some ((0 : Int32), M))
    else
      (some ((1 : Int32), M)))
theorem mc_X12_isIn (l : Launch) {T : zTT} {R : zRR}  (i0 : Int32) (i1 : Int32) (i2 : Int32) (M : zMem) : zMS l yX12_isIn mi_X12_isIn zrvI (mf_X12_isIn R i0 i1 i2 M) [.int i0, .int i1, .int i2] T R M := by
  refine zMS.of (by decide +kernel) rfl ⟨rfl, rfl⟩ (Nat.le_of_ble_eq_true rfl) (fun C ad _ => ?_)
  show zX C mi_X12_isIn (zFin C zrvI ad T R) 0 0 (mf_X12_isIn R i0 i1 i2 M) 0 [(0, .int i0), (1, .int i1), (2, .int i2)] [] ad T R M
  unfold mf_X12_isIn
  refine zx_iload_n (i := 0) (zd me_X12_isIn 0 rfl) rfl 0 rfl ?_
  refine zx_iload_n (i := 1) (zd me_X12_isIn 1 rfl) rfl 1 rfl ?_
  refine zx_icmp_lt (tgt := 14) (zd me_X12_isIn 2 rfl) (by decide) (fun c1 => ?_) (fun c1 => ?_)
  · refine zx_iconst (v := 0) (zd me_X12_isIn 8 rfl) (by decide) ?_
    exact zx_zret (zd me_X12_isIn 9 rfl) rfl rfl
  · refine zx_iload_n (i := 0) (zd me_X12_isIn 3 rfl) rfl 0 rfl ?_
    refine zx_iload_n (i := 2) (zd me_X12_isIn 4 rfl) rfl 2 rfl ?_
    refine zx_icmp_gt (tgt := 14) (zd me_X12_isIn 5 rfl) (by decide) (fun c2 => ?_) (fun c2 => ?_)
    · refine zx_iconst (v := 0) (zd me_X12_isIn 8 rfl) (by decide) ?_
      exact zx_zret (zd me_X12_isIn 9 rfl) rfl rfl
    · refine zx_iconst (v := 1) (zd me_X12_isIn 6 rfl) (by decide) ?_
      refine zx_goto (tgt := 15) (zd me_X12_isIn 7 rfl) (by decide) ?_
      exact zx_zret (zd me_X12_isIn 9 rfl) rfl rfl
def mf_X12_has (R : zRR) (i0 : Int32) (i1 : Int32) (M : zMem) : Option (Int32 × zMem) :=
  if ((i0 >>> (i1 &&& 31)) &&& (1 : Int32)) = (1 : Int32) then
    (some ((1 : Int32), M))
  else
    (some ((0 : Int32), M))
theorem mc_X12_has (l : Launch) {T : zTT} {R : zRR}  (i0 : Int32) (i1 : Int32) (M : zMem) : zMS l yX12_has mi_X12_has zrvI (mf_X12_has R i0 i1 M) [.int i0, .int i1] T R M := by
  refine zMS.of (by decide +kernel) rfl ⟨rfl, rfl⟩ (Nat.le_of_ble_eq_true rfl) (fun C ad _ => ?_)
  show zX C mi_X12_has (zFin C zrvI ad T R) 0 0 (mf_X12_has R i0 i1 M) 0 [(0, .int i0), (1, .int i1)] [] ad T R M
  unfold mf_X12_has
  refine zx_iload_n (i := 0) (zd me_X12_has 0 rfl) rfl 0 rfl ?_
  refine zx_iload_n (i := 1) (zd me_X12_has 1 rfl) rfl 1 rfl ?_
  refine zx_ishr (zd me_X12_has 2 rfl) ?_
  refine zx_iconst (v := 1) (zd me_X12_has 3 rfl) (by decide) ?_
  refine zx_iand (zd me_X12_has 4 rfl) ?_
  refine zx_iconst (v := 1) (zd me_X12_has 5 rfl) (by decide) ?_
  refine zx_icmp_ne (tgt := 13) (zd me_X12_has 6 rfl) (by decide) (fun c1 => ?_) (fun c1 => ?_)
  · refine zx_iconst (v := 0) (zd me_X12_has 9 rfl) (by decide) ?_
    exact zx_zret (zd me_X12_has 10 rfl) rfl rfl
  · refine zx_iconst (v := 1) (zd me_X12_has 7 rfl) (by decide) ?_
    refine zx_goto (tgt := 14) (zd me_X12_has 8 rfl) (by decide) ?_
    exact zx_zret (zd me_X12_has 10 rfl) rfl rfl
def mf_X12_bits_l4 (R : zRR) : Nat → Int32 → Int32 → zMem → Option (Int32 × zMem)
  | 0, _, _, _ => none
  | fuel + 1, i1, i2, M =>
    if i2 = 0 then
      (some (i1, M))
    else
      (zlet ((i2 &&& (i2 - (1 : Int32))) : Int32) fun x2 =>
      mf_X12_bits_l4 R fuel (i1 + 1) x2 M)
theorem mt_X12_bits_l4 {C : zCx} {ad : Nat → Nat} {T : zTT} {R : zRR}  : ∀ (fuel : Nat) (i1 : Int32) (i2 : Int32) (M : zMem), zX C mi_X12_bits (zFin C zrvI ad T R) 0 0 (mf_X12_bits_l4 R fuel i1 i2 M) 4 [(1, .int i1), (2, .int i2)] [] ad T R M := by
  intro fuel
  induction fuel with
  | zero => intros; exact zx_none
  | succ fuel ih =>
    intro i1 i2 M
    rw [mf_X12_bits_l4]
    refine zx_iload_n (i := 2) (zd me_X12_bits 4 rfl) rfl 1 rfl ?_
    refine zx_if_eq (tgt := 20) (zd me_X12_bits 5 rfl) (by decide) (fun c1 => ?_) (fun c1 => ?_)
    · refine zx_iload_n (i := 1) (zd me_X12_bits 14 rfl) rfl 0 rfl ?_
      exact zx_iret (zd me_X12_bits 15 rfl) rfl
    · refine zx_iinc (v := 1) (ls' := [(1, .int (i1 + 1)), (2, .int i2)]) (zd me_X12_bits 6 rfl) (Nat.le_of_ble_eq_true rfl) 0 rfl (by decide) rfl ?_
      refine zx_iload_n (i := 2) (zd me_X12_bits 7 rfl) rfl 1 rfl ?_
      refine zx_iload_n (i := 2) (zd me_X12_bits 8 rfl) rfl 1 rfl ?_
      refine zx_iconst (v := 1) (zd me_X12_bits 9 rfl) (by decide) ?_
      refine zx_isub (zd me_X12_bits 10 rfl) ?_
      refine zx_iand (zd me_X12_bits 11 rfl) ?_
      refine zx_leti (fun x2 => ?_)
      refine zx_istore_n (i := 2) (ls' := [(2, .int x2), (1, .int (i1 + 1))]) (zd me_X12_bits 12 rfl) rfl (Nat.le_of_ble_eq_true rfl) rfl ?_
      refine zx_goto (tgt := 4) (zd me_X12_bits 13 rfl) (by decide) ?_
      refine zx_loc [1, 0] rfl ?_
      exact ih (i1 + 1) x2 M
def mf_X12_bits (R : zRR) (i0 : Int32) (M : zMem) : Option (Int32 × zMem) :=
  mf_X12_bits_l4 R zF (0 : Int32) i0 M
theorem mc_X12_bits (l : Launch) {T : zTT} {R : zRR}  (i0 : Int32) (M : zMem) : zMS l yX12_bits mi_X12_bits zrvI (mf_X12_bits R i0 M) [.int i0] T R M := by
  refine zMS.of (by decide +kernel) rfl ⟨rfl, rfl⟩ (Nat.le_of_ble_eq_true rfl) (fun C ad _ => ?_)
  show zX C mi_X12_bits (zFin C zrvI ad T R) 0 0 (mf_X12_bits R i0 M) 0 [(0, .int i0)] [] ad T R M
  unfold mf_X12_bits
  refine zx_iconst (v := 0) (zd me_X12_bits 0 rfl) (by decide) ?_
  refine zx_istore_n (i := 1) (ls' := [(1, .int (0 : Int32)), (0, .int i0)]) (zd me_X12_bits 1 rfl) rfl (Nat.le_of_ble_eq_true rfl) rfl ?_
  refine zx_iload_n (i := 0) (zd me_X12_bits 2 rfl) rfl 1 rfl ?_
  refine zx_istore_n (i := 2) (ls' := [(2, .int i0), (1, .int (0 : Int32)), (0, .int i0)]) (zd me_X12_bits 3 rfl) rfl (Nat.le_of_ble_eq_true rfl) rfl ?_
  refine zx_loc [1, 0] rfl ?_
  exact mt_X12_bits_l4 zF (0 : Int32) i0 M
def mf_X12_least (R : zRR) (i0 : Int32) (i1 : Int32) (M : zMem) : Option (Int32 × zMem) :=
  if i1 ≤ i0 then
    (some (i1, M))
  else
    (some (i0, M))
theorem mc_X12_least (l : Launch) {T : zTT} {R : zRR}  (i0 : Int32) (i1 : Int32) (M : zMem) : zMS l yX12_least mi_X12_least zrvI (mf_X12_least R i0 i1 M) [.int i0, .int i1] T R M := by
  refine zMS.of (by decide +kernel) rfl ⟨rfl, rfl⟩ (Nat.le_of_ble_eq_true rfl) (fun C ad _ => ?_)
  show zX C mi_X12_least (zFin C zrvI ad T R) 0 0 (mf_X12_least R i0 i1 M) 0 [(0, .int i0), (1, .int i1)] [] ad T R M
  unfold mf_X12_least
  refine zx_iload_n (i := 0) (zd me_X12_least 0 rfl) rfl 0 rfl ?_
  refine zx_iload_n (i := 1) (zd me_X12_least 1 rfl) rfl 1 rfl ?_
  refine zx_icmp_ge (tgt := 9) (zd me_X12_least 2 rfl) (by decide) (fun c1 => ?_) (fun c1 => ?_)
  · refine zx_iload_n (i := 1) (zd me_X12_least 5 rfl) rfl 1 rfl ?_
    exact zx_iret (zd me_X12_least 6 rfl) rfl
  · refine zx_iload_n (i := 0) (zd me_X12_least 3 rfl) rfl 0 rfl ?_
    refine zx_goto (tgt := 10) (zd me_X12_least 4 rfl) (by decide) ?_
    exact zx_iret (zd me_X12_least 6 rfl) rfl
def mf_X12_size (R : zRR) (i0 : Int32) (M : zMem) : Option (Int32 × zMem) :=
  if 0 ≤ i0 then
    (some (i0, M))
  else
    (some ((-i0), M))
theorem mc_X12_size (l : Launch) {T : zTT} {R : zRR}  (i0 : Int32) (M : zMem) : zMS l yX12_size mi_X12_size zrvI (mf_X12_size R i0 M) [.int i0] T R M := by
  refine zMS.of (by decide +kernel) rfl ⟨rfl, rfl⟩ (Nat.le_of_ble_eq_true rfl) (fun C ad _ => ?_)
  show zX C mi_X12_size (zFin C zrvI ad T R) 0 0 (mf_X12_size R i0 M) 0 [(0, .int i0)] [] ad T R M
  unfold mf_X12_size
  refine zx_iload_n (i := 0) (zd me_X12_size 0 rfl) rfl 0 rfl ?_
  refine zx_if_ge (tgt := 9) (zd me_X12_size 1 rfl) (by decide) (fun c1 => ?_) (fun c1 => ?_)
  · refine zx_iload_n (i := 0) (zd me_X12_size 5 rfl) rfl 0 rfl ?_
    exact zx_iret (zd me_X12_size 6 rfl) rfl
  · refine zx_iload_n (i := 0) (zd me_X12_size 2 rfl) rfl 0 rfl ?_
    refine zx_ineg (zd me_X12_size 3 rfl) ?_
    refine zx_goto (tgt := 10) (zd me_X12_size 4 rfl) (by decide) ?_
    exact zx_iret (zd me_X12_size 6 rfl) rfl
def mf_X12_common_l4 (R : zRR) : Nat → Int32 → Int32 → zMem → Option (Int32 × zMem)
  | 0, _, _, _ => none
  | fuel + 1, i2, i3, M =>
    if i3 = 0 then
      (some (i2, M))
    else
      (zchk (¬ i3 = 0) <|
      zlet ((i2 - i2 / i3 * i3) : Int32) fun x2 =>
      mf_X12_common_l4 R fuel i3 x2 M)
theorem mt_X12_common_l4 {C : zCx} {ad : Nat → Nat} {T : zTT} {R : zRR}  : ∀ (fuel : Nat) (i2 : Int32) (i3 : Int32) (M : zMem), zX C mi_X12_common (zFin C zrvI ad T R) 0 0 (mf_X12_common_l4 R fuel i2 i3 M) 4 [(2, .int i2), (3, .int i3)] [] ad T R M := by
  intro fuel
  induction fuel with
  | zero => intros; exact zx_none
  | succ fuel ih =>
    intro i2 i3 M
    rw [mf_X12_common_l4]
    refine zx_iload_n (i := 3) (zd me_X12_common 4 rfl) rfl 1 rfl ?_
    refine zx_if_eq (tgt := 21) (zd me_X12_common 5 rfl) (by decide) (fun c1 => ?_) (fun c1 => ?_)
    · refine zx_iload_n (i := 2) (zd me_X12_common 15 rfl) rfl 0 rfl ?_
      exact zx_iret (zd me_X12_common 16 rfl) rfl
    · refine zx_iload_n (i := 2) (zd me_X12_common 6 rfl) rfl 0 rfl ?_
      refine zx_iload_n (i := 3) (zd me_X12_common 7 rfl) rfl 1 rfl ?_
      refine zx_irem (zd me_X12_common 8 rfl) ?_
      refine zx_leti (fun x2 => ?_)
      refine zx_istore (ls' := [(4, .int x2), (2, .int i2), (3, .int i3)]) (zd me_X12_common 9 rfl) (Nat.le_of_ble_eq_true rfl) rfl ?_
      refine zx_iload_n (i := 3) (zd me_X12_common 10 rfl) rfl 2 rfl ?_
      refine zx_istore_n (i := 2) (ls' := [(2, .int i3), (4, .int x2), (3, .int i3)]) (zd me_X12_common 11 rfl) rfl (Nat.le_of_ble_eq_true rfl) rfl ?_
      refine zx_iload (zd me_X12_common 12 rfl) 1 rfl ?_
      refine zx_istore_n (i := 3) (ls' := [(3, .int x2), (2, .int i3), (4, .int x2)]) (zd me_X12_common 13 rfl) rfl (Nat.le_of_ble_eq_true rfl) rfl ?_
      refine zx_goto (tgt := 4) (zd me_X12_common 14 rfl) (by decide) ?_
      refine zx_loc [1, 0] rfl ?_
      exact ih i3 x2 M
def mf_X12_common (R : zRR) (i0 : Int32) (i1 : Int32) (M : zMem) : Option (Int32 × zMem) :=
  mf_X12_common_l4 R zF i0 i1 M
theorem mc_X12_common (l : Launch) {T : zTT} {R : zRR}  (i0 : Int32) (i1 : Int32) (M : zMem) : zMS l yX12_common mi_X12_common zrvI (mf_X12_common R i0 i1 M) [.int i0, .int i1] T R M := by
  refine zMS.of (by decide +kernel) rfl ⟨rfl, rfl⟩ (Nat.le_of_ble_eq_true rfl) (fun C ad _ => ?_)
  show zX C mi_X12_common (zFin C zrvI ad T R) 0 0 (mf_X12_common R i0 i1 M) 0 [(0, .int i0), (1, .int i1)] [] ad T R M
  unfold mf_X12_common
  refine zx_iload_n (i := 0) (zd me_X12_common 0 rfl) rfl 0 rfl ?_
  refine zx_istore_n (i := 2) (ls' := [(2, .int i0), (0, .int i0), (1, .int i1)]) (zd me_X12_common 1 rfl) rfl (Nat.le_of_ble_eq_true rfl) rfl ?_
  refine zx_iload_n (i := 1) (zd me_X12_common 2 rfl) rfl 2 rfl ?_
  refine zx_istore_n (i := 3) (ls' := [(3, .int i1), (2, .int i0), (0, .int i0), (1, .int i1)]) (zd me_X12_common 3 rfl) rfl (Nat.le_of_ble_eq_true rfl) rfl ?_
  refine zx_loc [1, 0] rfl ?_
  exact mt_X12_common_l4 zF i0 i1 M
def mf_X12_tapeAt (R : zRR) (a0 : Nat) (i1 : Int32) (M : zMem) : Option (Int32 × zMem) :=
  if (M.1 a0 3) ≤ i1 then
    (some ((0 : Int32), M))
  else
    (zald 940 i1 fun j2 =>
    some ((M.1 (zrf R a0 1) j2), M))
theorem mc_X12_tapeAt (l : Launch) {T : zTT} {R : zRR} {a0 : Nat} (h0 : zi12 T R a0) (i1 : Int32) (M : zMem) : zMS l yX12_tapeAt mi_X12_tapeAt zrvI (mf_X12_tapeAt R a0 i1 M) [.ref a0, .int i1] T R M := by
  refine zMS.of (by decide +kernel) rfl ⟨rfl, rfl⟩ (Nat.le_of_ble_eq_true rfl) (fun C ad _ => ?_)
  show zX C mi_X12_tapeAt (zFin C zrvI ad T R) 0 0 (mf_X12_tapeAt R a0 i1 M) 0 [(0, .ref a0), (1, .int i1)] [] ad T R M
  unfold mf_X12_tapeAt
  refine zx_iload_n (i := 1) (zd me_X12_tapeAt 0 rfl) rfl 1 rfl ?_
  refine zx_aload_n (i := 0) (zd me_X12_tapeAt 1 rfl) rfl 0 rfl ?_
  refine zx_getI (zd me_X12_tapeAt 2 rfl) fl_X12_18 (zi12_c h0) rfl ?_
  refine zx_icmp_ge (tgt := 17) (zd me_X12_tapeAt 3 rfl) (by decide) (fun c1 => ?_) (fun c1 => ?_)
  · refine zx_iconst (v := 0) (zd me_X12_tapeAt 9 rfl) (by decide) ?_
    exact zx_iret (zd me_X12_tapeAt 10 rfl) rfl
  · refine zx_aload_n (i := 0) (zd me_X12_tapeAt 4 rfl) rfl 0 rfl ?_
    refine zx_getR (zd me_X12_tapeAt 5 rfl) fl_X12_7 (zi12_c h0) rfl (zi12_r1 h0) ?_
    refine zx_iload_n (i := 1) (zd me_X12_tapeAt 6 rfl) rfl 1 rfl ?_
    refine zx_iald (zd me_X12_tapeAt 7 rfl) (zi12_t1 h0) (fun j2 hj2 => ?_)
    refine zx_goto (tgt := 18) (zd me_X12_tapeAt 8 rfl) (by decide) ?_
    exact zx_iret (zd me_X12_tapeAt 10 rfl) rfl
def mf_X12_isDigit (R : zRR) (i0 : Int32) (M : zMem) : Option (Int32 × zMem) :=
  if i0 < (48 : Int32) then
    (some ((0 : Int32), M))
  else
    (if (57 : Int32) < i0 then
      (some ((0 : Int32), M))
    else
      (some ((1 : Int32), M)))
theorem mc_X12_isDigit (l : Launch) {T : zTT} {R : zRR}  (i0 : Int32) (M : zMem) : zMS l yX12_isDigit mi_X12_isDigit zrvI (mf_X12_isDigit R i0 M) [.int i0] T R M := by
  refine zMS.of (by decide +kernel) rfl ⟨rfl, rfl⟩ (Nat.le_of_ble_eq_true rfl) (fun C ad _ => ?_)
  show zX C mi_X12_isDigit (zFin C zrvI ad T R) 0 0 (mf_X12_isDigit R i0 M) 0 [(0, .int i0)] [] ad T R M
  unfold mf_X12_isDigit
  refine zx_iload_n (i := 0) (zd me_X12_isDigit 0 rfl) rfl 0 rfl ?_
  refine zx_bipush (v := 48) (zd me_X12_isDigit 1 rfl) (by decide) ?_
  refine zx_icmp_lt (tgt := 16) (zd me_X12_isDigit 2 rfl) (by decide) (fun c1 => ?_) (fun c1 => ?_)
  · refine zx_iconst (v := 0) (zd me_X12_isDigit 8 rfl) (by decide) ?_
    exact zx_zret (zd me_X12_isDigit 9 rfl) rfl rfl
  · refine zx_iload_n (i := 0) (zd me_X12_isDigit 3 rfl) rfl 0 rfl ?_
    refine zx_bipush (v := 57) (zd me_X12_isDigit 4 rfl) (by decide) ?_
    refine zx_icmp_gt (tgt := 16) (zd me_X12_isDigit 5 rfl) (by decide) (fun c2 => ?_) (fun c2 => ?_)
    · refine zx_iconst (v := 0) (zd me_X12_isDigit 8 rfl) (by decide) ?_
      exact zx_zret (zd me_X12_isDigit 9 rfl) rfl rfl
    · refine zx_iconst (v := 1) (zd me_X12_isDigit 6 rfl) (by decide) ?_
      refine zx_goto (tgt := 17) (zd me_X12_isDigit 7 rfl) (by decide) ?_
      exact zx_zret (zd me_X12_isDigit 9 rfl) rfl rfl
def mf_X12_isLetter (R : zRR) (i0 : Int32) (M : zMem) : Option (Int32 × zMem) :=
  if i0 < (97 : Int32) then
    (some ((0 : Int32), M))
  else
    (if (122 : Int32) < i0 then
      (some ((0 : Int32), M))
    else
      (some ((1 : Int32), M)))
theorem mc_X12_isLetter (l : Launch) {T : zTT} {R : zRR}  (i0 : Int32) (M : zMem) : zMS l yX12_isLetter mi_X12_isLetter zrvI (mf_X12_isLetter R i0 M) [.int i0] T R M := by
  refine zMS.of (by decide +kernel) rfl ⟨rfl, rfl⟩ (Nat.le_of_ble_eq_true rfl) (fun C ad _ => ?_)
  show zX C mi_X12_isLetter (zFin C zrvI ad T R) 0 0 (mf_X12_isLetter R i0 M) 0 [(0, .int i0)] [] ad T R M
  unfold mf_X12_isLetter
  refine zx_iload_n (i := 0) (zd me_X12_isLetter 0 rfl) rfl 0 rfl ?_
  refine zx_bipush (v := 97) (zd me_X12_isLetter 1 rfl) (by decide) ?_
  refine zx_icmp_lt (tgt := 16) (zd me_X12_isLetter 2 rfl) (by decide) (fun c1 => ?_) (fun c1 => ?_)
  · refine zx_iconst (v := 0) (zd me_X12_isLetter 8 rfl) (by decide) ?_
    exact zx_zret (zd me_X12_isLetter 9 rfl) rfl rfl
  · refine zx_iload_n (i := 0) (zd me_X12_isLetter 3 rfl) rfl 0 rfl ?_
    refine zx_bipush (v := 122) (zd me_X12_isLetter 4 rfl) (by decide) ?_
    refine zx_icmp_gt (tgt := 16) (zd me_X12_isLetter 5 rfl) (by decide) (fun c2 => ?_) (fun c2 => ?_)
    · refine zx_iconst (v := 0) (zd me_X12_isLetter 8 rfl) (by decide) ?_
      exact zx_zret (zd me_X12_isLetter 9 rfl) rfl rfl
    · refine zx_iconst (v := 1) (zd me_X12_isLetter 6 rfl) (by decide) ?_
      refine zx_goto (tgt := 17) (zd me_X12_isLetter 7 rfl) (by decide) ?_
      exact zx_zret (zd me_X12_isLetter 9 rfl) rfl rfl
def mf_X12_go_b39 (R : zRR) (a0 : Nat) (H0 : zMem → Option (Unit × zMem)) (M : zMem) : Option (Unit × zMem) :=
  zlet (zwI M a0 5 ((M.1 a0 5) + (1 : Int32))) fun M11 =>
  H0 M11
theorem mt_X12_go_b39 {C : zCx} {ad : Nat → Nat} {T : zTT} {R : zRR} {a0 : Nat} (h0 : zi12 T R a0) {H0 : zMem → Option (Unit × zMem)} (hH0 : ∀  (M : zMem), zX C mi_X12_go (zFin C zrvV ad T R) 0 0 (H0  M) 0 [(0, .ref a0)] [] ad T R M) (M : zMem) : zX C mi_X12_go (zFin C zrvV ad T R) 0 0 (mf_X12_go_b39 R a0 H0 M) 39 [(0, .ref a0)] [] ad T R M := by
  unfold mf_X12_go_b39
  refine zx_aload_n (i := 0) (zd me_X12_go 19 rfl) rfl 0 rfl ?_
  refine zx_dup (zd me_X12_go 20 rfl) rfl ?_
  refine zx_getI (zd me_X12_go 21 rfl) fl_X12_21 (zi12_c h0) rfl ?_
  refine zx_iconst (v := 1) (zd me_X12_go 22 rfl) (by decide) ?_
  refine zx_iadd (zd me_X12_go 23 rfl) ?_
  refine zx_putI (zd me_X12_go 24 rfl) fp_X12_21 (zi12_c h0) rfl (fun M11 _ => ?_)
  refine zx_goto (tgt := 0) (zd me_X12_go 25 rfl) (by decide) ?_
  exact hH0 M11
def mf_X12_go_b179 (R : zRR) (a0 : Nat) (i1 : Int32) (s0 : Int32) (M : zMem) : Option (Unit × zMem) :=
  zlet (zwI M a0 7 s0) fun M32 =>
  zlet (zwI M32 a0 9 i1) fun M33 =>
  zlet (zwI M33 a0 5 ((M33.1 a0 5) + (1 : Int32))) fun M34 =>
  some ((), M34)
theorem mt_X12_go_b179 {C : zCx} {ad : Nat → Nat} {T : zTT} {R : zRR} {a0 : Nat} (h0 : zi12 T R a0) (i1 : Int32) (s0 : Int32) (M : zMem) : zX C mi_X12_go (zFin C zrvV ad T R) 0 0 (mf_X12_go_b179 R a0 i1 s0 M) 179 [(0, .ref a0), (1, .int i1)] [.int s0, .ref a0] ad T R M := by
  unfold mf_X12_go_b179
  refine zx_putI (zd me_X12_go 91 rfl) fp_X12_30 (zi12_c h0) rfl (fun M32 _ => ?_)
  refine zx_aload_n (i := 0) (zd me_X12_go 92 rfl) rfl 0 rfl ?_
  refine zx_iload_n (i := 1) (zd me_X12_go 93 rfl) rfl 1 rfl ?_
  refine zx_putI (zd me_X12_go 94 rfl) fp_X12_40 (zi12_c h0) rfl (fun M33 _ => ?_)
  refine zx_aload_n (i := 0) (zd me_X12_go 95 rfl) rfl 0 rfl ?_
  refine zx_dup (zd me_X12_go 96 rfl) rfl ?_
  refine zx_getI (zd me_X12_go 97 rfl) fl_X12_21 (zi12_c h0) rfl ?_
  refine zx_iconst (v := 1) (zd me_X12_go 98 rfl) (by decide) ?_
  refine zx_iadd (zd me_X12_go 99 rfl) ?_
  refine zx_putI (zd me_X12_go 100 rfl) fp_X12_21 (zi12_c h0) rfl (fun M34 _ => ?_)
  exact zx_vret (zd me_X12_go 101 rfl) rfl
def mf_X12_go_b174 (R : zRR) (a0 : Nat) (i1 : Int32) (M : zMem) : Option (Unit × zMem) :=
  mf_X12_go_b179 R a0 i1 (4 : Int32) M
theorem mt_X12_go_b174 {C : zCx} {ad : Nat → Nat} {T : zTT} {R : zRR} {a0 : Nat} (h0 : zi12 T R a0) (i1 : Int32) (M : zMem) : zX C mi_X12_go (zFin C zrvV ad T R) 0 0 (mf_X12_go_b174 R a0 i1 M) 174 [(0, .ref a0), (1, .int i1)] [.ref a0] ad T R M := by
  unfold mf_X12_go_b174
  refine zx_iconst (v := 4) (zd me_X12_go 88 rfl) (by decide) ?_
  refine zx_goto (tgt := 179) (zd me_X12_go 89 rfl) (by decide) ?_
  exact mt_X12_go_b179 h0 i1 (4 : Int32) M
def mf_X12_go_b337 (R : zRR) (a0 : Nat) (H215 : Int32 → Int32 → zMem → Option (Unit × zMem)) (i2 : Int32) (i3 : Int32) (M : zMem) : Option (Unit × zMem) :=
  zlet (zwI M a0 5 ((M.1 a0 5) + (1 : Int32))) fun M63 =>
  H215 i2 i3 M63
theorem mt_X12_go_b337 {C : zCx} {ad : Nat → Nat} {T : zTT} {R : zRR} {a0 : Nat} (h0 : zi12 T R a0) {H215 : Int32 → Int32 → zMem → Option (Unit × zMem)} (hH215 : ∀ (i2 : Int32) (i3 : Int32) (M : zMem), zX C mi_X12_go (zFin C zrvV ad T R) 0 0 (H215 i2 i3 M) 215 [(0, .ref a0), (2, .int i2), (3, .int i3)] [] ad T R M) (i2 : Int32) (i3 : Int32) (M : zMem) : zX C mi_X12_go (zFin C zrvV ad T R) 0 0 (mf_X12_go_b337 R a0 H215 i2 i3 M) 337 [(0, .ref a0), (2, .int i2), (3, .int i3)] [] ad T R M := by
  unfold mf_X12_go_b337
  refine zx_aload_n (i := 0) (zd me_X12_go 176 rfl) rfl 0 rfl ?_
  refine zx_dup (zd me_X12_go 177 rfl) rfl ?_
  refine zx_getI (zd me_X12_go 178 rfl) fl_X12_21 (zi12_c h0) rfl ?_
  refine zx_iconst (v := 1) (zd me_X12_go 179 rfl) (by decide) ?_
  refine zx_iadd (zd me_X12_go 180 rfl) ?_
  refine zx_putI (zd me_X12_go 181 rfl) fp_X12_21 (zi12_c h0) rfl (fun M63 _ => ?_)
  refine zx_goto (tgt := 215) (zd me_X12_go 182 rfl) (by decide) ?_
  exact hH215 i2 i3 M63
def mf_X12_go_b307 (R : zRR) (a0 : Nat) (H215 : Int32 → Int32 → zMem → Option (Unit × zMem)) (i2 : Int32) (i3 : Int32) (i4 : Int32) (M : zMem) : Option (Unit × zMem) :=
  if (3 : Int32) ≤ ((M.1 a0 5) - (M.1 a0 6)) then
    (mf_X12_go_b337 R a0 H215 i2 i3 M)
  else
    (zlet (zwI M a0 8 ((((10 : Int32) * (M.1 a0 8)) + i4) - (48 : Int32))) fun M62 =>
    mf_X12_go_b337 R a0 H215 i2 i3 M62)
theorem mt_X12_go_b307 {C : zCx} {ad : Nat → Nat} {T : zTT} {R : zRR} {a0 : Nat} (h0 : zi12 T R a0) {H215 : Int32 → Int32 → zMem → Option (Unit × zMem)} (hH215 : ∀ (i2 : Int32) (i3 : Int32) (M : zMem), zX C mi_X12_go (zFin C zrvV ad T R) 0 0 (H215 i2 i3 M) 215 [(0, .ref a0), (2, .int i2), (3, .int i3)] [] ad T R M) (i2 : Int32) (i3 : Int32) (i4 : Int32) (M : zMem) : zX C mi_X12_go (zFin C zrvV ad T R) 0 0 (mf_X12_go_b307 R a0 H215 i2 i3 i4 M) 307 [(0, .ref a0), (2, .int i2), (3, .int i3), (4, .int i4)] [] ad T R M := by
  unfold mf_X12_go_b307
  refine zx_aload_n (i := 0) (zd me_X12_go 159 rfl) rfl 0 rfl ?_
  refine zx_getI (zd me_X12_go 160 rfl) fl_X12_21 (zi12_c h0) rfl ?_
  refine zx_aload_n (i := 0) (zd me_X12_go 161 rfl) rfl 0 rfl ?_
  refine zx_getI (zd me_X12_go 162 rfl) fl_X12_24 (zi12_c h0) rfl ?_
  refine zx_isub (zd me_X12_go 163 rfl) ?_
  refine zx_iconst (v := 3) (zd me_X12_go 164 rfl) (by decide) ?_
  refine zx_icmp_ge (tgt := 337) (zd me_X12_go 165 rfl) (by decide) (fun c61 => ?_) (fun c61 => ?_)
  · refine zx_loc [0, 1, 2] rfl ?_
    exact mt_X12_go_b337 h0 hH215 i2 i3 M
  · refine zx_aload_n (i := 0) (zd me_X12_go 166 rfl) rfl 0 rfl ?_
    refine zx_bipush (v := 10) (zd me_X12_go 167 rfl) (by decide) ?_
    refine zx_aload_n (i := 0) (zd me_X12_go 168 rfl) rfl 0 rfl ?_
    refine zx_getI (zd me_X12_go 169 rfl) fl_X12_47 (zi12_c h0) rfl ?_
    refine zx_imul (zd me_X12_go 170 rfl) ?_
    refine zx_iload (zd me_X12_go 171 rfl) 3 rfl ?_
    refine zx_iadd (zd me_X12_go 172 rfl) ?_
    refine zx_bipush (v := 48) (zd me_X12_go 173 rfl) (by decide) ?_
    refine zx_isub (zd me_X12_go 174 rfl) ?_
    refine zx_putI (zd me_X12_go 175 rfl) fp_X12_47 (zi12_c h0) rfl (fun M62 _ => ?_)
    refine zx_loc [0, 1, 2] rfl ?_
    exact mt_X12_go_b337 h0 hH215 i2 i3 M62
def mf_X12_go_b272 (R : zRR) (a0 : Nat) (H215 : Int32 → Int32 → zMem → Option (Unit × zMem)) (i2 : Int32) (i4 : Int32) (s0 : Int32) (M : zMem) : Option (Unit × zMem) :=
  if (7 : Int32) ≤ ((M.1 a0 5) - (M.1 a0 6)) then
    (mf_X12_go_b307 R a0 H215 i2 s0 i4 M)
  else
    (zlet (zwL M a0 12 ((((27 : Int64) * (M.2 a0 12)) + i4.toInt64) - (96 : Int64))) fun M60 =>
    mf_X12_go_b307 R a0 H215 i2 s0 i4 M60)
theorem mt_X12_go_b272 {C : zCx} {ad : Nat → Nat} {T : zTT} {R : zRR} {a0 : Nat} (h0 : zi12 T R a0) {H215 : Int32 → Int32 → zMem → Option (Unit × zMem)} (hH215 : ∀ (i2 : Int32) (i3 : Int32) (M : zMem), zX C mi_X12_go (zFin C zrvV ad T R) 0 0 (H215 i2 i3 M) 215 [(0, .ref a0), (2, .int i2), (3, .int i3)] [] ad T R M) (i2 : Int32) (i4 : Int32) (s0 : Int32) (M : zMem) : zX C mi_X12_go (zFin C zrvV ad T R) 0 0 (mf_X12_go_b272 R a0 H215 i2 i4 s0 M) 272 [(0, .ref a0), (2, .int i2), (4, .int i4)] [.int s0] ad T R M := by
  unfold mf_X12_go_b272
  refine zx_istore_n (i := 3) (ls' := [(3, .int s0), (0, .ref a0), (2, .int i2), (4, .int i4)]) (zd me_X12_go 140 rfl) rfl (Nat.le_of_ble_eq_true rfl) rfl ?_
  refine zx_aload_n (i := 0) (zd me_X12_go 141 rfl) rfl 1 rfl ?_
  refine zx_getI (zd me_X12_go 142 rfl) fl_X12_21 (zi12_c h0) rfl ?_
  refine zx_aload_n (i := 0) (zd me_X12_go 143 rfl) rfl 1 rfl ?_
  refine zx_getI (zd me_X12_go 144 rfl) fl_X12_24 (zi12_c h0) rfl ?_
  refine zx_isub (zd me_X12_go 145 rfl) ?_
  refine zx_bipush (v := 7) (zd me_X12_go 146 rfl) (by decide) ?_
  refine zx_icmp_ge (tgt := 307) (zd me_X12_go 147 rfl) (by decide) (fun c59 => ?_) (fun c59 => ?_)
  · refine zx_loc [1, 2, 0, 3] rfl ?_
    exact mt_X12_go_b307 h0 hH215 i2 s0 i4 M
  · refine zx_aload_n (i := 0) (zd me_X12_go 148 rfl) rfl 1 rfl ?_
    refine zx_ldc2 (v := 27) (zd me_X12_go 149 rfl) (zt7 32 rfl rfl) ?_
    refine zx_aload_n (i := 0) (zd me_X12_go 150 rfl) rfl 1 rfl ?_
    refine zx_getL (zd me_X12_go 151 rfl) fl_X12_43 (zi12_c h0) rfl ?_
    refine zx_lmul (zd me_X12_go 152 rfl) ?_
    refine zx_iload (zd me_X12_go 153 rfl) 3 rfl ?_
    refine zx_i2l (zd me_X12_go 154 rfl) ?_
    refine zx_ladd (zd me_X12_go 155 rfl) ?_
    refine zx_ldc2 (v := 96) (zd me_X12_go 156 rfl) (zt7 33 rfl rfl) ?_
    refine zx_lsub (zd me_X12_go 157 rfl) ?_
    refine zx_putL (zd me_X12_go 158 rfl) fp_X12_43 (zi12_c h0) rfl (fun M60 _ => ?_)
    refine zx_loc [1, 2, 0, 3] rfl ?_
    exact mt_X12_go_b307 h0 hH215 i2 s0 i4 M60
def mf_X12_go_b271 (R : zRR) (a0 : Nat) (H215 : Int32 → Int32 → zMem → Option (Unit × zMem)) (i2 : Int32) (i4 : Int32) (M : zMem) : Option (Unit × zMem) :=
  mf_X12_go_b272 R a0 H215 i2 i4 (0 : Int32) M
theorem mt_X12_go_b271 {C : zCx} {ad : Nat → Nat} {T : zTT} {R : zRR} {a0 : Nat} (h0 : zi12 T R a0) {H215 : Int32 → Int32 → zMem → Option (Unit × zMem)} (hH215 : ∀ (i2 : Int32) (i3 : Int32) (M : zMem), zX C mi_X12_go (zFin C zrvV ad T R) 0 0 (H215 i2 i3 M) 215 [(0, .ref a0), (2, .int i2), (3, .int i3)] [] ad T R M) (i2 : Int32) (i4 : Int32) (M : zMem) : zX C mi_X12_go (zFin C zrvV ad T R) 0 0 (mf_X12_go_b271 R a0 H215 i2 i4 M) 271 [(0, .ref a0), (2, .int i2), (4, .int i4)] [] ad T R M := by
  unfold mf_X12_go_b271
  refine zx_iconst (v := 0) (zd me_X12_go 139 rfl) (by decide) ?_
  exact mt_X12_go_b272 h0 hH215 i2 i4 (0 : Int32) M
def mf_X12_go_b243 (R : zRR) (a0 : Nat) (H215 : Int32 → Int32 → zMem → Option (Unit × zMem)) (i2 : Int32) (i3 : Int32) (M : zMem) : Option (Unit × zMem) :=
  zald 940 (M.1 a0 5) fun j48 =>
  zlet ((M.1 (zrf R a0 1) j48) : Int32) fun x49 =>
  if i3 = 0 then
    (mf_X12_go_b271 R a0 H215 i2 x49 M)
  else
    (zcl (mf_X12_isLetter R x49 M) fun r52 M51 =>
    if r52 = i2 then
      (mf_X12_go_b272 R a0 H215 i2 x49 (1 : Int32) M51)
    else
      (mf_X12_go_b271 R a0 H215 i2 x49 M51))
theorem mt_X12_go_b243 {C : zCx} {ad : Nat → Nat} {T : zTT} {R : zRR} {a0 : Nat} (h0 : zi12 T R a0) {H215 : Int32 → Int32 → zMem → Option (Unit × zMem)} (hH215 : ∀ (i2 : Int32) (i3 : Int32) (M : zMem), zX C mi_X12_go (zFin C zrvV ad T R) 0 0 (H215 i2 i3 M) 215 [(0, .ref a0), (2, .int i2), (3, .int i3)] [] ad T R M) (i2 : Int32) (i3 : Int32) (M : zMem) : zX C mi_X12_go (zFin C zrvV ad T R) 0 0 (mf_X12_go_b243 R a0 H215 i2 i3 M) 243 [(0, .ref a0), (2, .int i2), (3, .int i3)] [] ad T R M := by
  unfold mf_X12_go_b243
  refine zx_aload_n (i := 0) (zd me_X12_go 125 rfl) rfl 0 rfl ?_
  refine zx_getR (zd me_X12_go 126 rfl) fl_X12_7 (zi12_c h0) rfl (zi12_r1 h0) ?_
  refine zx_aload_n (i := 0) (zd me_X12_go 127 rfl) rfl 0 rfl ?_
  refine zx_getI (zd me_X12_go 128 rfl) fl_X12_21 (zi12_c h0) rfl ?_
  refine zx_iald (zd me_X12_go 129 rfl) (zi12_t1 h0) (fun j48 hj48 => ?_)
  refine zx_leti (fun x49 => ?_)
  refine zx_istore (ls' := [(4, .int x49), (0, .ref a0), (2, .int i2), (3, .int i3)]) (zd me_X12_go 130 rfl) (Nat.le_of_ble_eq_true rfl) rfl ?_
  refine zx_iload_n (i := 3) (zd me_X12_go 131 rfl) rfl 3 rfl ?_
  refine zx_if_eq (tgt := 271) (zd me_X12_go 132 rfl) (by decide) (fun c50 => ?_) (fun c50 => ?_)
  · refine zx_loc [1, 2, 0] rfl ?_
    exact mt_X12_go_b271 h0 hH215 i2 x49 M
  · refine zx_iload (zd me_X12_go 133 rfl) 0 rfl ?_
    refine zx_callSI1 (zd me_X12_go 134 rfl) (mc_X12_isLetter (zl C) x49 M) lk_X12_33 ⟨(Nat.le_of_ble_eq_true rfl), (Nat.le_of_ble_eq_true rfl)⟩ (Nat.le_of_ble_eq_true rfl) (fun r52 M51 => ?_)
    refine zx_iload_n (i := 2) (zd me_X12_go 135 rfl) rfl 2 rfl ?_
    refine zx_icmp_ne (tgt := 271) (zd me_X12_go 136 rfl) (by decide) (fun c53 => ?_) (fun c53 => ?_)
    · refine zx_loc [1, 2, 0] rfl ?_
      exact mt_X12_go_b271 h0 hH215 i2 x49 M51
    · refine zx_iconst (v := 1) (zd me_X12_go 137 rfl) (by decide) ?_
      refine zx_goto (tgt := 272) (zd me_X12_go 138 rfl) (by decide) ?_
      refine zx_loc [1, 2, 0] rfl ?_
      exact mt_X12_go_b272 h0 hH215 i2 x49 (1 : Int32) M51
def mf_X12_go_b374 (R : zRR) (a0 : Nat) (i2 : Int32) (s0 : Int32) (s1 : Int32) (M : zMem) : Option (Unit × zMem) :=
  if s1 ≤ s0 then
    (if i2 = 0 then
      (zlet (zwI M a0 7 (3 : Int32)) fun M56 =>
      some ((), M56))
    else
      (zlet (zwI M a0 7 (2 : Int32)) fun M57 =>
      some ((), M57)))
  else
    (zlet (zwI M a0 7 (1 : Int32)) fun M58 =>
    some ((), M58))
theorem mt_X12_go_b374 {C : zCx} {ad : Nat → Nat} {T : zTT} {R : zRR} {a0 : Nat} (h0 : zi12 T R a0) (i2 : Int32) (s0 : Int32) (s1 : Int32) (M : zMem) : zX C mi_X12_go (zFin C zrvV ad T R) 0 0 (mf_X12_go_b374 R a0 i2 s0 s1 M) 374 [(2, .int i2)] [.int s0, .int s1, .ref a0] ad T R M := by
  unfold mf_X12_go_b374
  refine zx_icmp_le (tgt := 381) (zd me_X12_go 196 rfl) (by decide) (fun c54 => ?_) (fun c54 => ?_)
  · refine zx_iload_n (i := 2) (zd me_X12_go 199 rfl) rfl 0 rfl ?_
    refine zx_if_eq (tgt := 389) (zd me_X12_go 200 rfl) (by decide) (fun c55 => ?_) (fun c55 => ?_)
    · refine zx_iconst (v := 3) (zd me_X12_go 203 rfl) (by decide) ?_
      refine zx_putI (zd me_X12_go 204 rfl) fp_X12_30 (zi12_c h0) rfl (fun M56 _ => ?_)
      exact zx_vret (zd me_X12_go 205 rfl) rfl
    · refine zx_iconst (v := 2) (zd me_X12_go 201 rfl) (by decide) ?_
      refine zx_goto (tgt := 390) (zd me_X12_go 202 rfl) (by decide) ?_
      refine zx_putI (zd me_X12_go 204 rfl) fp_X12_30 (zi12_c h0) rfl (fun M57 _ => ?_)
      exact zx_vret (zd me_X12_go 205 rfl) rfl
  · refine zx_iconst (v := 1) (zd me_X12_go 197 rfl) (by decide) ?_
    refine zx_goto (tgt := 390) (zd me_X12_go 198 rfl) (by decide) ?_
    refine zx_putI (zd me_X12_go 204 rfl) fp_X12_30 (zi12_c h0) rfl (fun M58 _ => ?_)
    exact zx_vret (zd me_X12_go 205 rfl) rfl
def mf_X12_go_l215 (R : zRR) (a0 : Nat) : Nat → Int32 → Int32 → zMem → Option (Unit × zMem)
  | 0, _, _, _ => none
  | fuel + 1, i2, i3, M =>
    zcl (mf_X12_tapeAt R a0 (M.1 a0 5) M) fun r36 M35 =>
    zcl (mf_X12_isLetter R r36 M35) fun r38 M37 =>
    if r38 = 0 then
      (zcl (mf_X12_tapeAt R a0 (M37.1 a0 5) M37) fun r41 M40 =>
      zcl (mf_X12_isDigit R r41 M40) fun r43 M42 =>
      if r43 = 0 then
        (if i3 = 0 then
          (zlet (zwI M42 a0 7 (1 : Int32)) fun M46 =>
          some ((), M46))
        else
          (if i2 = 0 then
            (mf_X12_go_b374 R a0 i2 (3 : Int32) ((M42.1 a0 5) - (M42.1 a0 6)) M42)
          else
            (mf_X12_go_b374 R a0 i2 (7 : Int32) ((M42.1 a0 5) - (M42.1 a0 6)) M42)))
      else
        (mf_X12_go_b243 R a0 (mf_X12_go_l215 R a0 fuel) i2 i3 M42))
    else
      (mf_X12_go_b243 R a0 (mf_X12_go_l215 R a0 fuel) i2 i3 M37)
theorem mt_X12_go_l215 {C : zCx} {ad : Nat → Nat} {T : zTT} {R : zRR} {a0 : Nat} (h0 : zi12 T R a0) : ∀ (fuel : Nat) (i2 : Int32) (i3 : Int32) (M : zMem), zX C mi_X12_go (zFin C zrvV ad T R) 0 0 (mf_X12_go_l215 R a0 fuel i2 i3 M) 215 [(0, .ref a0), (2, .int i2), (3, .int i3)] [] ad T R M := by
  intro fuel
  induction fuel with
  | zero => intros; exact zx_none
  | succ fuel ih =>
    intro i2 i3 M
    rw [mf_X12_go_l215]
    refine zx_aload_n (i := 0) (zd me_X12_go 113 rfl) rfl 0 rfl ?_
    refine zx_aload_n (i := 0) (zd me_X12_go 114 rfl) rfl 0 rfl ?_
    refine zx_getI (zd me_X12_go 115 rfl) fl_X12_21 (zi12_c h0) rfl ?_
    refine zx_callVI1 (zd me_X12_go 116 rfl) (mc_X12_tapeAt (zl C) h0 (M.1 a0 5) M) lk_X12_50 ⟨(Nat.le_of_ble_eq_true rfl), (Nat.le_of_ble_eq_true rfl)⟩ (Nat.le_of_ble_eq_true rfl) (zi12_c h0) rfl (fun r36 M35 => ?_)
    refine zx_callSI1 (zd me_X12_go 117 rfl) (mc_X12_isLetter (zl C) r36 M35) lk_X12_33 ⟨(Nat.le_of_ble_eq_true rfl), (Nat.le_of_ble_eq_true rfl)⟩ (Nat.le_of_ble_eq_true rfl) (fun r38 M37 => ?_)
    refine zx_if_ne (tgt := 243) (zd me_X12_go 118 rfl) (by decide) (fun c39 => ?_) (fun c39 => ?_)
    · exact mt_X12_go_b243 h0 ih i2 i3 M37
    · refine zx_aload_n (i := 0) (zd me_X12_go 119 rfl) rfl 0 rfl ?_
      refine zx_aload_n (i := 0) (zd me_X12_go 120 rfl) rfl 0 rfl ?_
      refine zx_getI (zd me_X12_go 121 rfl) fl_X12_21 (zi12_c h0) rfl ?_
      refine zx_callVI1 (zd me_X12_go 122 rfl) (mc_X12_tapeAt (zl C) h0 (M37.1 a0 5) M37) lk_X12_50 ⟨(Nat.le_of_ble_eq_true rfl), (Nat.le_of_ble_eq_true rfl)⟩ (Nat.le_of_ble_eq_true rfl) (zi12_c h0) rfl (fun r41 M40 => ?_)
      refine zx_callSI1 (zd me_X12_go 123 rfl) (mc_X12_isDigit (zl C) r41 M40) lk_X12_37 ⟨(Nat.le_of_ble_eq_true rfl), (Nat.le_of_ble_eq_true rfl)⟩ (Nat.le_of_ble_eq_true rfl) (fun r43 M42 => ?_)
      refine zx_if_eq (tgt := 350) (zd me_X12_go 124 rfl) (by decide) (fun c44 => ?_) (fun c44 => ?_)
      · refine zx_aload_n (i := 0) (zd me_X12_go 183 rfl) rfl 0 rfl ?_
        refine zx_iload_n (i := 3) (zd me_X12_go 184 rfl) rfl 2 rfl ?_
        refine zx_if_eq (tgt := 377) (zd me_X12_go 185 rfl) (by decide) (fun c45 => ?_) (fun c45 => ?_)
        · refine zx_iconst (v := 1) (zd me_X12_go 197 rfl) (by decide) ?_
          refine zx_goto (tgt := 390) (zd me_X12_go 198 rfl) (by decide) ?_
          refine zx_putI (zd me_X12_go 204 rfl) fp_X12_30 (zi12_c h0) rfl (fun M46 _ => ?_)
          exact zx_vret (zd me_X12_go 205 rfl) rfl
        · refine zx_aload_n (i := 0) (zd me_X12_go 186 rfl) rfl 0 rfl ?_
          refine zx_getI (zd me_X12_go 187 rfl) fl_X12_21 (zi12_c h0) rfl ?_
          refine zx_aload_n (i := 0) (zd me_X12_go 188 rfl) rfl 0 rfl ?_
          refine zx_getI (zd me_X12_go 189 rfl) fl_X12_24 (zi12_c h0) rfl ?_
          refine zx_isub (zd me_X12_go 190 rfl) ?_
          refine zx_iload_n (i := 2) (zd me_X12_go 191 rfl) rfl 1 rfl ?_
          refine zx_if_eq (tgt := 373) (zd me_X12_go 192 rfl) (by decide) (fun c47 => ?_) (fun c47 => ?_)
          · refine zx_iconst (v := 3) (zd me_X12_go 195 rfl) (by decide) ?_
            refine zx_loc [1] rfl ?_
            exact mt_X12_go_b374 h0 i2 (3 : Int32) ((M42.1 a0 5) - (M42.1 a0 6)) M42
          · refine zx_bipush (v := 7) (zd me_X12_go 193 rfl) (by decide) ?_
            refine zx_goto (tgt := 374) (zd me_X12_go 194 rfl) (by decide) ?_
            refine zx_loc [1] rfl ?_
            exact mt_X12_go_b374 h0 i2 (7 : Int32) ((M42.1 a0 5) - (M42.1 a0 6)) M42
      · exact mt_X12_go_b243 h0 ih i2 i3 M42
def mf_X12_go_b198 (R : zRR) (a0 : Nat) (i1 : Int32) (M : zMem) : Option (Unit × zMem) :=
  zcl (mf_X12_isLetter R i1 M) fun r29 M28 =>
  zlet (zwL M28 a0 12 (0 : Int64)) fun M30 =>
  zlet (zwI M30 a0 8 (0 : Int32)) fun M31 =>
  mf_X12_go_l215 R a0 zF r29 (1 : Int32) M31
theorem mt_X12_go_b198 {C : zCx} {ad : Nat → Nat} {T : zTT} {R : zRR} {a0 : Nat} (h0 : zi12 T R a0) (i1 : Int32) (M : zMem) : zX C mi_X12_go (zFin C zrvV ad T R) 0 0 (mf_X12_go_b198 R a0 i1 M) 198 [(0, .ref a0), (1, .int i1)] [] ad T R M := by
  unfold mf_X12_go_b198
  refine zx_iload_n (i := 1) (zd me_X12_go 102 rfl) rfl 1 rfl ?_
  refine zx_callSI1 (zd me_X12_go 103 rfl) (mc_X12_isLetter (zl C) i1 M) lk_X12_33 ⟨(Nat.le_of_ble_eq_true rfl), (Nat.le_of_ble_eq_true rfl)⟩ (Nat.le_of_ble_eq_true rfl) (fun r29 M28 => ?_)
  refine zx_istore_n (i := 2) (ls' := [(2, .int r29), (0, .ref a0), (1, .int i1)]) (zd me_X12_go 104 rfl) rfl (Nat.le_of_ble_eq_true rfl) rfl ?_
  refine zx_iconst (v := 1) (zd me_X12_go 105 rfl) (by decide) ?_
  refine zx_istore_n (i := 3) (ls' := [(3, .int (1 : Int32)), (2, .int r29), (0, .ref a0), (1, .int i1)]) (zd me_X12_go 106 rfl) rfl (Nat.le_of_ble_eq_true rfl) rfl ?_
  refine zx_aload_n (i := 0) (zd me_X12_go 107 rfl) rfl 2 rfl ?_
  refine zx_lconst (v := 0) (zd me_X12_go 108 rfl) (by decide) ?_
  refine zx_putL (zd me_X12_go 109 rfl) fp_X12_43 (zi12_c h0) rfl (fun M30 _ => ?_)
  refine zx_aload_n (i := 0) (zd me_X12_go 110 rfl) rfl 2 rfl ?_
  refine zx_iconst (v := 0) (zd me_X12_go 111 rfl) (by decide) ?_
  refine zx_putI (zd me_X12_go 112 rfl) fp_X12_47 (zi12_c h0) rfl (fun M31 _ => ?_)
  refine zx_loc [2, 1, 0] rfl ?_
  exact mt_X12_go_l215 h0 zF r29 (1 : Int32) M31
def mf_X12_go_b96 (R : zRR) (a0 : Nat) (M : zMem) : Option (Unit × zMem) :=
  if (M.1 a0 5) < (M.1 a0 3) then
    (zald 940 (M.1 a0 5) fun j13 =>
    zlet ((M.1 (zrf R a0 1) j13) : Int32) fun x14 =>
    zcl (mf_X12_isLetter R x14 M) fun r16 M15 =>
    if r16 = 0 then
      (zcl (mf_X12_isDigit R x14 M15) fun r19 M18 =>
      if r19 = 0 then
        (if x14 = (59 : Int32) then
          (mf_X12_go_b174 R a0 x14 M18)
        else
          (if x14 = (60 : Int32) then
            (mf_X12_go_b174 R a0 x14 M18)
          else
            (if x14 = (61 : Int32) then
              (mf_X12_go_b174 R a0 x14 M18)
            else
              (if x14 = (62 : Int32) then
                (mf_X12_go_b174 R a0 x14 M18)
              else
                (if x14 = (40 : Int32) then
                  (mf_X12_go_b174 R a0 x14 M18)
                else
                  (if x14 = (41 : Int32) then
                    (mf_X12_go_b174 R a0 x14 M18)
                  else
                    (mf_X12_go_b179 R a0 x14 (1 : Int32) M18)))))))
      else
        (mf_X12_go_b198 R a0 x14 M18))
    else
      (mf_X12_go_b198 R a0 x14 M15))
  else
    (zlet (zwI M a0 7 (0 : Int32)) fun M27 =>
    some ((), M27))
theorem mt_X12_go_b96 {C : zCx} {ad : Nat → Nat} {T : zTT} {R : zRR} {a0 : Nat} (h0 : zi12 T R a0) (M : zMem) : zX C mi_X12_go (zFin C zrvV ad T R) 0 0 (mf_X12_go_b96 R a0 M) 96 [(0, .ref a0)] [] ad T R M := by
  unfold mf_X12_go_b96
  refine zx_aload_n (i := 0) (zd me_X12_go 48 rfl) rfl 0 rfl ?_
  refine zx_getI (zd me_X12_go 49 rfl) fl_X12_21 (zi12_c h0) rfl ?_
  refine zx_aload_n (i := 0) (zd me_X12_go 50 rfl) rfl 0 rfl ?_
  refine zx_getI (zd me_X12_go 51 rfl) fl_X12_18 (zi12_c h0) rfl ?_
  refine zx_icmp_lt (tgt := 113) (zd me_X12_go 52 rfl) (by decide) (fun c12 => ?_) (fun c12 => ?_)
  · refine zx_aload_n (i := 0) (zd me_X12_go 57 rfl) rfl 0 rfl ?_
    refine zx_getR (zd me_X12_go 58 rfl) fl_X12_7 (zi12_c h0) rfl (zi12_r1 h0) ?_
    refine zx_aload_n (i := 0) (zd me_X12_go 59 rfl) rfl 0 rfl ?_
    refine zx_getI (zd me_X12_go 60 rfl) fl_X12_21 (zi12_c h0) rfl ?_
    refine zx_iald (zd me_X12_go 61 rfl) (zi12_t1 h0) (fun j13 hj13 => ?_)
    refine zx_leti (fun x14 => ?_)
    refine zx_istore_n (i := 1) (ls' := [(1, .int x14), (0, .ref a0)]) (zd me_X12_go 62 rfl) rfl (Nat.le_of_ble_eq_true rfl) rfl ?_
    refine zx_iload_n (i := 1) (zd me_X12_go 63 rfl) rfl 0 rfl ?_
    refine zx_callSI1 (zd me_X12_go 64 rfl) (mc_X12_isLetter (zl C) x14 M) lk_X12_33 ⟨(Nat.le_of_ble_eq_true rfl), (Nat.le_of_ble_eq_true rfl)⟩ (Nat.le_of_ble_eq_true rfl) (fun r16 M15 => ?_)
    refine zx_if_ne (tgt := 198) (zd me_X12_go 65 rfl) (by decide) (fun c17 => ?_) (fun c17 => ?_)
    · refine zx_loc [1, 0] rfl ?_
      exact mt_X12_go_b198 h0 x14 M15
    · refine zx_iload_n (i := 1) (zd me_X12_go 66 rfl) rfl 0 rfl ?_
      refine zx_callSI1 (zd me_X12_go 67 rfl) (mc_X12_isDigit (zl C) x14 M15) lk_X12_37 ⟨(Nat.le_of_ble_eq_true rfl), (Nat.le_of_ble_eq_true rfl)⟩ (Nat.le_of_ble_eq_true rfl) (fun r19 M18 => ?_)
      refine zx_if_ne (tgt := 198) (zd me_X12_go 68 rfl) (by decide) (fun c20 => ?_) (fun c20 => ?_)
      · refine zx_loc [1, 0] rfl ?_
        exact mt_X12_go_b198 h0 x14 M18
      · refine zx_aload_n (i := 0) (zd me_X12_go 69 rfl) rfl 1 rfl ?_
        refine zx_iload_n (i := 1) (zd me_X12_go 70 rfl) rfl 0 rfl ?_
        refine zx_bipush (v := 59) (zd me_X12_go 71 rfl) (by decide) ?_
        refine zx_icmp_eq (tgt := 174) (zd me_X12_go 72 rfl) (by decide) (fun c21 => ?_) (fun c21 => ?_)
        · refine zx_loc [1, 0] rfl ?_
          exact mt_X12_go_b174 h0 x14 M18
        · refine zx_iload_n (i := 1) (zd me_X12_go 73 rfl) rfl 0 rfl ?_
          refine zx_bipush (v := 60) (zd me_X12_go 74 rfl) (by decide) ?_
          refine zx_icmp_eq (tgt := 174) (zd me_X12_go 75 rfl) (by decide) (fun c22 => ?_) (fun c22 => ?_)
          · refine zx_loc [1, 0] rfl ?_
            exact mt_X12_go_b174 h0 x14 M18
          · refine zx_iload_n (i := 1) (zd me_X12_go 76 rfl) rfl 0 rfl ?_
            refine zx_bipush (v := 61) (zd me_X12_go 77 rfl) (by decide) ?_
            refine zx_icmp_eq (tgt := 174) (zd me_X12_go 78 rfl) (by decide) (fun c23 => ?_) (fun c23 => ?_)
            · refine zx_loc [1, 0] rfl ?_
              exact mt_X12_go_b174 h0 x14 M18
            · refine zx_iload_n (i := 1) (zd me_X12_go 79 rfl) rfl 0 rfl ?_
              refine zx_bipush (v := 62) (zd me_X12_go 80 rfl) (by decide) ?_
              refine zx_icmp_eq (tgt := 174) (zd me_X12_go 81 rfl) (by decide) (fun c24 => ?_) (fun c24 => ?_)
              · refine zx_loc [1, 0] rfl ?_
                exact mt_X12_go_b174 h0 x14 M18
              · refine zx_iload_n (i := 1) (zd me_X12_go 82 rfl) rfl 0 rfl ?_
                refine zx_bipush (v := 40) (zd me_X12_go 83 rfl) (by decide) ?_
                refine zx_icmp_eq (tgt := 174) (zd me_X12_go 84 rfl) (by decide) (fun c25 => ?_) (fun c25 => ?_)
                · refine zx_loc [1, 0] rfl ?_
                  exact mt_X12_go_b174 h0 x14 M18
                · refine zx_iload_n (i := 1) (zd me_X12_go 85 rfl) rfl 0 rfl ?_
                  refine zx_bipush (v := 41) (zd me_X12_go 86 rfl) (by decide) ?_
                  refine zx_icmp_ne (tgt := 178) (zd me_X12_go 87 rfl) (by decide) (fun c26 => ?_) (fun c26 => ?_)
                  · refine zx_iconst (v := 1) (zd me_X12_go 90 rfl) (by decide) ?_
                    refine zx_loc [1, 0] rfl ?_
                    exact mt_X12_go_b179 h0 x14 (1 : Int32) M18
                  · refine zx_loc [1, 0] rfl ?_
                    exact mt_X12_go_b174 h0 x14 M18
  · refine zx_aload_n (i := 0) (zd me_X12_go 53 rfl) rfl 0 rfl ?_
    refine zx_iconst (v := 0) (zd me_X12_go 54 rfl) (by decide) ?_
    refine zx_putI (zd me_X12_go 55 rfl) fp_X12_30 (zi12_c h0) rfl (fun M27 _ => ?_)
    exact zx_vret (zd me_X12_go 56 rfl) rfl
def mf_X12_go_b52 (R : zRR) (a0 : Nat) (M : zMem) : Option (Unit × zMem) :=
  zlet (zwI M a0 6 (M.1 a0 5)) fun M6 =>
  if (M6.1 a0 3) ≤ (M6.1 a0 4) then
    (mf_X12_go_b96 R a0 M6)
  else
    (if (M6.1 a0 6) < (M6.1 a0 4) then
      (mf_X12_go_b96 R a0 M6)
    else
      (zlet (zwI M6 a0 6 (M6.1 a0 4)) fun M9 =>
      zlet (zwI M9 a0 7 (1 : Int32)) fun M10 =>
      some ((), M10)))
theorem mt_X12_go_b52 {C : zCx} {ad : Nat → Nat} {T : zTT} {R : zRR} {a0 : Nat} (h0 : zi12 T R a0) (M : zMem) : zX C mi_X12_go (zFin C zrvV ad T R) 0 0 (mf_X12_go_b52 R a0 M) 52 [(0, .ref a0)] [] ad T R M := by
  unfold mf_X12_go_b52
  refine zx_aload_n (i := 0) (zd me_X12_go 26 rfl) rfl 0 rfl ?_
  refine zx_aload_n (i := 0) (zd me_X12_go 27 rfl) rfl 0 rfl ?_
  refine zx_getI (zd me_X12_go 28 rfl) fl_X12_21 (zi12_c h0) rfl ?_
  refine zx_putI (zd me_X12_go 29 rfl) fp_X12_24 (zi12_c h0) rfl (fun M6 _ => ?_)
  refine zx_aload_n (i := 0) (zd me_X12_go 30 rfl) rfl 0 rfl ?_
  refine zx_getI (zd me_X12_go 31 rfl) fl_X12_18 (zi12_c h0) rfl ?_
  refine zx_aload_n (i := 0) (zd me_X12_go 32 rfl) rfl 0 rfl ?_
  refine zx_getI (zd me_X12_go 33 rfl) fl_X12_27 (zi12_c h0) rfl ?_
  refine zx_icmp_le (tgt := 96) (zd me_X12_go 34 rfl) (by decide) (fun c7 => ?_) (fun c7 => ?_)
  · exact mt_X12_go_b96 h0 M6
  · refine zx_aload_n (i := 0) (zd me_X12_go 35 rfl) rfl 0 rfl ?_
    refine zx_getI (zd me_X12_go 36 rfl) fl_X12_24 (zi12_c h0) rfl ?_
    refine zx_aload_n (i := 0) (zd me_X12_go 37 rfl) rfl 0 rfl ?_
    refine zx_getI (zd me_X12_go 38 rfl) fl_X12_27 (zi12_c h0) rfl ?_
    refine zx_icmp_lt (tgt := 96) (zd me_X12_go 39 rfl) (by decide) (fun c8 => ?_) (fun c8 => ?_)
    · exact mt_X12_go_b96 h0 M6
    · refine zx_aload_n (i := 0) (zd me_X12_go 40 rfl) rfl 0 rfl ?_
      refine zx_aload_n (i := 0) (zd me_X12_go 41 rfl) rfl 0 rfl ?_
      refine zx_getI (zd me_X12_go 42 rfl) fl_X12_27 (zi12_c h0) rfl ?_
      refine zx_putI (zd me_X12_go 43 rfl) fp_X12_24 (zi12_c h0) rfl (fun M9 _ => ?_)
      refine zx_aload_n (i := 0) (zd me_X12_go 44 rfl) rfl 0 rfl ?_
      refine zx_iconst (v := 1) (zd me_X12_go 45 rfl) (by decide) ?_
      refine zx_putI (zd me_X12_go 46 rfl) fp_X12_30 (zi12_c h0) rfl (fun M10 _ => ?_)
      exact zx_vret (zd me_X12_go 47 rfl) rfl
def mf_X12_go_l0 (R : zRR) (a0 : Nat) : Nat → zMem → Option (Unit × zMem)
  | 0, _ => none
  | fuel + 1, M =>
    if (M.1 a0 3) ≤ (M.1 a0 5) then
      (mf_X12_go_b52 R a0 M)
    else
      (zald 940 (M.1 a0 5) fun j2 =>
      if (M.1 (zrf R a0 1) j2) = (32 : Int32) then
        (mf_X12_go_b39 R a0 (mf_X12_go_l0 R a0 fuel) M)
      else
        (zald 940 (M.1 a0 5) fun j4 =>
        if (M.1 (zrf R a0 1) j4) = (10 : Int32) then
          (mf_X12_go_b39 R a0 (mf_X12_go_l0 R a0 fuel) M)
        else
          (mf_X12_go_b52 R a0 M)))
theorem mt_X12_go_l0 {C : zCx} {ad : Nat → Nat} {T : zTT} {R : zRR} {a0 : Nat} (h0 : zi12 T R a0) : ∀ (fuel : Nat)  (M : zMem), zX C mi_X12_go (zFin C zrvV ad T R) 0 0 (mf_X12_go_l0 R a0 fuel  M) 0 [(0, .ref a0)] [] ad T R M := by
  intro fuel
  induction fuel with
  | zero => intros; exact zx_none
  | succ fuel ih =>
    intro M
    rw [mf_X12_go_l0]
    refine zx_aload_n (i := 0) (zd me_X12_go 0 rfl) rfl 0 rfl ?_
    refine zx_getI (zd me_X12_go 1 rfl) fl_X12_21 (zi12_c h0) rfl ?_
    refine zx_aload_n (i := 0) (zd me_X12_go 2 rfl) rfl 0 rfl ?_
    refine zx_getI (zd me_X12_go 3 rfl) fl_X12_18 (zi12_c h0) rfl ?_
    refine zx_icmp_ge (tgt := 52) (zd me_X12_go 4 rfl) (by decide) (fun c1 => ?_) (fun c1 => ?_)
    · exact mt_X12_go_b52 h0 M
    · refine zx_aload_n (i := 0) (zd me_X12_go 5 rfl) rfl 0 rfl ?_
      refine zx_getR (zd me_X12_go 6 rfl) fl_X12_7 (zi12_c h0) rfl (zi12_r1 h0) ?_
      refine zx_aload_n (i := 0) (zd me_X12_go 7 rfl) rfl 0 rfl ?_
      refine zx_getI (zd me_X12_go 8 rfl) fl_X12_21 (zi12_c h0) rfl ?_
      refine zx_iald (zd me_X12_go 9 rfl) (zi12_t1 h0) (fun j2 hj2 => ?_)
      refine zx_bipush (v := 32) (zd me_X12_go 10 rfl) (by decide) ?_
      refine zx_icmp_eq (tgt := 39) (zd me_X12_go 11 rfl) (by decide) (fun c3 => ?_) (fun c3 => ?_)
      · exact mt_X12_go_b39 h0 ih M
      · refine zx_aload_n (i := 0) (zd me_X12_go 12 rfl) rfl 0 rfl ?_
        refine zx_getR (zd me_X12_go 13 rfl) fl_X12_7 (zi12_c h0) rfl (zi12_r1 h0) ?_
        refine zx_aload_n (i := 0) (zd me_X12_go 14 rfl) rfl 0 rfl ?_
        refine zx_getI (zd me_X12_go 15 rfl) fl_X12_21 (zi12_c h0) rfl ?_
        refine zx_iald (zd me_X12_go 16 rfl) (zi12_t1 h0) (fun j4 hj4 => ?_)
        refine zx_bipush (v := 10) (zd me_X12_go 17 rfl) (by decide) ?_
        refine zx_icmp_ne (tgt := 52) (zd me_X12_go 18 rfl) (by decide) (fun c5 => ?_) (fun c5 => ?_)
        · exact mt_X12_go_b52 h0 M
        · exact mt_X12_go_b39 h0 ih M
def mf_X12_go (R : zRR) (a0 : Nat) (M : zMem) : Option (Unit × zMem) :=
  mf_X12_go_l0 R a0 zF M
theorem mc_X12_go (l : Launch) {T : zTT} {R : zRR} {a0 : Nat} (h0 : zi12 T R a0) (M : zMem) : zMS l yX12_go mi_X12_go zrvV (mf_X12_go R a0 M) [.ref a0] T R M := by
  refine zMS.of (by decide +kernel) rfl ⟨rfl, rfl⟩ (Nat.le_of_ble_eq_true rfl) (fun C ad _ => ?_)
  show zX C mi_X12_go (zFin C zrvV ad T R) 0 0 (mf_X12_go R a0 M) 0 [(0, .ref a0)] [] ad T R M
  unfold mf_X12_go
  exact mt_X12_go_l0 h0 zF M
def mf_X12_spelt_b99 (R : zRR) (i6 : Int32) (l7 : Int64) (M : zMem) : Option (Int64 × zMem) :=
  if i6 ≤ 0 then
    (some (l7, M))
  else
    (zlet (((((27 : Int64) * l7) + i6.toInt64) - (96 : Int64)) : Int64) fun x11 =>
    some (x11, M))
theorem mt_X12_spelt_b99 {C : zCx} {ad : Nat → Nat} {T : zTT} {R : zRR}  (i6 : Int32) (l7 : Int64) (M : zMem) : zX C mi_X12_spelt (zFin C zrvL ad T R) 0 0 (mf_X12_spelt_b99 R i6 l7 M) 99 [(6, .int i6), (7, .long l7)] [] ad T R M := by
  unfold mf_X12_spelt_b99
  refine zx_iload (zd me_X12_spelt 56 rfl) 0 rfl ?_
  refine zx_if_le (tgt := 120) (zd me_X12_spelt 57 rfl) (by decide) (fun c10 => ?_) (fun c10 => ?_)
  · refine zx_lload (zd me_X12_spelt 67 rfl) 1 rfl ?_
    exact zx_lret (zd me_X12_spelt 68 rfl) rfl
  · refine zx_ldc2 (v := 27) (zd me_X12_spelt 58 rfl) (zt7 32 rfl rfl) ?_
    refine zx_lload (zd me_X12_spelt 59 rfl) 1 rfl ?_
    refine zx_lmul (zd me_X12_spelt 60 rfl) ?_
    refine zx_iload (zd me_X12_spelt 61 rfl) 0 rfl ?_
    refine zx_i2l (zd me_X12_spelt 62 rfl) ?_
    refine zx_ladd (zd me_X12_spelt 63 rfl) ?_
    refine zx_ldc2 (v := 96) (zd me_X12_spelt 64 rfl) (zt7 33 rfl rfl) ?_
    refine zx_lsub (zd me_X12_spelt 65 rfl) ?_
    refine zx_letl (fun x11 => ?_)
    refine zx_lstore (ls' := [(7, .long x11), (6, .int i6)]) (zd me_X12_spelt 66 rfl) (Nat.le_of_ble_eq_true rfl) rfl ?_
    refine zx_lload (zd me_X12_spelt 67 rfl) 0 rfl ?_
    exact zx_lret (zd me_X12_spelt 68 rfl) rfl
def mf_X12_spelt_b78 (R : zRR) (i5 : Int32) (i6 : Int32) (l7 : Int64) (M : zMem) : Option (Int64 × zMem) :=
  if i5 ≤ 0 then
    (mf_X12_spelt_b99 R i6 l7 M)
  else
    (zlet (((((27 : Int64) * l7) + i5.toInt64) - (96 : Int64)) : Int64) fun x9 =>
    mf_X12_spelt_b99 R i6 x9 M)
theorem mt_X12_spelt_b78 {C : zCx} {ad : Nat → Nat} {T : zTT} {R : zRR}  (i5 : Int32) (i6 : Int32) (l7 : Int64) (M : zMem) : zX C mi_X12_spelt (zFin C zrvL ad T R) 0 0 (mf_X12_spelt_b78 R i5 i6 l7 M) 78 [(5, .int i5), (6, .int i6), (7, .long l7)] [] ad T R M := by
  unfold mf_X12_spelt_b78
  refine zx_iload (zd me_X12_spelt 45 rfl) 0 rfl ?_
  refine zx_if_le (tgt := 99) (zd me_X12_spelt 46 rfl) (by decide) (fun c8 => ?_) (fun c8 => ?_)
  · refine zx_loc [1, 2] rfl ?_
    exact mt_X12_spelt_b99 i6 l7 M
  · refine zx_ldc2 (v := 27) (zd me_X12_spelt 47 rfl) (zt7 32 rfl rfl) ?_
    refine zx_lload (zd me_X12_spelt 48 rfl) 2 rfl ?_
    refine zx_lmul (zd me_X12_spelt 49 rfl) ?_
    refine zx_iload (zd me_X12_spelt 50 rfl) 0 rfl ?_
    refine zx_i2l (zd me_X12_spelt 51 rfl) ?_
    refine zx_ladd (zd me_X12_spelt 52 rfl) ?_
    refine zx_ldc2 (v := 96) (zd me_X12_spelt 53 rfl) (zt7 33 rfl rfl) ?_
    refine zx_lsub (zd me_X12_spelt 54 rfl) ?_
    refine zx_letl (fun x9 => ?_)
    refine zx_lstore (ls' := [(7, .long x9), (5, .int i5), (6, .int i6)]) (zd me_X12_spelt 55 rfl) (Nat.le_of_ble_eq_true rfl) rfl ?_
    refine zx_loc [2, 0] rfl ?_
    exact mt_X12_spelt_b99 i6 x9 M
def mf_X12_spelt_b57 (R : zRR) (i4 : Int32) (i5 : Int32) (i6 : Int32) (l7 : Int64) (M : zMem) : Option (Int64 × zMem) :=
  if i4 ≤ 0 then
    (mf_X12_spelt_b78 R i5 i6 l7 M)
  else
    (zlet (((((27 : Int64) * l7) + i4.toInt64) - (96 : Int64)) : Int64) fun x7 =>
    mf_X12_spelt_b78 R i5 i6 x7 M)
theorem mt_X12_spelt_b57 {C : zCx} {ad : Nat → Nat} {T : zTT} {R : zRR}  (i4 : Int32) (i5 : Int32) (i6 : Int32) (l7 : Int64) (M : zMem) : zX C mi_X12_spelt (zFin C zrvL ad T R) 0 0 (mf_X12_spelt_b57 R i4 i5 i6 l7 M) 57 [(4, .int i4), (5, .int i5), (6, .int i6), (7, .long l7)] [] ad T R M := by
  unfold mf_X12_spelt_b57
  refine zx_iload (zd me_X12_spelt 34 rfl) 0 rfl ?_
  refine zx_if_le (tgt := 78) (zd me_X12_spelt 35 rfl) (by decide) (fun c6 => ?_) (fun c6 => ?_)
  · refine zx_loc [1, 2, 3] rfl ?_
    exact mt_X12_spelt_b78 i5 i6 l7 M
  · refine zx_ldc2 (v := 27) (zd me_X12_spelt 36 rfl) (zt7 32 rfl rfl) ?_
    refine zx_lload (zd me_X12_spelt 37 rfl) 3 rfl ?_
    refine zx_lmul (zd me_X12_spelt 38 rfl) ?_
    refine zx_iload (zd me_X12_spelt 39 rfl) 0 rfl ?_
    refine zx_i2l (zd me_X12_spelt 40 rfl) ?_
    refine zx_ladd (zd me_X12_spelt 41 rfl) ?_
    refine zx_ldc2 (v := 96) (zd me_X12_spelt 42 rfl) (zt7 33 rfl rfl) ?_
    refine zx_lsub (zd me_X12_spelt 43 rfl) ?_
    refine zx_letl (fun x7 => ?_)
    refine zx_lstore (ls' := [(7, .long x7), (4, .int i4), (5, .int i5), (6, .int i6)]) (zd me_X12_spelt 44 rfl) (Nat.le_of_ble_eq_true rfl) rfl ?_
    refine zx_loc [2, 3, 0] rfl ?_
    exact mt_X12_spelt_b78 i5 i6 x7 M
def mf_X12_spelt_b38 (R : zRR) (i3 : Int32) (i4 : Int32) (i5 : Int32) (i6 : Int32) (l7 : Int64) (M : zMem) : Option (Int64 × zMem) :=
  if i3 ≤ 0 then
    (mf_X12_spelt_b57 R i4 i5 i6 l7 M)
  else
    (zlet (((((27 : Int64) * l7) + i3.toInt64) - (96 : Int64)) : Int64) fun x5 =>
    mf_X12_spelt_b57 R i4 i5 i6 x5 M)
theorem mt_X12_spelt_b38 {C : zCx} {ad : Nat → Nat} {T : zTT} {R : zRR}  (i3 : Int32) (i4 : Int32) (i5 : Int32) (i6 : Int32) (l7 : Int64) (M : zMem) : zX C mi_X12_spelt (zFin C zrvL ad T R) 0 0 (mf_X12_spelt_b38 R i3 i4 i5 i6 l7 M) 38 [(3, .int i3), (4, .int i4), (5, .int i5), (6, .int i6), (7, .long l7)] [] ad T R M := by
  unfold mf_X12_spelt_b38
  refine zx_iload_n (i := 3) (zd me_X12_spelt 23 rfl) rfl 0 rfl ?_
  refine zx_if_le (tgt := 57) (zd me_X12_spelt 24 rfl) (by decide) (fun c4 => ?_) (fun c4 => ?_)
  · refine zx_loc [1, 2, 3, 4] rfl ?_
    exact mt_X12_spelt_b57 i4 i5 i6 l7 M
  · refine zx_ldc2 (v := 27) (zd me_X12_spelt 25 rfl) (zt7 32 rfl rfl) ?_
    refine zx_lload (zd me_X12_spelt 26 rfl) 4 rfl ?_
    refine zx_lmul (zd me_X12_spelt 27 rfl) ?_
    refine zx_iload_n (i := 3) (zd me_X12_spelt 28 rfl) rfl 0 rfl ?_
    refine zx_i2l (zd me_X12_spelt 29 rfl) ?_
    refine zx_ladd (zd me_X12_spelt 30 rfl) ?_
    refine zx_ldc2 (v := 96) (zd me_X12_spelt 31 rfl) (zt7 33 rfl rfl) ?_
    refine zx_lsub (zd me_X12_spelt 32 rfl) ?_
    refine zx_letl (fun x5 => ?_)
    refine zx_lstore (ls' := [(7, .long x5), (3, .int i3), (4, .int i4), (5, .int i5), (6, .int i6)]) (zd me_X12_spelt 33 rfl) (Nat.le_of_ble_eq_true rfl) rfl ?_
    refine zx_loc [2, 3, 4, 0] rfl ?_
    exact mt_X12_spelt_b57 i4 i5 i6 x5 M
def mf_X12_spelt (R : zRR) (i0 : Int32) (i1 : Int32) (i2 : Int32) (i3 : Int32) (i4 : Int32) (i5 : Int32) (i6 : Int32) (M : zMem) : Option (Int64 × zMem) :=
  zlet (((((27 : Int64) * (i0.toInt64 - (96 : Int64))) + i1.toInt64) - (96 : Int64)) : Int64) fun x1 =>
  if i2 ≤ 0 then
    (mf_X12_spelt_b38 R i3 i4 i5 i6 x1 M)
  else
    (zlet (((((27 : Int64) * x1) + i2.toInt64) - (96 : Int64)) : Int64) fun x3 =>
    mf_X12_spelt_b38 R i3 i4 i5 i6 x3 M)
theorem mc_X12_spelt (l : Launch) {T : zTT} {R : zRR}  (i0 : Int32) (i1 : Int32) (i2 : Int32) (i3 : Int32) (i4 : Int32) (i5 : Int32) (i6 : Int32) (M : zMem) : zMS l yX12_spelt mi_X12_spelt zrvL (mf_X12_spelt R i0 i1 i2 i3 i4 i5 i6 M) [.int i0, .int i1, .int i2, .int i3, .int i4, .int i5, .int i6] T R M := by
  refine zMS.of (by decide +kernel) rfl ⟨rfl, rfl⟩ (Nat.le_of_ble_eq_true rfl) (fun C ad _ => ?_)
  show zX C mi_X12_spelt (zFin C zrvL ad T R) 0 0 (mf_X12_spelt R i0 i1 i2 i3 i4 i5 i6 M) 0 [(0, .int i0), (1, .int i1), (2, .int i2), (3, .int i3), (4, .int i4), (5, .int i5), (6, .int i6)] [] ad T R M
  unfold mf_X12_spelt
  refine zx_ldc2 (v := 27) (zd me_X12_spelt 0 rfl) (zt7 32 rfl rfl) ?_
  refine zx_iload_n (i := 0) (zd me_X12_spelt 1 rfl) rfl 0 rfl ?_
  refine zx_i2l (zd me_X12_spelt 2 rfl) ?_
  refine zx_ldc2 (v := 96) (zd me_X12_spelt 3 rfl) (zt7 33 rfl rfl) ?_
  refine zx_lsub (zd me_X12_spelt 4 rfl) ?_
  refine zx_lmul (zd me_X12_spelt 5 rfl) ?_
  refine zx_iload_n (i := 1) (zd me_X12_spelt 6 rfl) rfl 1 rfl ?_
  refine zx_i2l (zd me_X12_spelt 7 rfl) ?_
  refine zx_ladd (zd me_X12_spelt 8 rfl) ?_
  refine zx_ldc2 (v := 96) (zd me_X12_spelt 9 rfl) (zt7 33 rfl rfl) ?_
  refine zx_lsub (zd me_X12_spelt 10 rfl) ?_
  refine zx_letl (fun x1 => ?_)
  refine zx_lstore (ls' := [(7, .long x1), (0, .int i0), (1, .int i1), (2, .int i2), (3, .int i3), (4, .int i4), (5, .int i5), (6, .int i6)]) (zd me_X12_spelt 11 rfl) (Nat.le_of_ble_eq_true rfl) rfl ?_
  refine zx_iload_n (i := 2) (zd me_X12_spelt 12 rfl) rfl 3 rfl ?_
  refine zx_if_le (tgt := 38) (zd me_X12_spelt 13 rfl) (by decide) (fun c2 => ?_) (fun c2 => ?_)
  · refine zx_loc [4, 5, 6, 7, 0] rfl ?_
    exact mt_X12_spelt_b38 i3 i4 i5 i6 x1 M
  · refine zx_ldc2 (v := 27) (zd me_X12_spelt 14 rfl) (zt7 32 rfl rfl) ?_
    refine zx_lload (zd me_X12_spelt 15 rfl) 0 rfl ?_
    refine zx_lmul (zd me_X12_spelt 16 rfl) ?_
    refine zx_iload_n (i := 2) (zd me_X12_spelt 17 rfl) rfl 3 rfl ?_
    refine zx_i2l (zd me_X12_spelt 18 rfl) ?_
    refine zx_ladd (zd me_X12_spelt 19 rfl) ?_
    refine zx_ldc2 (v := 96) (zd me_X12_spelt 20 rfl) (zt7 33 rfl rfl) ?_
    refine zx_lsub (zd me_X12_spelt 21 rfl) ?_
    refine zx_letl (fun x3 => ?_)
    refine zx_lstore (ls' := [(7, .long x3), (0, .int i0), (1, .int i1), (2, .int i2), (3, .int i3), (4, .int i4), (5, .int i5), (6, .int i6)]) (zd me_X12_spelt 22 rfl) (Nat.le_of_ble_eq_true rfl) rfl ?_
    refine zx_loc [4, 5, 6, 7, 0] rfl ?_
    exact mt_X12_spelt_b38 i3 i4 i5 i6 x3 M
def mf_X12_wordOf (R : zRR) (i0 : Int32) (M : zMem) : Option (Int64 × zMem) :=
  if i0 = 0 then
    (zcl (mf_X12_spelt R (98 : Int32) (97 : Int32) (116 : Int32) (104 : Int32) (0 : Int32) (0 : Int32) (0 : Int32) M) fun r3 M2 =>
    some (r3, M2))
  else
  if i0 = 1 then
    (zcl (mf_X12_spelt R (112 : Int32) (97 : Int32) (112 : Int32) (101 : Int32) (114 : Int32) (0 : Int32) (0 : Int32) M) fun r6 M5 =>
    some (r6, M5))
  else
  if i0 = 2 then
    (zcl (mf_X12_spelt R (115 : Int32) (104 : Int32) (101 : Int32) (101 : Int32) (116 : Int32) (0 : Int32) (0 : Int32) M) fun r9 M8 =>
    some (r9, M8))
  else
  if i0 = 3 then
    (zcl (mf_X12_spelt R (115 : Int32) (112 : Int32) (97 : Int32) (114 : Int32) (101 : Int32) (0 : Int32) (0 : Int32) M) fun r12 M11 =>
    some (r12, M11))
  else
  if i0 = 4 then
    (zcl (mf_X12_spelt R (119 : Int32) (101 : Int32) (97 : Int32) (107 : Int32) (0 : Int32) (0 : Int32) (0 : Int32) M) fun r15 M14 =>
    some (r15, M14))
  else
  if i0 = 5 then
    (zcl (mf_X12_spelt R (102 : Int32) (114 : Int32) (101 : Int32) (115 : Int32) (104 : Int32) (0 : Int32) (0 : Int32) M) fun r18 M17 =>
    some (r18, M17))
  else
  if i0 = 6 then
    (zcl (mf_X12_spelt R (115 : Int32) (116 : Int32) (97 : Int32) (114 : Int32) (116 : Int32) (0 : Int32) (0 : Int32) M) fun r21 M20 =>
    some (r21, M20))
  else
  if i0 = 7 then
    (zcl (mf_X12_spelt R (116 : Int32) (97 : Int32) (107 : Int32) (101 : Int32) (0 : Int32) (0 : Int32) (0 : Int32) M) fun r24 M23 =>
    some (r24, M23))
  else
  if i0 = 8 then
    (zcl (mf_X12_spelt R (97 : Int32) (103 : Int32) (97 : Int32) (105 : Int32) (110 : Int32) (0 : Int32) (0 : Int32) M) fun r27 M26 =>
    some (r27, M26))
  else
  if i0 = 9 then
    (zcl (mf_X12_spelt R (114 : Int32) (101 : Int32) (110 : Int32) (101 : Int32) (119 : Int32) (0 : Int32) (0 : Int32) M) fun r30 M29 =>
    some (r30, M29))
  else
  if i0 = 10 then
    (zcl (mf_X12_spelt R (109 : Int32) (105 : Int32) (110 : Int32) (117 : Int32) (116 : Int32) (101 : Int32) (0 : Int32) M) fun r33 M32 =>
    some (r33, M32))
  else
  if i0 = 11 then
    (zcl (mf_X12_spelt R (111 : Int32) (114 : Int32) (0 : Int32) (0 : Int32) (0 : Int32) (0 : Int32) (0 : Int32) M) fun r36 M35 =>
    some (r36, M35))
  else
  if i0 = 12 then
    (zcl (mf_X12_spelt R (97 : Int32) (110 : Int32) (100 : Int32) (0 : Int32) (0 : Int32) (0 : Int32) (0 : Int32) M) fun r39 M38 =>
    some (r39, M38))
  else
  if i0 = 13 then
    (zcl (mf_X12_spelt R (110 : Int32) (111 : Int32) (116 : Int32) (0 : Int32) (0 : Int32) (0 : Int32) (0 : Int32) M) fun r42 M41 =>
    some (r42, M41))
  else
  if i0 = 14 then
    (zcl (mf_X12_spelt R (119 : Int32) (97 : Int32) (105 : Int32) (116 : Int32) (105 : Int32) (110 : Int32) (103 : Int32) M) fun r45 M44 =>
    some (r45, M44))
  else
  if i0 = 15 then
    (zcl (mf_X12_spelt R (100 : Int32) (111 : Int32) (110 : Int32) (101 : Int32) (0 : Int32) (0 : Int32) (0 : Int32) M) fun r48 M47 =>
    some (r48, M47))
  else
  if i0 = 16 then
    (zcl (mf_X12_spelt R (115 : Int32) (112 : Int32) (111 : Int32) (105 : Int32) (108 : Int32) (116 : Int32) (0 : Int32) M) fun r51 M50 =>
    some (r51, M50))
  else
  if i0 = 17 then
    (zcl (mf_X12_spelt R (104 : Int32) (101 : Int32) (108 : Int32) (100 : Int32) (0 : Int32) (0 : Int32) (0 : Int32) M) fun r54 M53 =>
    some (r54, M53))
  else
  if i0 = 18 then
    (zcl (mf_X12_spelt R (105 : Int32) (110 : Int32) (0 : Int32) (0 : Int32) (0 : Int32) (0 : Int32) (0 : Int32) M) fun r57 M56 =>
    some (r57, M56))
  else
  if i0 = 19 then
    (zcl (mf_X12_spelt R (111 : Int32) (102 : Int32) (0 : Int32) (0 : Int32) (0 : Int32) (0 : Int32) (0 : Int32) M) fun r60 M59 =>
    some (r60, M59))
  else
  if i0 = 20 then
    (zcl (mf_X12_spelt R (108 : Int32) (101 : Int32) (102 : Int32) (116 : Int32) (0 : Int32) (0 : Int32) (0 : Int32) M) fun r63 M62 =>
    some (r63, M62))
  else
  if i0 = 21 then
    (zcl (mf_X12_spelt R (111 : Int32) (118 : Int32) (101 : Int32) (114 : Int32) (0 : Int32) (0 : Int32) (0 : Int32) M) fun r66 M65 =>
    some (r66, M65))
  else
  if i0 = 22 then
    (zcl (mf_X12_spelt R (116 : Int32) (114 : Int32) (105 : Int32) (101 : Int32) (115 : Int32) (0 : Int32) (0 : Int32) M) fun r69 M68 =>
    some (r69, M68))
  else
    (zcl (mf_X12_spelt R (110 : Int32) (117 : Int32) (109 : Int32) (98 : Int32) (101 : Int32) (114 : Int32) (0 : Int32) M) fun r71 M70 =>
    some (r71, M70))
theorem mc_X12_wordOf (l : Launch) {T : zTT} {R : zRR}  (i0 : Int32) (M : zMem) : zMS l yX12_wordOf mi_X12_wordOf zrvL (mf_X12_wordOf R i0 M) [.int i0] T R M := by
  refine zMS.of (by decide +kernel) rfl ⟨rfl, rfl⟩ (Nat.le_of_ble_eq_true rfl) (fun C ad _ => ?_)
  show zX C mi_X12_wordOf (zFin C zrvL ad T R) 0 0 (mf_X12_wordOf R i0 M) 0 [(0, .int i0)] [] ad T R M
  unfold mf_X12_wordOf
  refine zx_iload_n (i := 0) (zd me_X12_wordOf 0 rfl) rfl 0 rfl ?_
  refine zx_ite (fun c1 => ?_) (fun c1 => ?_)
  · refine zx_tin (off := 107) (tgt := 108) (zd me_X12_wordOf 1 rfl) (by rw [c1]; decide) (by rw [c1]; decide) (by rw [c1]; rfl) (by decide) ?_
    refine zx_bipush (v := 98) (zd me_X12_wordOf 2 rfl) (by decide) ?_
    refine zx_bipush (v := 97) (zd me_X12_wordOf 3 rfl) (by decide) ?_
    refine zx_bipush (v := 116) (zd me_X12_wordOf 4 rfl) (by decide) ?_
    refine zx_bipush (v := 104) (zd me_X12_wordOf 5 rfl) (by decide) ?_
    refine zx_iconst (v := 0) (zd me_X12_wordOf 6 rfl) (by decide) ?_
    refine zx_iconst (v := 0) (zd me_X12_wordOf 7 rfl) (by decide) ?_
    refine zx_iconst (v := 0) (zd me_X12_wordOf 8 rfl) (by decide) ?_
    refine zx_callSL7 (zd me_X12_wordOf 9 rfl) (mc_X12_spelt (zl C) (98 : Int32) (97 : Int32) (116 : Int32) (104 : Int32) (0 : Int32) (0 : Int32) (0 : Int32) M) lk_X12_58 ⟨(Nat.le_of_ble_eq_true rfl), (Nat.le_of_ble_eq_true rfl)⟩ (Nat.le_of_ble_eq_true rfl) (fun r3 M2 => ?_)
    exact zx_lret (zd me_X12_wordOf 10 rfl) rfl
  · refine zx_ite (fun c4 => ?_) (fun c4 => ?_)
    · refine zx_tin (off := 122) (tgt := 123) (zd me_X12_wordOf 1 rfl) (by rw [c4]; decide) (by rw [c4]; decide) (by rw [c4]; rfl) (by decide) ?_
      refine zx_bipush (v := 112) (zd me_X12_wordOf 11 rfl) (by decide) ?_
      refine zx_bipush (v := 97) (zd me_X12_wordOf 12 rfl) (by decide) ?_
      refine zx_bipush (v := 112) (zd me_X12_wordOf 13 rfl) (by decide) ?_
      refine zx_bipush (v := 101) (zd me_X12_wordOf 14 rfl) (by decide) ?_
      refine zx_bipush (v := 114) (zd me_X12_wordOf 15 rfl) (by decide) ?_
      refine zx_iconst (v := 0) (zd me_X12_wordOf 16 rfl) (by decide) ?_
      refine zx_iconst (v := 0) (zd me_X12_wordOf 17 rfl) (by decide) ?_
      refine zx_callSL7 (zd me_X12_wordOf 18 rfl) (mc_X12_spelt (zl C) (112 : Int32) (97 : Int32) (112 : Int32) (101 : Int32) (114 : Int32) (0 : Int32) (0 : Int32) M) lk_X12_58 ⟨(Nat.le_of_ble_eq_true rfl), (Nat.le_of_ble_eq_true rfl)⟩ (Nat.le_of_ble_eq_true rfl) (fun r6 M5 => ?_)
      exact zx_lret (zd me_X12_wordOf 19 rfl) rfl
    · refine zx_ite (fun c7 => ?_) (fun c7 => ?_)
      · refine zx_tin (off := 138) (tgt := 139) (zd me_X12_wordOf 1 rfl) (by rw [c7]; decide) (by rw [c7]; decide) (by rw [c7]; rfl) (by decide) ?_
        refine zx_bipush (v := 115) (zd me_X12_wordOf 20 rfl) (by decide) ?_
        refine zx_bipush (v := 104) (zd me_X12_wordOf 21 rfl) (by decide) ?_
        refine zx_bipush (v := 101) (zd me_X12_wordOf 22 rfl) (by decide) ?_
        refine zx_bipush (v := 101) (zd me_X12_wordOf 23 rfl) (by decide) ?_
        refine zx_bipush (v := 116) (zd me_X12_wordOf 24 rfl) (by decide) ?_
        refine zx_iconst (v := 0) (zd me_X12_wordOf 25 rfl) (by decide) ?_
        refine zx_iconst (v := 0) (zd me_X12_wordOf 26 rfl) (by decide) ?_
        refine zx_callSL7 (zd me_X12_wordOf 27 rfl) (mc_X12_spelt (zl C) (115 : Int32) (104 : Int32) (101 : Int32) (101 : Int32) (116 : Int32) (0 : Int32) (0 : Int32) M) lk_X12_58 ⟨(Nat.le_of_ble_eq_true rfl), (Nat.le_of_ble_eq_true rfl)⟩ (Nat.le_of_ble_eq_true rfl) (fun r9 M8 => ?_)
        exact zx_lret (zd me_X12_wordOf 28 rfl) rfl
      · refine zx_ite (fun c10 => ?_) (fun c10 => ?_)
        · refine zx_tin (off := 154) (tgt := 155) (zd me_X12_wordOf 1 rfl) (by rw [c10]; decide) (by rw [c10]; decide) (by rw [c10]; rfl) (by decide) ?_
          refine zx_bipush (v := 115) (zd me_X12_wordOf 29 rfl) (by decide) ?_
          refine zx_bipush (v := 112) (zd me_X12_wordOf 30 rfl) (by decide) ?_
          refine zx_bipush (v := 97) (zd me_X12_wordOf 31 rfl) (by decide) ?_
          refine zx_bipush (v := 114) (zd me_X12_wordOf 32 rfl) (by decide) ?_
          refine zx_bipush (v := 101) (zd me_X12_wordOf 33 rfl) (by decide) ?_
          refine zx_iconst (v := 0) (zd me_X12_wordOf 34 rfl) (by decide) ?_
          refine zx_iconst (v := 0) (zd me_X12_wordOf 35 rfl) (by decide) ?_
          refine zx_callSL7 (zd me_X12_wordOf 36 rfl) (mc_X12_spelt (zl C) (115 : Int32) (112 : Int32) (97 : Int32) (114 : Int32) (101 : Int32) (0 : Int32) (0 : Int32) M) lk_X12_58 ⟨(Nat.le_of_ble_eq_true rfl), (Nat.le_of_ble_eq_true rfl)⟩ (Nat.le_of_ble_eq_true rfl) (fun r12 M11 => ?_)
          exact zx_lret (zd me_X12_wordOf 37 rfl) rfl
        · refine zx_ite (fun c13 => ?_) (fun c13 => ?_)
          · refine zx_tin (off := 170) (tgt := 171) (zd me_X12_wordOf 1 rfl) (by rw [c13]; decide) (by rw [c13]; decide) (by rw [c13]; rfl) (by decide) ?_
            refine zx_bipush (v := 119) (zd me_X12_wordOf 38 rfl) (by decide) ?_
            refine zx_bipush (v := 101) (zd me_X12_wordOf 39 rfl) (by decide) ?_
            refine zx_bipush (v := 97) (zd me_X12_wordOf 40 rfl) (by decide) ?_
            refine zx_bipush (v := 107) (zd me_X12_wordOf 41 rfl) (by decide) ?_
            refine zx_iconst (v := 0) (zd me_X12_wordOf 42 rfl) (by decide) ?_
            refine zx_iconst (v := 0) (zd me_X12_wordOf 43 rfl) (by decide) ?_
            refine zx_iconst (v := 0) (zd me_X12_wordOf 44 rfl) (by decide) ?_
            refine zx_callSL7 (zd me_X12_wordOf 45 rfl) (mc_X12_spelt (zl C) (119 : Int32) (101 : Int32) (97 : Int32) (107 : Int32) (0 : Int32) (0 : Int32) (0 : Int32) M) lk_X12_58 ⟨(Nat.le_of_ble_eq_true rfl), (Nat.le_of_ble_eq_true rfl)⟩ (Nat.le_of_ble_eq_true rfl) (fun r15 M14 => ?_)
            exact zx_lret (zd me_X12_wordOf 46 rfl) rfl
          · refine zx_ite (fun c16 => ?_) (fun c16 => ?_)
            · refine zx_tin (off := 185) (tgt := 186) (zd me_X12_wordOf 1 rfl) (by rw [c16]; decide) (by rw [c16]; decide) (by rw [c16]; rfl) (by decide) ?_
              refine zx_bipush (v := 102) (zd me_X12_wordOf 47 rfl) (by decide) ?_
              refine zx_bipush (v := 114) (zd me_X12_wordOf 48 rfl) (by decide) ?_
              refine zx_bipush (v := 101) (zd me_X12_wordOf 49 rfl) (by decide) ?_
              refine zx_bipush (v := 115) (zd me_X12_wordOf 50 rfl) (by decide) ?_
              refine zx_bipush (v := 104) (zd me_X12_wordOf 51 rfl) (by decide) ?_
              refine zx_iconst (v := 0) (zd me_X12_wordOf 52 rfl) (by decide) ?_
              refine zx_iconst (v := 0) (zd me_X12_wordOf 53 rfl) (by decide) ?_
              refine zx_callSL7 (zd me_X12_wordOf 54 rfl) (mc_X12_spelt (zl C) (102 : Int32) (114 : Int32) (101 : Int32) (115 : Int32) (104 : Int32) (0 : Int32) (0 : Int32) M) lk_X12_58 ⟨(Nat.le_of_ble_eq_true rfl), (Nat.le_of_ble_eq_true rfl)⟩ (Nat.le_of_ble_eq_true rfl) (fun r18 M17 => ?_)
              exact zx_lret (zd me_X12_wordOf 55 rfl) rfl
            · refine zx_ite (fun c19 => ?_) (fun c19 => ?_)
              · refine zx_tin (off := 201) (tgt := 202) (zd me_X12_wordOf 1 rfl) (by rw [c19]; decide) (by rw [c19]; decide) (by rw [c19]; rfl) (by decide) ?_
                refine zx_bipush (v := 115) (zd me_X12_wordOf 56 rfl) (by decide) ?_
                refine zx_bipush (v := 116) (zd me_X12_wordOf 57 rfl) (by decide) ?_
                refine zx_bipush (v := 97) (zd me_X12_wordOf 58 rfl) (by decide) ?_
                refine zx_bipush (v := 114) (zd me_X12_wordOf 59 rfl) (by decide) ?_
                refine zx_bipush (v := 116) (zd me_X12_wordOf 60 rfl) (by decide) ?_
                refine zx_iconst (v := 0) (zd me_X12_wordOf 61 rfl) (by decide) ?_
                refine zx_iconst (v := 0) (zd me_X12_wordOf 62 rfl) (by decide) ?_
                refine zx_callSL7 (zd me_X12_wordOf 63 rfl) (mc_X12_spelt (zl C) (115 : Int32) (116 : Int32) (97 : Int32) (114 : Int32) (116 : Int32) (0 : Int32) (0 : Int32) M) lk_X12_58 ⟨(Nat.le_of_ble_eq_true rfl), (Nat.le_of_ble_eq_true rfl)⟩ (Nat.le_of_ble_eq_true rfl) (fun r21 M20 => ?_)
                exact zx_lret (zd me_X12_wordOf 64 rfl) rfl
              · refine zx_ite (fun c22 => ?_) (fun c22 => ?_)
                · refine zx_tin (off := 217) (tgt := 218) (zd me_X12_wordOf 1 rfl) (by rw [c22]; decide) (by rw [c22]; decide) (by rw [c22]; rfl) (by decide) ?_
                  refine zx_bipush (v := 116) (zd me_X12_wordOf 65 rfl) (by decide) ?_
                  refine zx_bipush (v := 97) (zd me_X12_wordOf 66 rfl) (by decide) ?_
                  refine zx_bipush (v := 107) (zd me_X12_wordOf 67 rfl) (by decide) ?_
                  refine zx_bipush (v := 101) (zd me_X12_wordOf 68 rfl) (by decide) ?_
                  refine zx_iconst (v := 0) (zd me_X12_wordOf 69 rfl) (by decide) ?_
                  refine zx_iconst (v := 0) (zd me_X12_wordOf 70 rfl) (by decide) ?_
                  refine zx_iconst (v := 0) (zd me_X12_wordOf 71 rfl) (by decide) ?_
                  refine zx_callSL7 (zd me_X12_wordOf 72 rfl) (mc_X12_spelt (zl C) (116 : Int32) (97 : Int32) (107 : Int32) (101 : Int32) (0 : Int32) (0 : Int32) (0 : Int32) M) lk_X12_58 ⟨(Nat.le_of_ble_eq_true rfl), (Nat.le_of_ble_eq_true rfl)⟩ (Nat.le_of_ble_eq_true rfl) (fun r24 M23 => ?_)
                  exact zx_lret (zd me_X12_wordOf 73 rfl) rfl
                · refine zx_ite (fun c25 => ?_) (fun c25 => ?_)
                  · refine zx_tin (off := 232) (tgt := 233) (zd me_X12_wordOf 1 rfl) (by rw [c25]; decide) (by rw [c25]; decide) (by rw [c25]; rfl) (by decide) ?_
                    refine zx_bipush (v := 97) (zd me_X12_wordOf 74 rfl) (by decide) ?_
                    refine zx_bipush (v := 103) (zd me_X12_wordOf 75 rfl) (by decide) ?_
                    refine zx_bipush (v := 97) (zd me_X12_wordOf 76 rfl) (by decide) ?_
                    refine zx_bipush (v := 105) (zd me_X12_wordOf 77 rfl) (by decide) ?_
                    refine zx_bipush (v := 110) (zd me_X12_wordOf 78 rfl) (by decide) ?_
                    refine zx_iconst (v := 0) (zd me_X12_wordOf 79 rfl) (by decide) ?_
                    refine zx_iconst (v := 0) (zd me_X12_wordOf 80 rfl) (by decide) ?_
                    refine zx_callSL7 (zd me_X12_wordOf 81 rfl) (mc_X12_spelt (zl C) (97 : Int32) (103 : Int32) (97 : Int32) (105 : Int32) (110 : Int32) (0 : Int32) (0 : Int32) M) lk_X12_58 ⟨(Nat.le_of_ble_eq_true rfl), (Nat.le_of_ble_eq_true rfl)⟩ (Nat.le_of_ble_eq_true rfl) (fun r27 M26 => ?_)
                    exact zx_lret (zd me_X12_wordOf 82 rfl) rfl
                  · refine zx_ite (fun c28 => ?_) (fun c28 => ?_)
                    · refine zx_tin (off := 248) (tgt := 249) (zd me_X12_wordOf 1 rfl) (by rw [c28]; decide) (by rw [c28]; decide) (by rw [c28]; rfl) (by decide) ?_
                      refine zx_bipush (v := 114) (zd me_X12_wordOf 83 rfl) (by decide) ?_
                      refine zx_bipush (v := 101) (zd me_X12_wordOf 84 rfl) (by decide) ?_
                      refine zx_bipush (v := 110) (zd me_X12_wordOf 85 rfl) (by decide) ?_
                      refine zx_bipush (v := 101) (zd me_X12_wordOf 86 rfl) (by decide) ?_
                      refine zx_bipush (v := 119) (zd me_X12_wordOf 87 rfl) (by decide) ?_
                      refine zx_iconst (v := 0) (zd me_X12_wordOf 88 rfl) (by decide) ?_
                      refine zx_iconst (v := 0) (zd me_X12_wordOf 89 rfl) (by decide) ?_
                      refine zx_callSL7 (zd me_X12_wordOf 90 rfl) (mc_X12_spelt (zl C) (114 : Int32) (101 : Int32) (110 : Int32) (101 : Int32) (119 : Int32) (0 : Int32) (0 : Int32) M) lk_X12_58 ⟨(Nat.le_of_ble_eq_true rfl), (Nat.le_of_ble_eq_true rfl)⟩ (Nat.le_of_ble_eq_true rfl) (fun r30 M29 => ?_)
                      exact zx_lret (zd me_X12_wordOf 91 rfl) rfl
                    · refine zx_ite (fun c31 => ?_) (fun c31 => ?_)
                      · refine zx_tin (off := 264) (tgt := 265) (zd me_X12_wordOf 1 rfl) (by rw [c31]; decide) (by rw [c31]; decide) (by rw [c31]; rfl) (by decide) ?_
                        refine zx_bipush (v := 109) (zd me_X12_wordOf 92 rfl) (by decide) ?_
                        refine zx_bipush (v := 105) (zd me_X12_wordOf 93 rfl) (by decide) ?_
                        refine zx_bipush (v := 110) (zd me_X12_wordOf 94 rfl) (by decide) ?_
                        refine zx_bipush (v := 117) (zd me_X12_wordOf 95 rfl) (by decide) ?_
                        refine zx_bipush (v := 116) (zd me_X12_wordOf 96 rfl) (by decide) ?_
                        refine zx_bipush (v := 101) (zd me_X12_wordOf 97 rfl) (by decide) ?_
                        refine zx_iconst (v := 0) (zd me_X12_wordOf 98 rfl) (by decide) ?_
                        refine zx_callSL7 (zd me_X12_wordOf 99 rfl) (mc_X12_spelt (zl C) (109 : Int32) (105 : Int32) (110 : Int32) (117 : Int32) (116 : Int32) (101 : Int32) (0 : Int32) M) lk_X12_58 ⟨(Nat.le_of_ble_eq_true rfl), (Nat.le_of_ble_eq_true rfl)⟩ (Nat.le_of_ble_eq_true rfl) (fun r33 M32 => ?_)
                        exact zx_lret (zd me_X12_wordOf 100 rfl) rfl
                      · refine zx_ite (fun c34 => ?_) (fun c34 => ?_)
                        · refine zx_tin (off := 281) (tgt := 282) (zd me_X12_wordOf 1 rfl) (by rw [c34]; decide) (by rw [c34]; decide) (by rw [c34]; rfl) (by decide) ?_
                          refine zx_bipush (v := 111) (zd me_X12_wordOf 101 rfl) (by decide) ?_
                          refine zx_bipush (v := 114) (zd me_X12_wordOf 102 rfl) (by decide) ?_
                          refine zx_iconst (v := 0) (zd me_X12_wordOf 103 rfl) (by decide) ?_
                          refine zx_iconst (v := 0) (zd me_X12_wordOf 104 rfl) (by decide) ?_
                          refine zx_iconst (v := 0) (zd me_X12_wordOf 105 rfl) (by decide) ?_
                          refine zx_iconst (v := 0) (zd me_X12_wordOf 106 rfl) (by decide) ?_
                          refine zx_iconst (v := 0) (zd me_X12_wordOf 107 rfl) (by decide) ?_
                          refine zx_callSL7 (zd me_X12_wordOf 108 rfl) (mc_X12_spelt (zl C) (111 : Int32) (114 : Int32) (0 : Int32) (0 : Int32) (0 : Int32) (0 : Int32) (0 : Int32) M) lk_X12_58 ⟨(Nat.le_of_ble_eq_true rfl), (Nat.le_of_ble_eq_true rfl)⟩ (Nat.le_of_ble_eq_true rfl) (fun r36 M35 => ?_)
                          exact zx_lret (zd me_X12_wordOf 109 rfl) rfl
                        · refine zx_ite (fun c37 => ?_) (fun c37 => ?_)
                          · refine zx_tin (off := 294) (tgt := 295) (zd me_X12_wordOf 1 rfl) (by rw [c37]; decide) (by rw [c37]; decide) (by rw [c37]; rfl) (by decide) ?_
                            refine zx_bipush (v := 97) (zd me_X12_wordOf 110 rfl) (by decide) ?_
                            refine zx_bipush (v := 110) (zd me_X12_wordOf 111 rfl) (by decide) ?_
                            refine zx_bipush (v := 100) (zd me_X12_wordOf 112 rfl) (by decide) ?_
                            refine zx_iconst (v := 0) (zd me_X12_wordOf 113 rfl) (by decide) ?_
                            refine zx_iconst (v := 0) (zd me_X12_wordOf 114 rfl) (by decide) ?_
                            refine zx_iconst (v := 0) (zd me_X12_wordOf 115 rfl) (by decide) ?_
                            refine zx_iconst (v := 0) (zd me_X12_wordOf 116 rfl) (by decide) ?_
                            refine zx_callSL7 (zd me_X12_wordOf 117 rfl) (mc_X12_spelt (zl C) (97 : Int32) (110 : Int32) (100 : Int32) (0 : Int32) (0 : Int32) (0 : Int32) (0 : Int32) M) lk_X12_58 ⟨(Nat.le_of_ble_eq_true rfl), (Nat.le_of_ble_eq_true rfl)⟩ (Nat.le_of_ble_eq_true rfl) (fun r39 M38 => ?_)
                            exact zx_lret (zd me_X12_wordOf 118 rfl) rfl
                          · refine zx_ite (fun c40 => ?_) (fun c40 => ?_)
                            · refine zx_tin (off := 308) (tgt := 309) (zd me_X12_wordOf 1 rfl) (by rw [c40]; decide) (by rw [c40]; decide) (by rw [c40]; rfl) (by decide) ?_
                              refine zx_bipush (v := 110) (zd me_X12_wordOf 119 rfl) (by decide) ?_
                              refine zx_bipush (v := 111) (zd me_X12_wordOf 120 rfl) (by decide) ?_
                              refine zx_bipush (v := 116) (zd me_X12_wordOf 121 rfl) (by decide) ?_
                              refine zx_iconst (v := 0) (zd me_X12_wordOf 122 rfl) (by decide) ?_
                              refine zx_iconst (v := 0) (zd me_X12_wordOf 123 rfl) (by decide) ?_
                              refine zx_iconst (v := 0) (zd me_X12_wordOf 124 rfl) (by decide) ?_
                              refine zx_iconst (v := 0) (zd me_X12_wordOf 125 rfl) (by decide) ?_
                              refine zx_callSL7 (zd me_X12_wordOf 126 rfl) (mc_X12_spelt (zl C) (110 : Int32) (111 : Int32) (116 : Int32) (0 : Int32) (0 : Int32) (0 : Int32) (0 : Int32) M) lk_X12_58 ⟨(Nat.le_of_ble_eq_true rfl), (Nat.le_of_ble_eq_true rfl)⟩ (Nat.le_of_ble_eq_true rfl) (fun r42 M41 => ?_)
                              exact zx_lret (zd me_X12_wordOf 127 rfl) rfl
                            · refine zx_ite (fun c43 => ?_) (fun c43 => ?_)
                              · refine zx_tin (off := 322) (tgt := 323) (zd me_X12_wordOf 1 rfl) (by rw [c43]; decide) (by rw [c43]; decide) (by rw [c43]; rfl) (by decide) ?_
                                refine zx_bipush (v := 119) (zd me_X12_wordOf 128 rfl) (by decide) ?_
                                refine zx_bipush (v := 97) (zd me_X12_wordOf 129 rfl) (by decide) ?_
                                refine zx_bipush (v := 105) (zd me_X12_wordOf 130 rfl) (by decide) ?_
                                refine zx_bipush (v := 116) (zd me_X12_wordOf 131 rfl) (by decide) ?_
                                refine zx_bipush (v := 105) (zd me_X12_wordOf 132 rfl) (by decide) ?_
                                refine zx_bipush (v := 110) (zd me_X12_wordOf 133 rfl) (by decide) ?_
                                refine zx_bipush (v := 103) (zd me_X12_wordOf 134 rfl) (by decide) ?_
                                refine zx_callSL7 (zd me_X12_wordOf 135 rfl) (mc_X12_spelt (zl C) (119 : Int32) (97 : Int32) (105 : Int32) (116 : Int32) (105 : Int32) (110 : Int32) (103 : Int32) M) lk_X12_58 ⟨(Nat.le_of_ble_eq_true rfl), (Nat.le_of_ble_eq_true rfl)⟩ (Nat.le_of_ble_eq_true rfl) (fun r45 M44 => ?_)
                                exact zx_lret (zd me_X12_wordOf 136 rfl) rfl
                              · refine zx_ite (fun c46 => ?_) (fun c46 => ?_)
                                · refine zx_tin (off := 340) (tgt := 341) (zd me_X12_wordOf 1 rfl) (by rw [c46]; decide) (by rw [c46]; decide) (by rw [c46]; rfl) (by decide) ?_
                                  refine zx_bipush (v := 100) (zd me_X12_wordOf 137 rfl) (by decide) ?_
                                  refine zx_bipush (v := 111) (zd me_X12_wordOf 138 rfl) (by decide) ?_
                                  refine zx_bipush (v := 110) (zd me_X12_wordOf 139 rfl) (by decide) ?_
                                  refine zx_bipush (v := 101) (zd me_X12_wordOf 140 rfl) (by decide) ?_
                                  refine zx_iconst (v := 0) (zd me_X12_wordOf 141 rfl) (by decide) ?_
                                  refine zx_iconst (v := 0) (zd me_X12_wordOf 142 rfl) (by decide) ?_
                                  refine zx_iconst (v := 0) (zd me_X12_wordOf 143 rfl) (by decide) ?_
                                  refine zx_callSL7 (zd me_X12_wordOf 144 rfl) (mc_X12_spelt (zl C) (100 : Int32) (111 : Int32) (110 : Int32) (101 : Int32) (0 : Int32) (0 : Int32) (0 : Int32) M) lk_X12_58 ⟨(Nat.le_of_ble_eq_true rfl), (Nat.le_of_ble_eq_true rfl)⟩ (Nat.le_of_ble_eq_true rfl) (fun r48 M47 => ?_)
                                  exact zx_lret (zd me_X12_wordOf 145 rfl) rfl
                                · refine zx_ite (fun c49 => ?_) (fun c49 => ?_)
                                  · refine zx_tin (off := 355) (tgt := 356) (zd me_X12_wordOf 1 rfl) (by rw [c49]; decide) (by rw [c49]; decide) (by rw [c49]; rfl) (by decide) ?_
                                    refine zx_bipush (v := 115) (zd me_X12_wordOf 146 rfl) (by decide) ?_
                                    refine zx_bipush (v := 112) (zd me_X12_wordOf 147 rfl) (by decide) ?_
                                    refine zx_bipush (v := 111) (zd me_X12_wordOf 148 rfl) (by decide) ?_
                                    refine zx_bipush (v := 105) (zd me_X12_wordOf 149 rfl) (by decide) ?_
                                    refine zx_bipush (v := 108) (zd me_X12_wordOf 150 rfl) (by decide) ?_
                                    refine zx_bipush (v := 116) (zd me_X12_wordOf 151 rfl) (by decide) ?_
                                    refine zx_iconst (v := 0) (zd me_X12_wordOf 152 rfl) (by decide) ?_
                                    refine zx_callSL7 (zd me_X12_wordOf 153 rfl) (mc_X12_spelt (zl C) (115 : Int32) (112 : Int32) (111 : Int32) (105 : Int32) (108 : Int32) (116 : Int32) (0 : Int32) M) lk_X12_58 ⟨(Nat.le_of_ble_eq_true rfl), (Nat.le_of_ble_eq_true rfl)⟩ (Nat.le_of_ble_eq_true rfl) (fun r51 M50 => ?_)
                                    exact zx_lret (zd me_X12_wordOf 154 rfl) rfl
                                  · refine zx_ite (fun c52 => ?_) (fun c52 => ?_)
                                    · refine zx_tin (off := 372) (tgt := 373) (zd me_X12_wordOf 1 rfl) (by rw [c52]; decide) (by rw [c52]; decide) (by rw [c52]; rfl) (by decide) ?_
                                      refine zx_bipush (v := 104) (zd me_X12_wordOf 155 rfl) (by decide) ?_
                                      refine zx_bipush (v := 101) (zd me_X12_wordOf 156 rfl) (by decide) ?_
                                      refine zx_bipush (v := 108) (zd me_X12_wordOf 157 rfl) (by decide) ?_
                                      refine zx_bipush (v := 100) (zd me_X12_wordOf 158 rfl) (by decide) ?_
                                      refine zx_iconst (v := 0) (zd me_X12_wordOf 159 rfl) (by decide) ?_
                                      refine zx_iconst (v := 0) (zd me_X12_wordOf 160 rfl) (by decide) ?_
                                      refine zx_iconst (v := 0) (zd me_X12_wordOf 161 rfl) (by decide) ?_
                                      refine zx_callSL7 (zd me_X12_wordOf 162 rfl) (mc_X12_spelt (zl C) (104 : Int32) (101 : Int32) (108 : Int32) (100 : Int32) (0 : Int32) (0 : Int32) (0 : Int32) M) lk_X12_58 ⟨(Nat.le_of_ble_eq_true rfl), (Nat.le_of_ble_eq_true rfl)⟩ (Nat.le_of_ble_eq_true rfl) (fun r54 M53 => ?_)
                                      exact zx_lret (zd me_X12_wordOf 163 rfl) rfl
                                    · refine zx_ite (fun c55 => ?_) (fun c55 => ?_)
                                      · refine zx_tin (off := 387) (tgt := 388) (zd me_X12_wordOf 1 rfl) (by rw [c55]; decide) (by rw [c55]; decide) (by rw [c55]; rfl) (by decide) ?_
                                        refine zx_bipush (v := 105) (zd me_X12_wordOf 164 rfl) (by decide) ?_
                                        refine zx_bipush (v := 110) (zd me_X12_wordOf 165 rfl) (by decide) ?_
                                        refine zx_iconst (v := 0) (zd me_X12_wordOf 166 rfl) (by decide) ?_
                                        refine zx_iconst (v := 0) (zd me_X12_wordOf 167 rfl) (by decide) ?_
                                        refine zx_iconst (v := 0) (zd me_X12_wordOf 168 rfl) (by decide) ?_
                                        refine zx_iconst (v := 0) (zd me_X12_wordOf 169 rfl) (by decide) ?_
                                        refine zx_iconst (v := 0) (zd me_X12_wordOf 170 rfl) (by decide) ?_
                                        refine zx_callSL7 (zd me_X12_wordOf 171 rfl) (mc_X12_spelt (zl C) (105 : Int32) (110 : Int32) (0 : Int32) (0 : Int32) (0 : Int32) (0 : Int32) (0 : Int32) M) lk_X12_58 ⟨(Nat.le_of_ble_eq_true rfl), (Nat.le_of_ble_eq_true rfl)⟩ (Nat.le_of_ble_eq_true rfl) (fun r57 M56 => ?_)
                                        exact zx_lret (zd me_X12_wordOf 172 rfl) rfl
                                      · refine zx_ite (fun c58 => ?_) (fun c58 => ?_)
                                        · refine zx_tin (off := 400) (tgt := 401) (zd me_X12_wordOf 1 rfl) (by rw [c58]; decide) (by rw [c58]; decide) (by rw [c58]; rfl) (by decide) ?_
                                          refine zx_bipush (v := 111) (zd me_X12_wordOf 173 rfl) (by decide) ?_
                                          refine zx_bipush (v := 102) (zd me_X12_wordOf 174 rfl) (by decide) ?_
                                          refine zx_iconst (v := 0) (zd me_X12_wordOf 175 rfl) (by decide) ?_
                                          refine zx_iconst (v := 0) (zd me_X12_wordOf 176 rfl) (by decide) ?_
                                          refine zx_iconst (v := 0) (zd me_X12_wordOf 177 rfl) (by decide) ?_
                                          refine zx_iconst (v := 0) (zd me_X12_wordOf 178 rfl) (by decide) ?_
                                          refine zx_iconst (v := 0) (zd me_X12_wordOf 179 rfl) (by decide) ?_
                                          refine zx_callSL7 (zd me_X12_wordOf 180 rfl) (mc_X12_spelt (zl C) (111 : Int32) (102 : Int32) (0 : Int32) (0 : Int32) (0 : Int32) (0 : Int32) (0 : Int32) M) lk_X12_58 ⟨(Nat.le_of_ble_eq_true rfl), (Nat.le_of_ble_eq_true rfl)⟩ (Nat.le_of_ble_eq_true rfl) (fun r60 M59 => ?_)
                                          exact zx_lret (zd me_X12_wordOf 181 rfl) rfl
                                        · refine zx_ite (fun c61 => ?_) (fun c61 => ?_)
                                          · refine zx_tin (off := 413) (tgt := 414) (zd me_X12_wordOf 1 rfl) (by rw [c61]; decide) (by rw [c61]; decide) (by rw [c61]; rfl) (by decide) ?_
                                            refine zx_bipush (v := 108) (zd me_X12_wordOf 182 rfl) (by decide) ?_
                                            refine zx_bipush (v := 101) (zd me_X12_wordOf 183 rfl) (by decide) ?_
                                            refine zx_bipush (v := 102) (zd me_X12_wordOf 184 rfl) (by decide) ?_
                                            refine zx_bipush (v := 116) (zd me_X12_wordOf 185 rfl) (by decide) ?_
                                            refine zx_iconst (v := 0) (zd me_X12_wordOf 186 rfl) (by decide) ?_
                                            refine zx_iconst (v := 0) (zd me_X12_wordOf 187 rfl) (by decide) ?_
                                            refine zx_iconst (v := 0) (zd me_X12_wordOf 188 rfl) (by decide) ?_
                                            refine zx_callSL7 (zd me_X12_wordOf 189 rfl) (mc_X12_spelt (zl C) (108 : Int32) (101 : Int32) (102 : Int32) (116 : Int32) (0 : Int32) (0 : Int32) (0 : Int32) M) lk_X12_58 ⟨(Nat.le_of_ble_eq_true rfl), (Nat.le_of_ble_eq_true rfl)⟩ (Nat.le_of_ble_eq_true rfl) (fun r63 M62 => ?_)
                                            exact zx_lret (zd me_X12_wordOf 190 rfl) rfl
                                          · refine zx_ite (fun c64 => ?_) (fun c64 => ?_)
                                            · refine zx_tin (off := 428) (tgt := 429) (zd me_X12_wordOf 1 rfl) (by rw [c64]; decide) (by rw [c64]; decide) (by rw [c64]; rfl) (by decide) ?_
                                              refine zx_bipush (v := 111) (zd me_X12_wordOf 191 rfl) (by decide) ?_
                                              refine zx_bipush (v := 118) (zd me_X12_wordOf 192 rfl) (by decide) ?_
                                              refine zx_bipush (v := 101) (zd me_X12_wordOf 193 rfl) (by decide) ?_
                                              refine zx_bipush (v := 114) (zd me_X12_wordOf 194 rfl) (by decide) ?_
                                              refine zx_iconst (v := 0) (zd me_X12_wordOf 195 rfl) (by decide) ?_
                                              refine zx_iconst (v := 0) (zd me_X12_wordOf 196 rfl) (by decide) ?_
                                              refine zx_iconst (v := 0) (zd me_X12_wordOf 197 rfl) (by decide) ?_
                                              refine zx_callSL7 (zd me_X12_wordOf 198 rfl) (mc_X12_spelt (zl C) (111 : Int32) (118 : Int32) (101 : Int32) (114 : Int32) (0 : Int32) (0 : Int32) (0 : Int32) M) lk_X12_58 ⟨(Nat.le_of_ble_eq_true rfl), (Nat.le_of_ble_eq_true rfl)⟩ (Nat.le_of_ble_eq_true rfl) (fun r66 M65 => ?_)
                                              exact zx_lret (zd me_X12_wordOf 199 rfl) rfl
                                            · refine zx_ite (fun c67 => ?_) (fun c67 => ?_)
                                              · refine zx_tin (off := 443) (tgt := 444) (zd me_X12_wordOf 1 rfl) (by rw [c67]; decide) (by rw [c67]; decide) (by rw [c67]; rfl) (by decide) ?_
                                                refine zx_bipush (v := 116) (zd me_X12_wordOf 200 rfl) (by decide) ?_
                                                refine zx_bipush (v := 114) (zd me_X12_wordOf 201 rfl) (by decide) ?_
                                                refine zx_bipush (v := 105) (zd me_X12_wordOf 202 rfl) (by decide) ?_
                                                refine zx_bipush (v := 101) (zd me_X12_wordOf 203 rfl) (by decide) ?_
                                                refine zx_bipush (v := 115) (zd me_X12_wordOf 204 rfl) (by decide) ?_
                                                refine zx_iconst (v := 0) (zd me_X12_wordOf 205 rfl) (by decide) ?_
                                                refine zx_iconst (v := 0) (zd me_X12_wordOf 206 rfl) (by decide) ?_
                                                refine zx_callSL7 (zd me_X12_wordOf 207 rfl) (mc_X12_spelt (zl C) (116 : Int32) (114 : Int32) (105 : Int32) (101 : Int32) (115 : Int32) (0 : Int32) (0 : Int32) M) lk_X12_58 ⟨(Nat.le_of_ble_eq_true rfl), (Nat.le_of_ble_eq_true rfl)⟩ (Nat.le_of_ble_eq_true rfl) (fun r69 M68 => ?_)
                                                exact zx_lret (zd me_X12_wordOf 208 rfl) rfl
                                              · refine zx_tout (tgt := 460) (zd me_X12_wordOf 1 rfl) (by have e0 := lv_neT c1 (a := 0) (by decide); have e1 := lv_neT c4 (a := 1) (by decide); have e2 := lv_neT c7 (a := 2) (by decide); have e3 := lv_neT c10 (a := 3) (by decide); have e4 := lv_neT c13 (a := 4) (by decide); have e5 := lv_neT c16 (a := 5) (by decide); have e6 := lv_neT c19 (a := 6) (by decide); have e7 := lv_neT c22 (a := 7) (by decide); have e8 := lv_neT c25 (a := 8) (by decide); have e9 := lv_neT c28 (a := 9) (by decide); have e10 := lv_neT c31 (a := 10) (by decide); have e11 := lv_neT c34 (a := 11) (by decide); have e12 := lv_neT c37 (a := 12) (by decide); have e13 := lv_neT c40 (a := 13) (by decide); have e14 := lv_neT c43 (a := 14) (by decide); have e15 := lv_neT c46 (a := 15) (by decide); have e16 := lv_neT c49 (a := 16) (by decide); have e17 := lv_neT c52 (a := 17) (by decide); have e18 := lv_neT c55 (a := 18) (by decide); have e19 := lv_neT c58 (a := 19) (by decide); have e20 := lv_neT c61 (a := 20) (by decide); have e21 := lv_neT c64 (a := 21) (by decide); have e22 := lv_neT c67 (a := 22) (by decide); omega) (by decide) ?_
                                                refine zx_bipush (v := 110) (zd me_X12_wordOf 209 rfl) (by decide) ?_
                                                refine zx_bipush (v := 117) (zd me_X12_wordOf 210 rfl) (by decide) ?_
                                                refine zx_bipush (v := 109) (zd me_X12_wordOf 211 rfl) (by decide) ?_
                                                refine zx_bipush (v := 98) (zd me_X12_wordOf 212 rfl) (by decide) ?_
                                                refine zx_bipush (v := 101) (zd me_X12_wordOf 213 rfl) (by decide) ?_
                                                refine zx_bipush (v := 114) (zd me_X12_wordOf 214 rfl) (by decide) ?_
                                                refine zx_iconst (v := 0) (zd me_X12_wordOf 215 rfl) (by decide) ?_
                                                refine zx_callSL7 (zd me_X12_wordOf 216 rfl) (mc_X12_spelt (zl C) (110 : Int32) (117 : Int32) (109 : Int32) (98 : Int32) (101 : Int32) (114 : Int32) (0 : Int32) M) lk_X12_58 ⟨(Nat.le_of_ble_eq_true rfl), (Nat.le_of_ble_eq_true rfl)⟩ (Nat.le_of_ble_eq_true rfl) (fun r71 M70 => ?_)
                                                exact zx_lret (zd me_X12_wordOf 217 rfl) rfl
def mf_X12_isWord (R : zRR) (a0 : Nat) (i1 : Int32) (M : zMem) : Option (Int32 × zMem) :=
  if (M.1 a0 7) = (2 : Int32) then
    (zcl (mf_X12_wordOf R i1 M) fun r3 M2 =>
    if (lg_cmp (M.2 a0 12) r3) = 0 then
      (some ((1 : Int32), M2))
    else
      (some ((0 : Int32), M2)))
  else
    (some ((0 : Int32), M))
theorem mc_X12_isWord (l : Launch) {T : zTT} {R : zRR} {a0 : Nat} (h0 : zi12 T R a0) (i1 : Int32) (M : zMem) : zMS l yX12_isWord mi_X12_isWord zrvI (mf_X12_isWord R a0 i1 M) [.ref a0, .int i1] T R M := by
  refine zMS.of (by decide +kernel) rfl ⟨rfl, rfl⟩ (Nat.le_of_ble_eq_true rfl) (fun C ad _ => ?_)
  show zX C mi_X12_isWord (zFin C zrvI ad T R) 0 0 (mf_X12_isWord R a0 i1 M) 0 [(0, .ref a0), (1, .int i1)] [] ad T R M
  unfold mf_X12_isWord
  refine zx_aload_n (i := 0) (zd me_X12_isWord 0 rfl) rfl 0 rfl ?_
  refine zx_getI (zd me_X12_isWord 1 rfl) fl_X12_30 (zi12_c h0) rfl ?_
  refine zx_iconst (v := 2) (zd me_X12_isWord 2 rfl) (by decide) ?_
  refine zx_icmp_ne (tgt := 24) (zd me_X12_isWord 3 rfl) (by decide) (fun c1 => ?_) (fun c1 => ?_)
  · refine zx_iconst (v := 0) (zd me_X12_isWord 12 rfl) (by decide) ?_
    exact zx_zret (zd me_X12_isWord 13 rfl) rfl rfl
  · refine zx_aload_n (i := 0) (zd me_X12_isWord 4 rfl) rfl 0 rfl ?_
    refine zx_getL (zd me_X12_isWord 5 rfl) fl_X12_43 (zi12_c h0) rfl ?_
    refine zx_iload_n (i := 1) (zd me_X12_isWord 6 rfl) rfl 1 rfl ?_
    refine zx_callSL1 (zd me_X12_isWord 7 rfl) (mc_X12_wordOf (zl C) i1 M) lk_X12_62 ⟨(Nat.le_of_ble_eq_true rfl), (Nat.le_of_ble_eq_true rfl)⟩ (Nat.le_of_ble_eq_true rfl) (fun r3 M2 => ?_)
    refine zx_lcmp (zd me_X12_isWord 8 rfl) ?_
    refine zx_if_ne (tgt := 24) (zd me_X12_isWord 9 rfl) (by decide) (fun c4 => ?_) (fun c4 => ?_)
    · refine zx_iconst (v := 0) (zd me_X12_isWord 12 rfl) (by decide) ?_
      exact zx_zret (zd me_X12_isWord 13 rfl) rfl rfl
    · refine zx_iconst (v := 1) (zd me_X12_isWord 10 rfl) (by decide) ?_
      refine zx_goto (tgt := 25) (zd me_X12_isWord 11 rfl) (by decide) ?_
      exact zx_zret (zd me_X12_isWord 13 rfl) rfl rfl
def mf_X12_isSign (R : zRR) (a0 : Nat) (i1 : Int32) (M : zMem) : Option (Int32 × zMem) :=
  if (M.1 a0 7) = (4 : Int32) then
    (if (M.1 a0 9) = i1 then
      (some ((1 : Int32), M))
    else
      (some ((0 : Int32), M)))
  else
    (some ((0 : Int32), M))
theorem mc_X12_isSign (l : Launch) {T : zTT} {R : zRR} {a0 : Nat} (h0 : zi12 T R a0) (i1 : Int32) (M : zMem) : zMS l yX12_isSign mi_X12_isSign zrvI (mf_X12_isSign R a0 i1 M) [.ref a0, .int i1] T R M := by
  refine zMS.of (by decide +kernel) rfl ⟨rfl, rfl⟩ (Nat.le_of_ble_eq_true rfl) (fun C ad _ => ?_)
  show zX C mi_X12_isSign (zFin C zrvI ad T R) 0 0 (mf_X12_isSign R a0 i1 M) 0 [(0, .ref a0), (1, .int i1)] [] ad T R M
  unfold mf_X12_isSign
  refine zx_aload_n (i := 0) (zd me_X12_isSign 0 rfl) rfl 0 rfl ?_
  refine zx_getI (zd me_X12_isSign 1 rfl) fl_X12_30 (zi12_c h0) rfl ?_
  refine zx_iconst (v := 4) (zd me_X12_isSign 2 rfl) (by decide) ?_
  refine zx_icmp_ne (tgt := 20) (zd me_X12_isSign 3 rfl) (by decide) (fun c1 => ?_) (fun c1 => ?_)
  · refine zx_iconst (v := 0) (zd me_X12_isSign 10 rfl) (by decide) ?_
    exact zx_zret (zd me_X12_isSign 11 rfl) rfl rfl
  · refine zx_aload_n (i := 0) (zd me_X12_isSign 4 rfl) rfl 0 rfl ?_
    refine zx_getI (zd me_X12_isSign 5 rfl) fl_X12_40 (zi12_c h0) rfl ?_
    refine zx_iload_n (i := 1) (zd me_X12_isSign 6 rfl) rfl 1 rfl ?_
    refine zx_icmp_ne (tgt := 20) (zd me_X12_isSign 7 rfl) (by decide) (fun c2 => ?_) (fun c2 => ?_)
    · refine zx_iconst (v := 0) (zd me_X12_isSign 10 rfl) (by decide) ?_
      exact zx_zret (zd me_X12_isSign 11 rfl) rfl rfl
    · refine zx_iconst (v := 1) (zd me_X12_isSign 8 rfl) (by decide) ?_
      refine zx_goto (tgt := 21) (zd me_X12_isSign 9 rfl) (by decide) ?_
      exact zx_zret (zd me_X12_isSign 11 rfl) rfl rfl
def mf_X12_isName_l12 (R : zRR) (a0 : Nat) : Nat → Int32 → zMem → Option (Int32 × zMem)
  | 0, _, _ => none
  | fuel + 1, i1, M =>
    if (23 : Int32) < i1 then
      (some ((1 : Int32), M))
    else
      (zcl (mf_X12_wordOf R i1 M) fun r4 M3 =>
      if (lg_cmp (M.2 a0 12) r4) = 0 then
        (some ((0 : Int32), M3))
      else
        (mf_X12_isName_l12 R a0 fuel (i1 + 1) M3))
theorem mt_X12_isName_l12 {C : zCx} {ad : Nat → Nat} {T : zTT} {R : zRR} {a0 : Nat} (h0 : zi12 T R a0) : ∀ (fuel : Nat) (i1 : Int32) (M : zMem), zX C mi_X12_isName (zFin C zrvI ad T R) 0 0 (mf_X12_isName_l12 R a0 fuel i1 M) 12 [(0, .ref a0), (1, .int i1)] [] ad T R M := by
  intro fuel
  induction fuel with
  | zero => intros; exact zx_none
  | succ fuel ih =>
    intro i1 M
    rw [mf_X12_isName_l12]
    refine zx_iload_n (i := 1) (zd me_X12_isName 8 rfl) rfl 1 rfl ?_
    refine zx_bipush (v := 23) (zd me_X12_isName 9 rfl) (by decide) ?_
    refine zx_icmp_gt (tgt := 38) (zd me_X12_isName 10 rfl) (by decide) (fun c2 => ?_) (fun c2 => ?_)
    · refine zx_iconst (v := 1) (zd me_X12_isName 21 rfl) (by decide) ?_
      exact zx_zret (zd me_X12_isName 22 rfl) rfl rfl
    · refine zx_aload_n (i := 0) (zd me_X12_isName 11 rfl) rfl 0 rfl ?_
      refine zx_getL (zd me_X12_isName 12 rfl) fl_X12_43 (zi12_c h0) rfl ?_
      refine zx_iload_n (i := 1) (zd me_X12_isName 13 rfl) rfl 1 rfl ?_
      refine zx_callSL1 (zd me_X12_isName 14 rfl) (mc_X12_wordOf (zl C) i1 M) lk_X12_62 ⟨(Nat.le_of_ble_eq_true rfl), (Nat.le_of_ble_eq_true rfl)⟩ (Nat.le_of_ble_eq_true rfl) (fun r4 M3 => ?_)
      refine zx_lcmp (zd me_X12_isName 15 rfl) ?_
      refine zx_if_ne (tgt := 32) (zd me_X12_isName 16 rfl) (by decide) (fun c5 => ?_) (fun c5 => ?_)
      · refine zx_iinc (v := 1) (ls' := [(1, .int (i1 + 1)), (0, .ref a0)]) (zd me_X12_isName 19 rfl) (Nat.le_of_ble_eq_true rfl) 1 rfl (by decide) rfl ?_
        refine zx_goto (tgt := 12) (zd me_X12_isName 20 rfl) (by decide) ?_
        refine zx_loc [1, 0] rfl ?_
        exact ih (i1 + 1) M3
      · refine zx_iconst (v := 0) (zd me_X12_isName 17 rfl) (by decide) ?_
        exact zx_zret (zd me_X12_isName 18 rfl) rfl rfl
def mf_X12_isName (R : zRR) (a0 : Nat) (M : zMem) : Option (Int32 × zMem) :=
  if (M.1 a0 7) = (2 : Int32) then
    (mf_X12_isName_l12 R a0 zF (0 : Int32) M)
  else
    (some ((0 : Int32), M))
theorem mc_X12_isName (l : Launch) {T : zTT} {R : zRR} {a0 : Nat} (h0 : zi12 T R a0) (M : zMem) : zMS l yX12_isName mi_X12_isName zrvI (mf_X12_isName R a0 M) [.ref a0] T R M := by
  refine zMS.of (by decide +kernel) rfl ⟨rfl, rfl⟩ (Nat.le_of_ble_eq_true rfl) (fun C ad _ => ?_)
  show zX C mi_X12_isName (zFin C zrvI ad T R) 0 0 (mf_X12_isName R a0 M) 0 [(0, .ref a0)] [] ad T R M
  unfold mf_X12_isName
  refine zx_aload_n (i := 0) (zd me_X12_isName 0 rfl) rfl 0 rfl ?_
  refine zx_getI (zd me_X12_isName 1 rfl) fl_X12_30 (zi12_c h0) rfl ?_
  refine zx_iconst (v := 2) (zd me_X12_isName 2 rfl) (by decide) ?_
  refine zx_icmp_eq (tgt := 10) (zd me_X12_isName 3 rfl) (by decide) (fun c1 => ?_) (fun c1 => ?_)
  · refine zx_iconst (v := 0) (zd me_X12_isName 6 rfl) (by decide) ?_
    refine zx_istore_n (i := 1) (ls' := [(1, .int (0 : Int32)), (0, .ref a0)]) (zd me_X12_isName 7 rfl) rfl (Nat.le_of_ble_eq_true rfl) rfl ?_
    refine zx_loc [1, 0] rfl ?_
    exact mt_X12_isName_l12 h0 zF (0 : Int32) M
  · refine zx_iconst (v := 0) (zd me_X12_isName 4 rfl) (by decide) ?_
    exact zx_zret (zd me_X12_isName 5 rfl) rfl rfl
def mf_X12_bad_b14 (R : zRR) (a0 : Nat) (s0 : Int32) (M : zMem) : Option (Int32 × zMem) :=
  zlet (zwI M a0 10 s0) fun M2 =>
  zlet (zwI M2 a0 11 (M2.1 a0 6)) fun M3 =>
  some ((0 : Int32), M3)
theorem mt_X12_bad_b14 {C : zCx} {ad : Nat → Nat} {T : zTT} {R : zRR} {a0 : Nat} (h0 : zi12 T R a0) (s0 : Int32) (M : zMem) : zX C mi_X12_bad (zFin C zrvI ad T R) 0 0 (mf_X12_bad_b14 R a0 s0 M) 14 [(0, .ref a0)] [.int s0, .ref a0] ad T R M := by
  unfold mf_X12_bad_b14
  refine zx_putI (zd me_X12_bad 8 rfl) fp_X12_66 (zi12_c h0) rfl (fun M2 _ => ?_)
  refine zx_aload_n (i := 0) (zd me_X12_bad 9 rfl) rfl 0 rfl ?_
  refine zx_aload_n (i := 0) (zd me_X12_bad 10 rfl) rfl 0 rfl ?_
  refine zx_getI (zd me_X12_bad 11 rfl) fl_X12_24 (zi12_c h0) rfl ?_
  refine zx_putI (zd me_X12_bad 12 rfl) fp_X12_69 (zi12_c h0) rfl (fun M3 _ => ?_)
  refine zx_iconst (v := 0) (zd me_X12_bad 13 rfl) (by decide) ?_
  exact zx_zret (zd me_X12_bad 14 rfl) rfl rfl
def mf_X12_bad (R : zRR) (a0 : Nat) (i1 : Int32) (M : zMem) : Option (Int32 × zMem) :=
  if (M.1 a0 7) = (1 : Int32) then
    (mf_X12_bad_b14 R a0 (1 : Int32) M)
  else
    (mf_X12_bad_b14 R a0 i1 M)
theorem mc_X12_bad (l : Launch) {T : zTT} {R : zRR} {a0 : Nat} (h0 : zi12 T R a0) (i1 : Int32) (M : zMem) : zMS l yX12_bad mi_X12_bad zrvI (mf_X12_bad R a0 i1 M) [.ref a0, .int i1] T R M := by
  refine zMS.of (by decide +kernel) rfl ⟨rfl, rfl⟩ (Nat.le_of_ble_eq_true rfl) (fun C ad _ => ?_)
  show zX C mi_X12_bad (zFin C zrvI ad T R) 0 0 (mf_X12_bad R a0 i1 M) 0 [(0, .ref a0), (1, .int i1)] [] ad T R M
  unfold mf_X12_bad
  refine zx_aload_n (i := 0) (zd me_X12_bad 0 rfl) rfl 0 rfl ?_
  refine zx_aload_n (i := 0) (zd me_X12_bad 1 rfl) rfl 0 rfl ?_
  refine zx_getI (zd me_X12_bad 2 rfl) fl_X12_30 (zi12_c h0) rfl ?_
  refine zx_iconst (v := 1) (zd me_X12_bad 3 rfl) (by decide) ?_
  refine zx_icmp_ne (tgt := 13) (zd me_X12_bad 4 rfl) (by decide) (fun c1 => ?_) (fun c1 => ?_)
  · refine zx_iload_n (i := 1) (zd me_X12_bad 7 rfl) rfl 1 rfl ?_
    refine zx_loc [0] rfl ?_
    exact mt_X12_bad_b14 h0 i1 M
  · refine zx_iconst (v := 1) (zd me_X12_bad 5 rfl) (by decide) ?_
    refine zx_goto (tgt := 14) (zd me_X12_bad 6 rfl) (by decide) ?_
    refine zx_loc [0] rfl ?_
    exact mt_X12_bad_b14 h0 (1 : Int32) M
def mf_X12_readNumber (R : zRR) (a0 : Nat) (i1 : Int32) (i2 : Int32) (M : zMem) : Option (Int32 × zMem) :=
  if (M.1 a0 7) = (3 : Int32) then
    (zcl (mf_X12_isIn R (M.1 a0 8) i1 i2 M) fun r3 M2 =>
    if r3 = 0 then
      (zcl (mf_X12_bad R a0 (2 : Int32) M2) fun r9 M8 =>
      zchk (r9 = 0 ∨ r9 = 1) (some (r9, M8)))
    else
      (zlet (zwI M2 a0 13 (M2.1 a0 8)) fun M5 =>
      zcl (mf_X12_go R a0 M5) fun _ M6 =>
      some ((1 : Int32), M6)))
  else
    (zcl (mf_X12_bad R a0 (1 : Int32) M) fun r11 M10 =>
    zchk (r11 = 0 ∨ r11 = 1) (some (r11, M10)))
theorem mc_X12_readNumber (l : Launch) {T : zTT} {R : zRR} {a0 : Nat} (h0 : zi12 T R a0) (i1 : Int32) (i2 : Int32) (M : zMem) : zMS l yX12_readNumber mi_X12_readNumber zrvI (mf_X12_readNumber R a0 i1 i2 M) [.ref a0, .int i1, .int i2] T R M := by
  refine zMS.of (by decide +kernel) rfl ⟨rfl, rfl⟩ (Nat.le_of_ble_eq_true rfl) (fun C ad _ => ?_)
  show zX C mi_X12_readNumber (zFin C zrvI ad T R) 0 0 (mf_X12_readNumber R a0 i1 i2 M) 0 [(0, .ref a0), (1, .int i1), (2, .int i2)] [] ad T R M
  unfold mf_X12_readNumber
  refine zx_aload_n (i := 0) (zd me_X12_readNumber 0 rfl) rfl 0 rfl ?_
  refine zx_getI (zd me_X12_readNumber 1 rfl) fl_X12_30 (zi12_c h0) rfl ?_
  refine zx_iconst (v := 3) (zd me_X12_readNumber 2 rfl) (by decide) ?_
  refine zx_icmp_eq (tgt := 14) (zd me_X12_readNumber 3 rfl) (by decide) (fun c1 => ?_) (fun c1 => ?_)
  · refine zx_aload_n (i := 0) (zd me_X12_readNumber 8 rfl) rfl 0 rfl ?_
    refine zx_getI (zd me_X12_readNumber 9 rfl) fl_X12_47 (zi12_c h0) rfl ?_
    refine zx_iload_n (i := 1) (zd me_X12_readNumber 10 rfl) rfl 1 rfl ?_
    refine zx_iload_n (i := 2) (zd me_X12_readNumber 11 rfl) rfl 2 rfl ?_
    refine zx_callSI3 (zd me_X12_readNumber 12 rfl) (mc_X12_isIn (zl C) (M.1 a0 8) i1 i2 M) lk_X12_75 ⟨(Nat.le_of_ble_eq_true rfl), (Nat.le_of_ble_eq_true rfl)⟩ (Nat.le_of_ble_eq_true rfl) (fun r3 M2 => ?_)
    refine zx_if_ne (tgt := 32) (zd me_X12_readNumber 13 rfl) (by decide) (fun c4 => ?_) (fun c4 => ?_)
    · refine zx_aload_n (i := 0) (zd me_X12_readNumber 18 rfl) rfl 0 rfl ?_
      refine zx_aload_n (i := 0) (zd me_X12_readNumber 19 rfl) rfl 0 rfl ?_
      refine zx_getI (zd me_X12_readNumber 20 rfl) fl_X12_47 (zi12_c h0) rfl ?_
      refine zx_putI (zd me_X12_readNumber 21 rfl) fp_X12_79 (zi12_c h0) rfl (fun M5 _ => ?_)
      refine zx_aload_n (i := 0) (zd me_X12_readNumber 22 rfl) rfl 0 rfl ?_
      refine zx_callVV0 (zd me_X12_readNumber 23 rfl) (mc_X12_go (zl C) h0 M5) lk_X12_82 ⟨(Nat.le_of_ble_eq_true rfl), (Nat.le_of_ble_eq_true rfl)⟩ (Nat.le_of_ble_eq_true rfl) (zi12_c h0) rfl (fun r7 M6 => ?_)
      refine zx_iconst (v := 1) (zd me_X12_readNumber 24 rfl) (by decide) ?_
      exact zx_zret (zd me_X12_readNumber 25 rfl) rfl rfl
    · refine zx_aload_n (i := 0) (zd me_X12_readNumber 14 rfl) rfl 0 rfl ?_
      refine zx_iconst (v := 2) (zd me_X12_readNumber 15 rfl) (by decide) ?_
      refine zx_callVI1 (zd me_X12_readNumber 16 rfl) (mc_X12_bad (zl C) h0 (2 : Int32) M2) lk_X12_72 ⟨(Nat.le_of_ble_eq_true rfl), (Nat.le_of_ble_eq_true rfl)⟩ (Nat.le_of_ble_eq_true rfl) (zi12_c h0) rfl (fun r9 M8 => ?_)
      exact zx_zretC (zd me_X12_readNumber 17 rfl) rfl
  · refine zx_aload_n (i := 0) (zd me_X12_readNumber 4 rfl) rfl 0 rfl ?_
    refine zx_iconst (v := 1) (zd me_X12_readNumber 5 rfl) (by decide) ?_
    refine zx_callVI1 (zd me_X12_readNumber 6 rfl) (mc_X12_bad (zl C) h0 (1 : Int32) M) lk_X12_72 ⟨(Nat.le_of_ble_eq_true rfl), (Nat.le_of_ble_eq_true rfl)⟩ (Nat.le_of_ble_eq_true rfl) (zi12_c h0) rfl (fun r11 M10 => ?_)
    exact zx_zretC (zd me_X12_readNumber 7 rfl) rfl
def mf_X12_readEnd (R : zRR) (a0 : Nat) (M : zMem) : Option (Int32 × zMem) :=
  zcl (mf_X12_isSign R a0 (59 : Int32) M) fun r2 M1 =>
  if r2 = 0 then
    (zcl (mf_X12_bad R a0 (1 : Int32) M1) fun r7 M6 =>
    zchk (r7 = 0 ∨ r7 = 1) (some (r7, M6)))
  else
    (zcl (mf_X12_go R a0 M1) fun _ M4 =>
    some ((1 : Int32), M4))
theorem mc_X12_readEnd (l : Launch) {T : zTT} {R : zRR} {a0 : Nat} (h0 : zi12 T R a0) (M : zMem) : zMS l yX12_readEnd mi_X12_readEnd zrvI (mf_X12_readEnd R a0 M) [.ref a0] T R M := by
  refine zMS.of (by decide +kernel) rfl ⟨rfl, rfl⟩ (Nat.le_of_ble_eq_true rfl) (fun C ad _ => ?_)
  show zX C mi_X12_readEnd (zFin C zrvI ad T R) 0 0 (mf_X12_readEnd R a0 M) 0 [(0, .ref a0)] [] ad T R M
  unfold mf_X12_readEnd
  refine zx_aload_n (i := 0) (zd me_X12_readEnd 0 rfl) rfl 0 rfl ?_
  refine zx_bipush (v := 59) (zd me_X12_readEnd 1 rfl) (by decide) ?_
  refine zx_callVI1 (zd me_X12_readEnd 2 rfl) (mc_X12_isSign (zl C) h0 (59 : Int32) M) lk_X12_86 ⟨(Nat.le_of_ble_eq_true rfl), (Nat.le_of_ble_eq_true rfl)⟩ (Nat.le_of_ble_eq_true rfl) (zi12_c h0) rfl (fun r2 M1 => ?_)
  refine zx_if_ne (tgt := 15) (zd me_X12_readEnd 3 rfl) (by decide) (fun c3 => ?_) (fun c3 => ?_)
  · refine zx_aload_n (i := 0) (zd me_X12_readEnd 8 rfl) rfl 0 rfl ?_
    refine zx_callVV0 (zd me_X12_readEnd 9 rfl) (mc_X12_go (zl C) h0 M1) lk_X12_82 ⟨(Nat.le_of_ble_eq_true rfl), (Nat.le_of_ble_eq_true rfl)⟩ (Nat.le_of_ble_eq_true rfl) (zi12_c h0) rfl (fun r5 M4 => ?_)
    refine zx_iconst (v := 1) (zd me_X12_readEnd 10 rfl) (by decide) ?_
    exact zx_zret (zd me_X12_readEnd 11 rfl) rfl rfl
  · refine zx_aload_n (i := 0) (zd me_X12_readEnd 4 rfl) rfl 0 rfl ?_
    refine zx_iconst (v := 1) (zd me_X12_readEnd 5 rfl) (by decide) ?_
    refine zx_callVI1 (zd me_X12_readEnd 6 rfl) (mc_X12_bad (zl C) h0 (1 : Int32) M1) lk_X12_72 ⟨(Nat.le_of_ble_eq_true rfl), (Nat.le_of_ble_eq_true rfl)⟩ (Nat.le_of_ble_eq_true rfl) (zi12_c h0) rfl (fun r7 M6 => ?_)
    exact zx_zretC (zd me_X12_readEnd 7 rfl) rfl
def mf_X12_begin (R : zRR) (a0 : Nat) (i1 : Int32) (M : zMem) : Option (Unit × zMem) :=
  zlet (zwI M a0 0 (0 : Int32)) fun M1 =>
  zcl (mf_X12_take R a0 M1) fun r3 M2 =>
  zlet (zwI M2 a0 3 r3) fun M4 =>
  zlet (zwI M4 a0 4 i1) fun M5 =>
  zlet (zwI M5 a0 10 (0 : Int32)) fun M6 =>
  zlet (zwI M6 a0 5 (0 : Int32)) fun M7 =>
  zcl (mf_X12_go R a0 M7) fun _ M8 =>
  some ((), M8)
theorem mc_X12_begin (l : Launch) {T : zTT} {R : zRR} {a0 : Nat} (h0 : zi12 T R a0) (i1 : Int32) (M : zMem) : zMS l yX12_begin mi_X12_begin zrvV (mf_X12_begin R a0 i1 M) [.ref a0, .int i1] T R M := by
  refine zMS.of (by decide +kernel) rfl ⟨rfl, rfl⟩ (Nat.le_of_ble_eq_true rfl) (fun C ad _ => ?_)
  show zX C mi_X12_begin (zFin C zrvV ad T R) 0 0 (mf_X12_begin R a0 i1 M) 0 [(0, .ref a0), (1, .int i1)] [] ad T R M
  unfold mf_X12_begin
  refine zx_aload_n (i := 0) (zd me_X12_begin 0 rfl) rfl 0 rfl ?_
  refine zx_iconst (v := 0) (zd me_X12_begin 1 rfl) (by decide) ?_
  refine zx_putI (zd me_X12_begin 2 rfl) fp_X12_1 (zi12_c h0) rfl (fun M1 _ => ?_)
  refine zx_aload_n (i := 0) (zd me_X12_begin 3 rfl) rfl 0 rfl ?_
  refine zx_aload_n (i := 0) (zd me_X12_begin 4 rfl) rfl 0 rfl ?_
  refine zx_callVI0 (zd me_X12_begin 5 rfl) (mc_X12_take (zl C) h0 M1) lk_X12_89 ⟨(Nat.le_of_ble_eq_true rfl), (Nat.le_of_ble_eq_true rfl)⟩ (Nat.le_of_ble_eq_true rfl) (zi12_c h0) rfl (fun r3 M2 => ?_)
  refine zx_putI (zd me_X12_begin 6 rfl) fp_X12_18 (zi12_c h0) rfl (fun M4 _ => ?_)
  refine zx_aload_n (i := 0) (zd me_X12_begin 7 rfl) rfl 0 rfl ?_
  refine zx_iload_n (i := 1) (zd me_X12_begin 8 rfl) rfl 1 rfl ?_
  refine zx_putI (zd me_X12_begin 9 rfl) fp_X12_27 (zi12_c h0) rfl (fun M5 _ => ?_)
  refine zx_aload_n (i := 0) (zd me_X12_begin 10 rfl) rfl 0 rfl ?_
  refine zx_iconst (v := 0) (zd me_X12_begin 11 rfl) (by decide) ?_
  refine zx_putI (zd me_X12_begin 12 rfl) fp_X12_66 (zi12_c h0) rfl (fun M6 _ => ?_)
  refine zx_aload_n (i := 0) (zd me_X12_begin 13 rfl) rfl 0 rfl ?_
  refine zx_iconst (v := 0) (zd me_X12_begin 14 rfl) (by decide) ?_
  refine zx_putI (zd me_X12_begin 15 rfl) fp_X12_21 (zi12_c h0) rfl (fun M7 _ => ?_)
  refine zx_aload_n (i := 0) (zd me_X12_begin 16 rfl) rfl 0 rfl ?_
  refine zx_callVV0 (zd me_X12_begin 17 rfl) (mc_X12_go (zl C) h0 M7) lk_X12_82 ⟨(Nat.le_of_ble_eq_true rfl), (Nat.le_of_ble_eq_true rfl)⟩ (Nat.le_of_ble_eq_true rfl) (zi12_c h0) rfl (fun r9 M8 => ?_)
  exact zx_vret (zd me_X12_begin 18 rfl) rfl
def mf_X12_startSo_l38 (R : zRR) (a0 : Nat) : Nat → Int32 → zMem → Option (Unit × zMem)
  | 0, _, _ => none
  | fuel + 1, i1, M =>
    if (8 : Int32) ≤ i1 then
      (some ((), M))
    else
      (zald 354 ((72 : Int32) + i1) fun j8 =>
      zlet (zwI M (zrf R a0 14) j8 (-1 : Int32)) fun M9 =>
      mf_X12_startSo_l38 R a0 fuel (i1 + 1) M9)
theorem mt_X12_startSo_l38 {C : zCx} {ad : Nat → Nat} {T : zTT} {R : zRR} {a0 : Nat} (h0 : zi12 T R a0) : ∀ (fuel : Nat) (i1 : Int32) (M : zMem), zX C mi_X12_startSo (zFin C zrvV ad T R) 0 0 (mf_X12_startSo_l38 R a0 fuel i1 M) 38 [(0, .ref a0), (1, .int i1)] [] ad T R M := by
  intro fuel
  induction fuel with
  | zero => intros; exact zx_none
  | succ fuel ih =>
    intro i1 M
    rw [mf_X12_startSo_l38]
    refine zx_iload_n (i := 1) (zd me_X12_startSo 22 rfl) rfl 1 rfl ?_
    refine zx_bipush (v := 8) (zd me_X12_startSo 23 rfl) (by decide) ?_
    refine zx_icmp_ge (tgt := 60) (zd me_X12_startSo 24 rfl) (by decide) (fun c7 => ?_) (fun c7 => ?_)
    · exact zx_vret (zd me_X12_startSo 34 rfl) rfl
    · refine zx_aload_n (i := 0) (zd me_X12_startSo 25 rfl) rfl 0 rfl ?_
      refine zx_getR (zd me_X12_startSo 26 rfl) fl_X12_98 (zi12_c h0) rfl (zi12_r14 h0) ?_
      refine zx_bipush (v := 72) (zd me_X12_startSo 27 rfl) (by decide) ?_
      refine zx_iload_n (i := 1) (zd me_X12_startSo 28 rfl) rfl 1 rfl ?_
      refine zx_iadd (zd me_X12_startSo 29 rfl) ?_
      refine zx_iconst (v := (-1)) (zd me_X12_startSo 30 rfl) (by decide) ?_
      refine zx_iast (zd me_X12_startSo 31 rfl) (zi12_t14 h0) (fun M9 => ?_)
      refine zx_iinc (v := 1) (ls' := [(1, .int (i1 + 1)), (0, .ref a0)]) (zd me_X12_startSo 32 rfl) (Nat.le_of_ble_eq_true rfl) 1 rfl (by decide) rfl ?_
      refine zx_goto (tgt := 38) (zd me_X12_startSo 33 rfl) (by decide) ?_
      refine zx_loc [1, 0] rfl ?_
      exact ih (i1 + 1) M9
def mf_X12_startSo_l3 (R : zRR) (a0 : Nat) : Nat → Int32 → zMem → Option (Unit × zMem)
  | 0, _, _ => none
  | fuel + 1, i1, M =>
    if (354 : Int32) ≤ i1 then
      (zald 354 (5 : Int32) fun j2 =>
      zald 354 (57 : Int32) fun j3 =>
      zlet (zwI M (zrf R a0 14) j3 (M.1 (zrf R a0 14) j2)) fun M4 =>
      mf_X12_startSo_l38 R a0 zF (0 : Int32) M4)
    else
      (zald 354 i1 fun j5 =>
      zlet (zwI M (zrf R a0 14) j5 (0 : Int32)) fun M6 =>
      mf_X12_startSo_l3 R a0 fuel (i1 + 1) M6)
theorem mt_X12_startSo_l3 {C : zCx} {ad : Nat → Nat} {T : zTT} {R : zRR} {a0 : Nat} (h0 : zi12 T R a0) : ∀ (fuel : Nat) (i1 : Int32) (M : zMem), zX C mi_X12_startSo (zFin C zrvV ad T R) 0 0 (mf_X12_startSo_l3 R a0 fuel i1 M) 3 [(0, .ref a0), (1, .int i1)] [] ad T R M := by
  intro fuel
  induction fuel with
  | zero => intros; exact zx_none
  | succ fuel ih =>
    intro i1 M
    rw [mf_X12_startSo_l3]
    refine zx_iload_n (i := 1) (zd me_X12_startSo 2 rfl) rfl 1 rfl ?_
    refine zx_sipush (v := 354) (zd me_X12_startSo 3 rfl) (by decide) ?_
    refine zx_icmp_ge (tgt := 23) (zd me_X12_startSo 4 rfl) (by decide) (fun c1 => ?_) (fun c1 => ?_)
    · refine zx_aload_n (i := 0) (zd me_X12_startSo 12 rfl) rfl 0 rfl ?_
      refine zx_getR (zd me_X12_startSo 13 rfl) fl_X12_98 (zi12_c h0) rfl (zi12_r14 h0) ?_
      refine zx_bipush (v := 57) (zd me_X12_startSo 14 rfl) (by decide) ?_
      refine zx_aload_n (i := 0) (zd me_X12_startSo 15 rfl) rfl 0 rfl ?_
      refine zx_getR (zd me_X12_startSo 16 rfl) fl_X12_98 (zi12_c h0) rfl (zi12_r14 h0) ?_
      refine zx_iconst (v := 5) (zd me_X12_startSo 17 rfl) (by decide) ?_
      refine zx_iald (zd me_X12_startSo 18 rfl) (zi12_t14 h0) (fun j2 hj2 => ?_)
      refine zx_iast (zd me_X12_startSo 19 rfl) (zi12_t14 h0) (fun M4 => ?_)
      refine zx_iconst (v := 0) (zd me_X12_startSo 20 rfl) (by decide) ?_
      refine zx_istore_n (i := 1) (ls' := [(1, .int (0 : Int32)), (0, .ref a0)]) (zd me_X12_startSo 21 rfl) rfl (Nat.le_of_ble_eq_true rfl) rfl ?_
      refine zx_loc [1, 0] rfl ?_
      exact mt_X12_startSo_l38 h0 zF (0 : Int32) M4
    · refine zx_aload_n (i := 0) (zd me_X12_startSo 5 rfl) rfl 0 rfl ?_
      refine zx_getR (zd me_X12_startSo 6 rfl) fl_X12_98 (zi12_c h0) rfl (zi12_r14 h0) ?_
      refine zx_iload_n (i := 1) (zd me_X12_startSo 7 rfl) rfl 1 rfl ?_
      refine zx_iconst (v := 0) (zd me_X12_startSo 8 rfl) (by decide) ?_
      refine zx_iast (zd me_X12_startSo 9 rfl) (zi12_t14 h0) (fun M6 => ?_)
      refine zx_iinc (v := 1) (ls' := [(1, .int (i1 + 1)), (0, .ref a0)]) (zd me_X12_startSo 10 rfl) (Nat.le_of_ble_eq_true rfl) 1 rfl (by decide) rfl ?_
      refine zx_goto (tgt := 3) (zd me_X12_startSo 11 rfl) (by decide) ?_
      refine zx_loc [1, 0] rfl ?_
      exact ih (i1 + 1) M6
def mf_X12_startSo (R : zRR) (a0 : Nat) (M : zMem) : Option (Unit × zMem) :=
  mf_X12_startSo_l3 R a0 zF (56 : Int32) M
theorem mc_X12_startSo (l : Launch) {T : zTT} {R : zRR} {a0 : Nat} (h0 : zi12 T R a0) (M : zMem) : zMS l yX12_startSo mi_X12_startSo zrvV (mf_X12_startSo R a0 M) [.ref a0] T R M := by
  refine zMS.of (by decide +kernel) rfl ⟨rfl, rfl⟩ (Nat.le_of_ble_eq_true rfl) (fun C ad _ => ?_)
  show zX C mi_X12_startSo (zFin C zrvV ad T R) 0 0 (mf_X12_startSo R a0 M) 0 [(0, .ref a0)] [] ad T R M
  unfold mf_X12_startSo
  refine zx_bipush (v := 56) (zd me_X12_startSo 0 rfl) (by decide) ?_
  refine zx_istore_n (i := 1) (ls' := [(1, .int (56 : Int32)), (0, .ref a0)]) (zd me_X12_startSo 1 rfl) rfl (Nat.le_of_ble_eq_true rfl) rfl ?_
  refine zx_loc [1, 0] rfl ?_
  exact mt_X12_startSo_l3 h0 zF (56 : Int32) M
def mf_X12_findIn_l3 (R : zRR) (a0 n0 : Nat) : Nat → Int32 → Int32 → Int64 → Int32 → zMem → Option (Int32 × zMem)
  | 0, _, _, _, _, _ => none
  | fuel + 1, i1, i2, l3, i5, M =>
    if i2 ≤ i5 then
      (some ((-1 : Int32), M))
    else
      (zald n0 (i1 + i5) fun j2 =>
      if (lg_cmp (M.2 a0 j2) l3) = 0 then
        (some (i5, M))
      else
        (mf_X12_findIn_l3 R a0 n0 fuel i1 i2 l3 (i5 + 1) M))
theorem mt_X12_findIn_l3 {C : zCx} {ad : Nat → Nat} {T : zTT} {R : zRR} {a0 n0 : Nat} (h0 : T[a0]? = some (2, n0)) : ∀ (fuel : Nat) (i1 : Int32) (i2 : Int32) (l3 : Int64) (i5 : Int32) (M : zMem), zX C mi_X12_findIn (zFin C zrvI ad T R) 0 0 (mf_X12_findIn_l3 R a0 n0 fuel i1 i2 l3 i5 M) 3 [(0, .ref a0), (1, .int i1), (2, .int i2), (3, .long l3), (5, .int i5)] [] ad T R M := by
  intro fuel
  induction fuel with
  | zero => intros; exact zx_none
  | succ fuel ih =>
    intro i1 i2 l3 i5 M
    rw [mf_X12_findIn_l3]
    refine zx_iload (zd me_X12_findIn 2 rfl) 4 rfl ?_
    refine zx_iload_n (i := 2) (zd me_X12_findIn 3 rfl) rfl 2 rfl ?_
    refine zx_icmp_ge (tgt := 29) (zd me_X12_findIn 4 rfl) (by decide) (fun c1 => ?_) (fun c1 => ?_)
    · refine zx_iconst (v := (-1)) (zd me_X12_findIn 17 rfl) (by decide) ?_
      exact zx_iret (zd me_X12_findIn 18 rfl) rfl
    · refine zx_aload_n (i := 0) (zd me_X12_findIn 5 rfl) rfl 0 rfl ?_
      refine zx_iload_n (i := 1) (zd me_X12_findIn 6 rfl) rfl 1 rfl ?_
      refine zx_iload (zd me_X12_findIn 7 rfl) 4 rfl ?_
      refine zx_iadd (zd me_X12_findIn 8 rfl) ?_
      refine zx_lald (zd me_X12_findIn 9 rfl) h0 (fun j2 hj2 => ?_)
      refine zx_lload_n (i := 3) (zd me_X12_findIn 10 rfl) rfl 3 rfl ?_
      refine zx_lcmp (zd me_X12_findIn 11 rfl) ?_
      refine zx_if_ne (tgt := 23) (zd me_X12_findIn 12 rfl) (by decide) (fun c3 => ?_) (fun c3 => ?_)
      · refine zx_iinc (v := 1) (ls' := [(5, .int (i5 + 1)), (0, .ref a0), (1, .int i1), (2, .int i2), (3, .long l3)]) (zd me_X12_findIn 15 rfl) (Nat.le_of_ble_eq_true rfl) 4 rfl (by decide) rfl ?_
        refine zx_goto (tgt := 3) (zd me_X12_findIn 16 rfl) (by decide) ?_
        refine zx_loc [1, 2, 3, 4, 0] rfl ?_
        exact ih i1 i2 l3 (i5 + 1) M
      · refine zx_iload (zd me_X12_findIn 13 rfl) 4 rfl ?_
        exact zx_iret (zd me_X12_findIn 14 rfl) rfl
def mf_X12_findIn (R : zRR) (a0 n0 : Nat) (i1 : Int32) (i2 : Int32) (l3 : Int64) (M : zMem) : Option (Int32 × zMem) :=
  mf_X12_findIn_l3 R a0 n0 zF i1 i2 l3 (0 : Int32) M
theorem mc_X12_findIn (l : Launch) {T : zTT} {R : zRR} {a0 n0 : Nat} (h0 : T[a0]? = some (2, n0)) (i1 : Int32) (i2 : Int32) (l3 : Int64) (M : zMem) : zMS l yX12_findIn mi_X12_findIn zrvI (mf_X12_findIn R a0 n0 i1 i2 l3 M) [.ref a0, .int i1, .int i2, .long l3] T R M := by
  refine zMS.of (by decide +kernel) rfl ⟨rfl, rfl⟩ (Nat.le_of_ble_eq_true rfl) (fun C ad _ => ?_)
  show zX C mi_X12_findIn (zFin C zrvI ad T R) 0 0 (mf_X12_findIn R a0 n0 i1 i2 l3 M) 0 [(0, .ref a0), (1, .int i1), (2, .int i2), (3, .long l3)] [] ad T R M
  unfold mf_X12_findIn
  refine zx_iconst (v := 0) (zd me_X12_findIn 0 rfl) (by decide) ?_
  refine zx_istore (ls' := [(5, .int (0 : Int32)), (0, .ref a0), (1, .int i1), (2, .int i2), (3, .long l3)]) (zd me_X12_findIn 1 rfl) (Nat.le_of_ble_eq_true rfl) rfl ?_
  refine zx_loc [1, 2, 3, 4, 0] rfl ?_
  exact mt_X12_findIn_l3 h0 zF i1 i2 l3 (0 : Int32) M
def mf_X12_readNew_b91 (R : zRR) (a0 : Nat) (M : zMem) : Option (Int32 × zMem) :=
  zcl (mf_X12_bad R a0 (3 : Int32) M) fun r24 M23 =>
  zchk (r24 = 0 ∨ r24 = 1) (some (r24, M23))
theorem mt_X12_readNew_b91 {C : zCx} {ad : Nat → Nat} {T : zTT} {R : zRR} {a0 : Nat} (h0 : zi12 T R a0) (M : zMem) : zX C mi_X12_readNew (zFin C zrvI ad T R) 0 0 (mf_X12_readNew_b91 R a0 M) 91 [(0, .ref a0)] [] ad T R M := by
  unfold mf_X12_readNew_b91
  refine zx_aload_n (i := 0) (zd me_X12_readNew 49 rfl) rfl 0 rfl ?_
  refine zx_iconst (v := 3) (zd me_X12_readNew 50 rfl) (by decide) ?_
  refine zx_callVI1 (zd me_X12_readNew 51 rfl) (mc_X12_bad (zl C) h0 (3 : Int32) M) lk_X12_72 ⟨(Nat.le_of_ble_eq_true rfl), (Nat.le_of_ble_eq_true rfl)⟩ (Nat.le_of_ble_eq_true rfl) (zi12_c h0) rfl (fun r24 M23 => ?_)
  exact zx_zretC (zd me_X12_readNew 52 rfl) rfl
def mf_X12_readNew_b63 (R : zRR) (a0 : Nat) (i1 : Int32) (s0 : Int32) (M : zMem) : Option (Int32 × zMem) :=
  if s0 = 0 then
    (zald 56 (2 : Int32) fun j15 =>
    zcl (mf_X12_findIn R (zrf R a0 22) 19 (11 : Int32) (M.1 (zrf R a0 15) j15) (M.2 a0 12) M) fun r17 M16 =>
    if r17 = (-1 : Int32) then
      (zald 19 i1 fun j19 =>
      zlet (zwL M16 (zrf R a0 22) j19 (M16.2 a0 12)) fun M20 =>
      zcl (mf_X12_go R a0 M20) fun _ M21 =>
      some ((1 : Int32), M21))
    else
      (mf_X12_readNew_b91 R a0 M16))
  else
    (mf_X12_readNew_b91 R a0 M)
theorem mt_X12_readNew_b63 {C : zCx} {ad : Nat → Nat} {T : zTT} {R : zRR} {a0 : Nat} (h0 : zi12 T R a0) (i1 : Int32) (s0 : Int32) (M : zMem) : zX C mi_X12_readNew (zFin C zrvI ad T R) 0 0 (mf_X12_readNew_b63 R a0 i1 s0 M) 63 [(0, .ref a0), (1, .int i1)] [.int s0] ad T R M := by
  unfold mf_X12_readNew_b63
  refine zx_istore_n (i := 2) (ls' := [(2, .int s0), (0, .ref a0), (1, .int i1)]) (zd me_X12_readNew 34 rfl) rfl (Nat.le_of_ble_eq_true rfl) rfl ?_
  refine zx_iload_n (i := 2) (zd me_X12_readNew 35 rfl) rfl 0 rfl ?_
  refine zx_if_ne (tgt := 91) (zd me_X12_readNew 36 rfl) (by decide) (fun c14 => ?_) (fun c14 => ?_)
  · refine zx_loc [1] rfl ?_
    exact mt_X12_readNew_b91 h0 M
  · refine zx_aload_n (i := 0) (zd me_X12_readNew 37 rfl) rfl 1 rfl ?_
    refine zx_getR (zd me_X12_readNew 38 rfl) fl_X12_123 (zi12_c h0) rfl (zi12_r22 h0) ?_
    refine zx_bipush (v := 11) (zd me_X12_readNew 39 rfl) (by decide) ?_
    refine zx_aload_n (i := 0) (zd me_X12_readNew 40 rfl) rfl 1 rfl ?_
    refine zx_getR (zd me_X12_readNew 41 rfl) fl_X12_101 (zi12_c h0) rfl (zi12_r15 h0) ?_
    refine zx_iconst (v := 2) (zd me_X12_readNew 42 rfl) (by decide) ?_
    refine zx_iald (zd me_X12_readNew 43 rfl) (zi12_t15 h0) (fun j15 hj15 => ?_)
    refine zx_aload_n (i := 0) (zd me_X12_readNew 44 rfl) rfl 1 rfl ?_
    refine zx_getL (zd me_X12_readNew 45 rfl) fl_X12_43 (zi12_c h0) rfl ?_
    refine zx_callSI4 (zd me_X12_readNew 46 rfl) (mc_X12_findIn (zl C) (zi12_t22 h0) (11 : Int32) (M.1 (zrf R a0 15) j15) (M.2 a0 12) M) lk_X12_179 ⟨(Nat.le_of_ble_eq_true rfl), (Nat.le_of_ble_eq_true rfl)⟩ (Nat.le_of_ble_eq_true rfl) (fun r17 M16 => ?_)
    refine zx_iconst (v := (-1)) (zd me_X12_readNew 47 rfl) (by decide) ?_
    refine zx_icmp_eq (tgt := 97) (zd me_X12_readNew 48 rfl) (by decide) (fun c18 => ?_) (fun c18 => ?_)
    · refine zx_aload_n (i := 0) (zd me_X12_readNew 53 rfl) rfl 1 rfl ?_
      refine zx_getR (zd me_X12_readNew 54 rfl) fl_X12_123 (zi12_c h0) rfl (zi12_r22 h0) ?_
      refine zx_iload_n (i := 1) (zd me_X12_readNew 55 rfl) rfl 2 rfl ?_
      refine zx_aload_n (i := 0) (zd me_X12_readNew 56 rfl) rfl 1 rfl ?_
      refine zx_getL (zd me_X12_readNew 57 rfl) fl_X12_43 (zi12_c h0) rfl ?_
      refine zx_last (zd me_X12_readNew 58 rfl) (zi12_t22 h0) (fun M20 => ?_)
      refine zx_aload_n (i := 0) (zd me_X12_readNew 59 rfl) rfl 1 rfl ?_
      refine zx_callVV0 (zd me_X12_readNew 60 rfl) (mc_X12_go (zl C) h0 M20) lk_X12_82 ⟨(Nat.le_of_ble_eq_true rfl), (Nat.le_of_ble_eq_true rfl)⟩ (Nat.le_of_ble_eq_true rfl) (zi12_c h0) rfl (fun r22 M21 => ?_)
      refine zx_iconst (v := 1) (zd me_X12_readNew 61 rfl) (by decide) ?_
      exact zx_zret (zd me_X12_readNew 62 rfl) rfl rfl
    · refine zx_loc [1] rfl ?_
      exact mt_X12_readNew_b91 h0 M16
def mf_X12_readNew_b58 (R : zRR) (a0 : Nat) (i1 : Int32) (M : zMem) : Option (Int32 × zMem) :=
  mf_X12_readNew_b63 R a0 i1 (1 : Int32) M
theorem mt_X12_readNew_b58 {C : zCx} {ad : Nat → Nat} {T : zTT} {R : zRR} {a0 : Nat} (h0 : zi12 T R a0) (i1 : Int32) (M : zMem) : zX C mi_X12_readNew (zFin C zrvI ad T R) 0 0 (mf_X12_readNew_b58 R a0 i1 M) 58 [(0, .ref a0), (1, .int i1)] [] ad T R M := by
  unfold mf_X12_readNew_b58
  refine zx_iconst (v := 1) (zd me_X12_readNew 31 rfl) (by decide) ?_
  refine zx_goto (tgt := 63) (zd me_X12_readNew 32 rfl) (by decide) ?_
  exact mt_X12_readNew_b63 h0 i1 (1 : Int32) M
def mf_X12_readNew (R : zRR) (a0 : Nat) (i1 : Int32) (M : zMem) : Option (Int32 × zMem) :=
  zcl (mf_X12_isName R a0 M) fun r2 M1 =>
  if r2 = 0 then
    (zcl (mf_X12_bad R a0 (1 : Int32) M1) fun r13 M12 =>
    zchk (r13 = 0 ∨ r13 = 1) (some (r13, M12)))
  else
    (zald 56 (0 : Int32) fun j4 =>
    zcl (mf_X12_findIn R (zrf R a0 22) 19 (0 : Int32) (M1.1 (zrf R a0 15) j4) (M1.2 a0 12) M1) fun r6 M5 =>
    if r6 = (-1 : Int32) then
      (zald 56 (1 : Int32) fun j8 =>
      zcl (mf_X12_findIn R (zrf R a0 22) 19 (6 : Int32) (M5.1 (zrf R a0 15) j8) (M5.2 a0 12) M5) fun r10 M9 =>
      if r10 = (-1 : Int32) then
        (mf_X12_readNew_b63 R a0 i1 (0 : Int32) M9)
      else
        (mf_X12_readNew_b58 R a0 i1 M9))
    else
      (mf_X12_readNew_b58 R a0 i1 M5))
theorem mc_X12_readNew (l : Launch) {T : zTT} {R : zRR} {a0 : Nat} (h0 : zi12 T R a0) (i1 : Int32) (M : zMem) : zMS l yX12_readNew mi_X12_readNew zrvI (mf_X12_readNew R a0 i1 M) [.ref a0, .int i1] T R M := by
  refine zMS.of (by decide +kernel) rfl ⟨rfl, rfl⟩ (Nat.le_of_ble_eq_true rfl) (fun C ad _ => ?_)
  show zX C mi_X12_readNew (zFin C zrvI ad T R) 0 0 (mf_X12_readNew R a0 i1 M) 0 [(0, .ref a0), (1, .int i1)] [] ad T R M
  unfold mf_X12_readNew
  refine zx_aload_n (i := 0) (zd me_X12_readNew 0 rfl) rfl 0 rfl ?_
  refine zx_callVI0 (zd me_X12_readNew 1 rfl) (mc_X12_isName (zl C) h0 M) lk_X12_175 ⟨(Nat.le_of_ble_eq_true rfl), (Nat.le_of_ble_eq_true rfl)⟩ (Nat.le_of_ble_eq_true rfl) (zi12_c h0) rfl (fun r2 M1 => ?_)
  refine zx_if_ne (tgt := 13) (zd me_X12_readNew 2 rfl) (by decide) (fun c3 => ?_) (fun c3 => ?_)
  · refine zx_aload_n (i := 0) (zd me_X12_readNew 7 rfl) rfl 0 rfl ?_
    refine zx_getR (zd me_X12_readNew 8 rfl) fl_X12_123 (zi12_c h0) rfl (zi12_r22 h0) ?_
    refine zx_iconst (v := 0) (zd me_X12_readNew 9 rfl) (by decide) ?_
    refine zx_aload_n (i := 0) (zd me_X12_readNew 10 rfl) rfl 0 rfl ?_
    refine zx_getR (zd me_X12_readNew 11 rfl) fl_X12_101 (zi12_c h0) rfl (zi12_r15 h0) ?_
    refine zx_iconst (v := 0) (zd me_X12_readNew 12 rfl) (by decide) ?_
    refine zx_iald (zd me_X12_readNew 13 rfl) (zi12_t15 h0) (fun j4 hj4 => ?_)
    refine zx_aload_n (i := 0) (zd me_X12_readNew 14 rfl) rfl 0 rfl ?_
    refine zx_getL (zd me_X12_readNew 15 rfl) fl_X12_43 (zi12_c h0) rfl ?_
    refine zx_callSI4 (zd me_X12_readNew 16 rfl) (mc_X12_findIn (zl C) (zi12_t22 h0) (0 : Int32) (M1.1 (zrf R a0 15) j4) (M1.2 a0 12) M1) lk_X12_179 ⟨(Nat.le_of_ble_eq_true rfl), (Nat.le_of_ble_eq_true rfl)⟩ (Nat.le_of_ble_eq_true rfl) (fun r6 M5 => ?_)
    refine zx_iconst (v := (-1)) (zd me_X12_readNew 17 rfl) (by decide) ?_
    refine zx_icmp_ne (tgt := 58) (zd me_X12_readNew 18 rfl) (by decide) (fun c7 => ?_) (fun c7 => ?_)
    · exact mt_X12_readNew_b58 h0 i1 M5
    · refine zx_aload_n (i := 0) (zd me_X12_readNew 19 rfl) rfl 0 rfl ?_
      refine zx_getR (zd me_X12_readNew 20 rfl) fl_X12_123 (zi12_c h0) rfl (zi12_r22 h0) ?_
      refine zx_bipush (v := 6) (zd me_X12_readNew 21 rfl) (by decide) ?_
      refine zx_aload_n (i := 0) (zd me_X12_readNew 22 rfl) rfl 0 rfl ?_
      refine zx_getR (zd me_X12_readNew 23 rfl) fl_X12_101 (zi12_c h0) rfl (zi12_r15 h0) ?_
      refine zx_iconst (v := 1) (zd me_X12_readNew 24 rfl) (by decide) ?_
      refine zx_iald (zd me_X12_readNew 25 rfl) (zi12_t15 h0) (fun j8 hj8 => ?_)
      refine zx_aload_n (i := 0) (zd me_X12_readNew 26 rfl) rfl 0 rfl ?_
      refine zx_getL (zd me_X12_readNew 27 rfl) fl_X12_43 (zi12_c h0) rfl ?_
      refine zx_callSI4 (zd me_X12_readNew 28 rfl) (mc_X12_findIn (zl C) (zi12_t22 h0) (6 : Int32) (M5.1 (zrf R a0 15) j8) (M5.2 a0 12) M5) lk_X12_179 ⟨(Nat.le_of_ble_eq_true rfl), (Nat.le_of_ble_eq_true rfl)⟩ (Nat.le_of_ble_eq_true rfl) (fun r10 M9 => ?_)
      refine zx_iconst (v := (-1)) (zd me_X12_readNew 29 rfl) (by decide) ?_
      refine zx_icmp_eq (tgt := 62) (zd me_X12_readNew 30 rfl) (by decide) (fun c11 => ?_) (fun c11 => ?_)
      · refine zx_iconst (v := 0) (zd me_X12_readNew 33 rfl) (by decide) ?_
        exact mt_X12_readNew_b63 h0 i1 (0 : Int32) M9
      · exact mt_X12_readNew_b58 h0 i1 M9
  · refine zx_aload_n (i := 0) (zd me_X12_readNew 3 rfl) rfl 0 rfl ?_
    refine zx_iconst (v := 1) (zd me_X12_readNew 4 rfl) (by decide) ?_
    refine zx_callVI1 (zd me_X12_readNew 5 rfl) (mc_X12_bad (zl C) h0 (1 : Int32) M1) lk_X12_72 ⟨(Nat.le_of_ble_eq_true rfl), (Nat.le_of_ble_eq_true rfl)⟩ (Nat.le_of_ble_eq_true rfl) (zi12_c h0) rfl (fun r13 M12 => ?_)
    exact zx_zretC (zd me_X12_readNew 6 rfl) rfl
def mf_X12_readFirst (R : zRR) (a0 : Nat) (i1 : Int32) (i2 : Int32) (M : zMem) : Option (Int32 × zMem) :=
  zald 56 i1 fun j1 =>
  if (M.1 (zrf R a0 15) j1) = i2 then
    (zcl (mf_X12_bad R a0 (4 : Int32) M) fun r6 M5 =>
    zchk (r6 = 0 ∨ r6 = 1) (some (r6, M5)))
  else
    (zcl (mf_X12_go R a0 M) fun _ M3 =>
    some ((1 : Int32), M3))
theorem mc_X12_readFirst (l : Launch) {T : zTT} {R : zRR} {a0 : Nat} (h0 : zi12 T R a0) (i1 : Int32) (i2 : Int32) (M : zMem) : zMS l yX12_readFirst mi_X12_readFirst zrvI (mf_X12_readFirst R a0 i1 i2 M) [.ref a0, .int i1, .int i2] T R M := by
  refine zMS.of (by decide +kernel) rfl ⟨rfl, rfl⟩ (Nat.le_of_ble_eq_true rfl) (fun C ad _ => ?_)
  show zX C mi_X12_readFirst (zFin C zrvI ad T R) 0 0 (mf_X12_readFirst R a0 i1 i2 M) 0 [(0, .ref a0), (1, .int i1), (2, .int i2)] [] ad T R M
  unfold mf_X12_readFirst
  refine zx_aload_n (i := 0) (zd me_X12_readFirst 0 rfl) rfl 0 rfl ?_
  refine zx_getR (zd me_X12_readFirst 1 rfl) fl_X12_101 (zi12_c h0) rfl (zi12_r15 h0) ?_
  refine zx_iload_n (i := 1) (zd me_X12_readFirst 2 rfl) rfl 1 rfl ?_
  refine zx_iald (zd me_X12_readFirst 3 rfl) (zi12_t15 h0) (fun j1 hj1 => ?_)
  refine zx_iload_n (i := 2) (zd me_X12_readFirst 4 rfl) rfl 2 rfl ?_
  refine zx_icmp_ne (tgt := 16) (zd me_X12_readFirst 5 rfl) (by decide) (fun c2 => ?_) (fun c2 => ?_)
  · refine zx_aload_n (i := 0) (zd me_X12_readFirst 10 rfl) rfl 0 rfl ?_
    refine zx_callVV0 (zd me_X12_readFirst 11 rfl) (mc_X12_go (zl C) h0 M) lk_X12_82 ⟨(Nat.le_of_ble_eq_true rfl), (Nat.le_of_ble_eq_true rfl)⟩ (Nat.le_of_ble_eq_true rfl) (zi12_c h0) rfl (fun r4 M3 => ?_)
    refine zx_iconst (v := 1) (zd me_X12_readFirst 12 rfl) (by decide) ?_
    exact zx_zret (zd me_X12_readFirst 13 rfl) rfl rfl
  · refine zx_aload_n (i := 0) (zd me_X12_readFirst 6 rfl) rfl 0 rfl ?_
    refine zx_iconst (v := 4) (zd me_X12_readFirst 7 rfl) (by decide) ?_
    refine zx_callVI1 (zd me_X12_readFirst 8 rfl) (mc_X12_bad (zl C) h0 (4 : Int32) M) lk_X12_72 ⟨(Nat.le_of_ble_eq_true rfl), (Nat.le_of_ble_eq_true rfl)⟩ (Nat.le_of_ble_eq_true rfl) (zi12_c h0) rfl (fun r6 M5 => ?_)
    exact zx_zretC (zd me_X12_readFirst 9 rfl) rfl
def mf_X12_put (R : zRR) (a0 : Nat) (i1 : Int32) (i2 : Int32) (M : zMem) : Option (Int32 × zMem) :=
  if i2 = 0 then
    (zchk (i2 = 0 ∨ i2 = 1) (some (i2, M)))
  else
    (zald 56 i1 fun j2 =>
    zlet (zwI M (zrf R a0 15) j2 (M.1 a0 13)) fun M3 =>
    zchk (i2 = 0 ∨ i2 = 1) (some (i2, M3)))
theorem mc_X12_put (l : Launch) {T : zTT} {R : zRR} {a0 : Nat} (h0 : zi12 T R a0) (i1 : Int32) (i2 : Int32) (M : zMem) : zMS l yX12_put mi_X12_put zrvI (mf_X12_put R a0 i1 i2 M) [.ref a0, .int i1, .int i2] T R M := by
  refine zMS.of (by decide +kernel) rfl ⟨rfl, rfl⟩ (Nat.le_of_ble_eq_true rfl) (fun C ad _ => ?_)
  show zX C mi_X12_put (zFin C zrvI ad T R) 0 0 (mf_X12_put R a0 i1 i2 M) 0 [(0, .ref a0), (1, .int i1), (2, .int i2)] [] ad T R M
  unfold mf_X12_put
  refine zx_iload_n (i := 2) (zd me_X12_put 0 rfl) rfl 2 rfl ?_
  refine zx_if_eq (tgt := 14) (zd me_X12_put 1 rfl) (by decide) (fun c1 => ?_) (fun c1 => ?_)
  · refine zx_iload_n (i := 2) (zd me_X12_put 8 rfl) rfl 2 rfl ?_
    exact zx_zretC (zd me_X12_put 9 rfl) rfl
  · refine zx_aload_n (i := 0) (zd me_X12_put 2 rfl) rfl 0 rfl ?_
    refine zx_getR (zd me_X12_put 3 rfl) fl_X12_101 (zi12_c h0) rfl (zi12_r15 h0) ?_
    refine zx_iload_n (i := 1) (zd me_X12_put 4 rfl) rfl 1 rfl ?_
    refine zx_aload_n (i := 0) (zd me_X12_put 5 rfl) rfl 0 rfl ?_
    refine zx_getI (zd me_X12_put 6 rfl) fl_X12_79 (zi12_c h0) rfl ?_
    refine zx_iast (zd me_X12_put 7 rfl) (zi12_t15 h0) (fun M3 => ?_)
    refine zx_iload_n (i := 2) (zd me_X12_put 8 rfl) rfl 2 rfl ?_
    exact zx_zretC (zd me_X12_put 9 rfl) rfl
def mf_X12_readBath (R : zRR) (a0 : Nat) (M : zMem) : Option (Int32 × zMem) :=
  zald 56 (1 : Int32) fun j1 =>
  if (M.1 (zrf R a0 15) j1) ≤ 0 then
    (zcl (mf_X12_readFirst R a0 (0 : Int32) (6 : Int32) M) fun r4 M3 =>
    if r4 = 0 then
      (some ((0 : Int32), M3))
    else
      (zald 56 (0 : Int32) fun j6 =>
      zlet ((M3.1 (zrf R a0 15) j6) : Int32) fun x7 =>
      zcl (mf_X12_readNew R a0 x7 M3) fun r9 M8 =>
      if r9 = 0 then
        (some ((0 : Int32), M8))
      else
        (zcl (mf_X12_readNumber R a0 (1 : Int32) (4 : Int32) M8) fun r12 M11 =>
        zcl (mf_X12_put R a0 ((6 : Int32) + x7) r12 M11) fun r14 M13 =>
        if r14 = 0 then
          (some ((0 : Int32), M13))
        else
          (zcl (mf_X12_readNumber R a0 (1 : Int32) (99 : Int32) M13) fun r17 M16 =>
          zcl (mf_X12_put R a0 ((12 : Int32) + x7) r17 M16) fun r19 M18 =>
          if r19 = 0 then
            (some ((0 : Int32), M18))
          else
            (zald 56 (0 : Int32) fun j21 =>
            zald 56 (0 : Int32) fun j22 =>
            zlet (zwI M18 (zrf R a0 15) j22 ((M18.1 (zrf R a0 15) j21) + (1 : Int32))) fun M23 =>
            some ((1 : Int32), M23))))))
  else
    (zcl (mf_X12_bad R a0 (3 : Int32) M) fun r25 M24 =>
    zchk (r25 = 0 ∨ r25 = 1) (some (r25, M24)))
theorem mc_X12_readBath (l : Launch) {T : zTT} {R : zRR} {a0 : Nat} (h0 : zi12 T R a0) (M : zMem) : zMS l yX12_readBath mi_X12_readBath zrvI (mf_X12_readBath R a0 M) [.ref a0] T R M := by
  refine zMS.of (by decide +kernel) rfl ⟨rfl, rfl⟩ (Nat.le_of_ble_eq_true rfl) (fun C ad _ => ?_)
  show zX C mi_X12_readBath (zFin C zrvI ad T R) 0 0 (mf_X12_readBath R a0 M) 0 [(0, .ref a0)] [] ad T R M
  unfold mf_X12_readBath
  refine zx_aload_n (i := 0) (zd me_X12_readBath 0 rfl) rfl 0 rfl ?_
  refine zx_getR (zd me_X12_readBath 1 rfl) fl_X12_101 (zi12_c h0) rfl (zi12_r15 h0) ?_
  refine zx_iconst (v := 1) (zd me_X12_readBath 2 rfl) (by decide) ?_
  refine zx_iald (zd me_X12_readBath 3 rfl) (zi12_t15 h0) (fun j1 hj1 => ?_)
  refine zx_if_le (tgt := 15) (zd me_X12_readBath 4 rfl) (by decide) (fun c2 => ?_) (fun c2 => ?_)
  · refine zx_aload_n (i := 0) (zd me_X12_readBath 9 rfl) rfl 0 rfl ?_
    refine zx_iconst (v := 0) (zd me_X12_readBath 10 rfl) (by decide) ?_
    refine zx_bipush (v := 6) (zd me_X12_readBath 11 rfl) (by decide) ?_
    refine zx_callVI2 (zd me_X12_readBath 12 rfl) (mc_X12_readFirst (zl C) h0 (0 : Int32) (6 : Int32) M) lk_X12_183 ⟨(Nat.le_of_ble_eq_true rfl), (Nat.le_of_ble_eq_true rfl)⟩ (Nat.le_of_ble_eq_true rfl) (zi12_c h0) rfl (fun r4 M3 => ?_)
    refine zx_if_ne (tgt := 27) (zd me_X12_readBath 13 rfl) (by decide) (fun c5 => ?_) (fun c5 => ?_)
    · refine zx_aload_n (i := 0) (zd me_X12_readBath 16 rfl) rfl 0 rfl ?_
      refine zx_getR (zd me_X12_readBath 17 rfl) fl_X12_101 (zi12_c h0) rfl (zi12_r15 h0) ?_
      refine zx_iconst (v := 0) (zd me_X12_readBath 18 rfl) (by decide) ?_
      refine zx_iald (zd me_X12_readBath 19 rfl) (zi12_t15 h0) (fun j6 hj6 => ?_)
      refine zx_leti (fun x7 => ?_)
      refine zx_istore_n (i := 1) (ls' := [(1, .int x7), (0, .ref a0)]) (zd me_X12_readBath 20 rfl) rfl (Nat.le_of_ble_eq_true rfl) rfl ?_
      refine zx_aload_n (i := 0) (zd me_X12_readBath 21 rfl) rfl 1 rfl ?_
      refine zx_iload_n (i := 1) (zd me_X12_readBath 22 rfl) rfl 0 rfl ?_
      refine zx_callVI1 (zd me_X12_readBath 23 rfl) (mc_X12_readNew (zl C) h0 x7 M3) lk_X12_187 ⟨(Nat.le_of_ble_eq_true rfl), (Nat.le_of_ble_eq_true rfl)⟩ (Nat.le_of_ble_eq_true rfl) (zi12_c h0) rfl (fun r9 M8 => ?_)
      refine zx_if_eq (tgt := 77) (zd me_X12_readBath 24 rfl) (by decide) (fun c10 => ?_) (fun c10 => ?_)
      · refine zx_iconst (v := 0) (zd me_X12_readBath 45 rfl) (by decide) ?_
        exact zx_zret (zd me_X12_readBath 46 rfl) rfl rfl
      · refine zx_aload_n (i := 0) (zd me_X12_readBath 25 rfl) rfl 1 rfl ?_
        refine zx_bipush (v := 6) (zd me_X12_readBath 26 rfl) (by decide) ?_
        refine zx_iload_n (i := 1) (zd me_X12_readBath 27 rfl) rfl 0 rfl ?_
        refine zx_iadd (zd me_X12_readBath 28 rfl) ?_
        refine zx_aload_n (i := 0) (zd me_X12_readBath 29 rfl) rfl 1 rfl ?_
        refine zx_iconst (v := 1) (zd me_X12_readBath 30 rfl) (by decide) ?_
        refine zx_iconst (v := 4) (zd me_X12_readBath 31 rfl) (by decide) ?_
        refine zx_callVI2 (zd me_X12_readBath 32 rfl) (mc_X12_readNumber (zl C) h0 (1 : Int32) (4 : Int32) M8) lk_X12_190 ⟨(Nat.le_of_ble_eq_true rfl), (Nat.le_of_ble_eq_true rfl)⟩ (Nat.le_of_ble_eq_true rfl) (zi12_c h0) rfl (fun r12 M11 => ?_)
        refine zx_callVI2 (zd me_X12_readBath 33 rfl) (mc_X12_put (zl C) h0 ((6 : Int32) + x7) r12 M11) lk_X12_193 ⟨(Nat.le_of_ble_eq_true rfl), (Nat.le_of_ble_eq_true rfl)⟩ (Nat.le_of_ble_eq_true rfl) (zi12_c h0) rfl (fun r14 M13 => ?_)
        refine zx_if_eq (tgt := 77) (zd me_X12_readBath 34 rfl) (by decide) (fun c15 => ?_) (fun c15 => ?_)
        · refine zx_iconst (v := 0) (zd me_X12_readBath 45 rfl) (by decide) ?_
          exact zx_zret (zd me_X12_readBath 46 rfl) rfl rfl
        · refine zx_aload_n (i := 0) (zd me_X12_readBath 35 rfl) rfl 1 rfl ?_
          refine zx_bipush (v := 12) (zd me_X12_readBath 36 rfl) (by decide) ?_
          refine zx_iload_n (i := 1) (zd me_X12_readBath 37 rfl) rfl 0 rfl ?_
          refine zx_iadd (zd me_X12_readBath 38 rfl) ?_
          refine zx_aload_n (i := 0) (zd me_X12_readBath 39 rfl) rfl 1 rfl ?_
          refine zx_iconst (v := 1) (zd me_X12_readBath 40 rfl) (by decide) ?_
          refine zx_bipush (v := 99) (zd me_X12_readBath 41 rfl) (by decide) ?_
          refine zx_callVI2 (zd me_X12_readBath 42 rfl) (mc_X12_readNumber (zl C) h0 (1 : Int32) (99 : Int32) M13) lk_X12_190 ⟨(Nat.le_of_ble_eq_true rfl), (Nat.le_of_ble_eq_true rfl)⟩ (Nat.le_of_ble_eq_true rfl) (zi12_c h0) rfl (fun r17 M16 => ?_)
          refine zx_callVI2 (zd me_X12_readBath 43 rfl) (mc_X12_put (zl C) h0 ((12 : Int32) + x7) r17 M16) lk_X12_193 ⟨(Nat.le_of_ble_eq_true rfl), (Nat.le_of_ble_eq_true rfl)⟩ (Nat.le_of_ble_eq_true rfl) (zi12_c h0) rfl (fun r19 M18 => ?_)
          refine zx_if_ne (tgt := 79) (zd me_X12_readBath 44 rfl) (by decide) (fun c20 => ?_) (fun c20 => ?_)
          · refine zx_aload_n (i := 0) (zd me_X12_readBath 47 rfl) rfl 1 rfl ?_
            refine zx_getR (zd me_X12_readBath 48 rfl) fl_X12_101 (zi12_c h0) rfl (zi12_r15 h0) ?_
            refine zx_iconst (v := 0) (zd me_X12_readBath 49 rfl) (by decide) ?_
            refine zx_dup2 (zd me_X12_readBath 50 rfl) rfl rfl ?_
            refine zx_iald (zd me_X12_readBath 51 rfl) (zi12_t15 h0) (fun j21 hj21 => ?_)
            refine zx_iconst (v := 1) (zd me_X12_readBath 52 rfl) (by decide) ?_
            refine zx_iadd (zd me_X12_readBath 53 rfl) ?_
            refine zx_iast (zd me_X12_readBath 54 rfl) (zi12_t15 h0) (fun M23 => ?_)
            refine zx_iconst (v := 1) (zd me_X12_readBath 55 rfl) (by decide) ?_
            exact zx_zret (zd me_X12_readBath 56 rfl) rfl rfl
          · refine zx_iconst (v := 0) (zd me_X12_readBath 45 rfl) (by decide) ?_
            exact zx_zret (zd me_X12_readBath 46 rfl) rfl rfl
    · refine zx_iconst (v := 0) (zd me_X12_readBath 14 rfl) (by decide) ?_
      exact zx_zret (zd me_X12_readBath 15 rfl) rfl rfl
  · refine zx_aload_n (i := 0) (zd me_X12_readBath 5 rfl) rfl 0 rfl ?_
    refine zx_iconst (v := 3) (zd me_X12_readBath 6 rfl) (by decide) ?_
    refine zx_callVI1 (zd me_X12_readBath 7 rfl) (mc_X12_bad (zl C) h0 (3 : Int32) M) lk_X12_72 ⟨(Nat.le_of_ble_eq_true rfl), (Nat.le_of_ble_eq_true rfl)⟩ (Nat.le_of_ble_eq_true rfl) (zi12_c h0) rfl (fun r25 M24 => ?_)
    exact zx_zretC (zd me_X12_readBath 8 rfl) rfl
