def zR00 : zRR := fun _ _ => none
def zM00 : zMem := zrow0 (fun _ _ => 0, fun _ _ => 0) 0
abbrev zT00 : zTT := [(0, 11)]
theorem zRok00 : zRok 1 zR00 := fun o k b h => by cases h
theorem hw9_1 : hW_X10 (zT00 ++ [(0, 10)]) zR00 1 2 := by
  unfold hW_X10 zi10
  decide +kernel
abbrev sR_X11_0 : zRR := (cR_X10 zR00 1 2)
theorem sok_X11_0 : zRok 4 sR_X11_0 := (rok_X10 (zRok.mono (N := 1) zRok00 (by omega)) (by omega))
abbrev sT_X11_0 : zTT := (cT_X10 (zT00 ++ [(0, 10)]))
abbrev sR_X11_1 : zRR := (zwR sR_X11_0 0 0 1)
theorem sok_X11_1 : zRok 4 sR_X11_1 := (zRok.w sok_X11_0 (by omega) (by omega))
abbrev sT_X11_1 : zTT := sT_X11_0
abbrev sR_X11_2 : zRR := (cR_X7 sR_X11_1 4 5)
theorem sok_X11_2 : zRok 10 sR_X11_2 := (rok_X7 (zRok.mono (N := 4) sok_X11_1 (by omega)) (by omega))
abbrev sT_X11_2 : zTT := (cT_X7 (sT_X11_1 ++ [(0, 7)]))
abbrev sR_X11_3 : zRR := (zwR sR_X11_2 0 1 4)
theorem sok_X11_3 : zRok 10 sR_X11_3 := (zRok.w sok_X11_2 (by omega) (by omega))
abbrev sT_X11_3 : zTT := sT_X11_2
abbrev sR_X11_4 : zRR := (cR_X7 sR_X11_3 10 11)
theorem sok_X11_4 : zRok 16 sR_X11_4 := (rok_X7 (zRok.mono (N := 10) sok_X11_3 (by omega)) (by omega))
abbrev sT_X11_4 : zTT := (cT_X7 (sT_X11_3 ++ [(0, 7)]))
abbrev sR_X11_5 : zRR := (zwR sR_X11_4 0 2 10)
theorem sok_X11_5 : zRok 16 sR_X11_5 := (zRok.w sok_X11_4 (by omega) (by omega))
abbrev sT_X11_5 : zTT := sT_X11_4
theorem hw9_2 : hW_X3 (sT_X11_5 ++ [(0, 3)]) sR_X11_5 16 4 17 := by
  unfold hW_X3 zi3 zi7
  decide +kernel
abbrev sR_X11_6 : zRR := (cR_X3 sR_X11_5 16 4 17)
theorem sok_X11_6 : zRok 18 sR_X11_6 := (rok_X3 (zRok.mono (N := 16) sok_X11_5 (by omega)) (by omega) (by omega))
abbrev sT_X11_6 : zTT := (cT_X3 (sT_X11_5 ++ [(0, 3)]))
abbrev sR_X11_7 : zRR := (zwR sR_X11_6 0 3 16)
theorem sok_X11_7 : zRok 18 sR_X11_7 := (zRok.w sok_X11_6 (by omega) (by omega))
abbrev sT_X11_7 : zTT := sT_X11_6
theorem hw9_3 : hW_X3 (sT_X11_7 ++ [(0, 3)]) sR_X11_7 18 4 19 := by
  unfold hW_X3 zi3 zi7
  decide +kernel
abbrev sR_X11_8 : zRR := (cR_X3 sR_X11_7 18 4 19)
theorem sok_X11_8 : zRok 20 sR_X11_8 := (rok_X3 (zRok.mono (N := 18) sok_X11_7 (by omega)) (by omega) (by omega))
abbrev sT_X11_8 : zTT := (cT_X3 (sT_X11_7 ++ [(0, 3)]))
abbrev sR_X11_9 : zRR := (zwR sR_X11_8 0 4 18)
theorem sok_X11_9 : zRok 20 sR_X11_9 := (zRok.w sok_X11_8 (by omega) (by omega))
abbrev sT_X11_9 : zTT := sT_X11_8
abbrev sR_X11_10 : zRR := (cR_X8 sR_X11_9 20 21)
theorem sok_X11_10 : zRok 25 sR_X11_10 := (rok_X8 (zRok.mono (N := 20) sok_X11_9 (by omega)) (by omega))
abbrev sT_X11_10 : zTT := (cT_X8 (sT_X11_9 ++ [(0, 8)]))
abbrev sR_X11_11 : zRR := (zwR sR_X11_10 0 5 20)
theorem sok_X11_11 : zRok 25 sR_X11_11 := (zRok.w sok_X11_10 (by omega) (by omega))
abbrev sT_X11_11 : zTT := sT_X11_10
abbrev sR_X11_12 : zRR := (cR_X8 sR_X11_11 25 26)
theorem sok_X11_12 : zRok 30 sR_X11_12 := (rok_X8 (zRok.mono (N := 25) sok_X11_11 (by omega)) (by omega))
abbrev sT_X11_12 : zTT := (cT_X8 (sT_X11_11 ++ [(0, 8)]))
abbrev sR_X11_13 : zRR := (zwR sR_X11_12 0 6 25)
theorem sok_X11_13 : zRok 30 sR_X11_13 := (zRok.w sok_X11_12 (by omega) (by omega))
abbrev sT_X11_13 : zTT := sT_X11_12
abbrev sR_X11_14 : zRR := (cR_X0 sR_X11_13 30 31)
theorem sok_X11_14 : zRok 33 sR_X11_14 := (rok_X0 (zRok.mono (N := 30) sok_X11_13 (by omega)) (by omega))
abbrev sT_X11_14 : zTT := (cT_X0 (sT_X11_13 ++ [(0, 0)]))
abbrev sR_X11_15 : zRR := (zwR sR_X11_14 0 7 30)
theorem sok_X11_15 : zRok 33 sR_X11_15 := (zRok.w sok_X11_14 (by omega) (by omega))
abbrev sT_X11_15 : zTT := sT_X11_14
abbrev sR_X11_16 : zRR := (cR_X5 sR_X11_15 33 34)
theorem sok_X11_16 : zRok 44 sR_X11_16 := (rok_X5 (zRok.mono (N := 33) sok_X11_15 (by omega)) (by omega))
abbrev sT_X11_16 : zTT := (cT_X5 (sT_X11_15 ++ [(0, 5)]))
abbrev sR_X11_17 : zRR := (zwR sR_X11_16 0 8 33)
theorem sok_X11_17 : zRok 44 sR_X11_17 := (zRok.w sok_X11_16 (by omega) (by omega))
abbrev sT_X11_17 : zTT := sT_X11_16
theorem hw9_4 : hW_X6 (sT_X11_17 ++ [(0, 6)]) sR_X11_17 44 4 16 18 45 := by
  unfold hW_X6
  refine ⟨?_, ?_, ?_⟩ <;> (unfold hW_X3 zi3 zi7; decide +kernel)
abbrev sR_X11_18 : zRR := (cR_X6 sR_X11_17 44 4 16 18 45)
theorem sok_X11_18 : zRok 55 sR_X11_18 := (rok_X6 (zRok.mono (N := 44) sok_X11_17 (by omega)) (by omega) (by omega) (by omega) (by omega))
abbrev sT_X11_18 : zTT := (cT_X6 (sT_X11_17 ++ [(0, 6)]))
abbrev sR_X11_19 : zRR := (zwR sR_X11_18 0 9 44)
theorem sok_X11_19 : zRok 55 sR_X11_19 := (zRok.w sok_X11_18 (by omega) (by omega))
abbrev sT_X11_19 : zTT := sT_X11_18
abbrev sR_X11_20 : zRR := (cR_X4 sR_X11_19 55 4 56)
theorem sok_X11_20 : zRok 59 sR_X11_20 := (rok_X4 (zRok.mono (N := 55) sok_X11_19 (by omega)) (by omega) (by omega))
abbrev sT_X11_20 : zTT := (cT_X4 (sT_X11_19 ++ [(0, 4)]))
abbrev sR_X11_21 : zRR := (zwR sR_X11_20 0 10 55)
theorem sok_X11_21 : zRok 59 sR_X11_21 := (zRok.w sok_X11_20 (by omega) (by omega))
abbrev sT_X11_21 : zTT := sT_X11_20
abbrev sR_X11_22 : zRR := (cR_X1 sR_X11_21 59 60)
theorem sok_X11_22 : zRok 60 sR_X11_22 := (rok_X1 (zRok.mono (N := 59) sok_X11_21 (by omega)) (by omega))
abbrev sT_X11_22 : zTT := (cT_X1 (sT_X11_21 ++ [(0, 1)]))
abbrev sR_X11_23 : zRR := (zwR sR_X11_22 0 11 59)
theorem sok_X11_23 : zRok 60 sR_X11_23 := (zRok.w sok_X11_22 (by omega) (by omega))
abbrev sT_X11_23 : zTT := sT_X11_22
abbrev sR_X11_24 : zRR := (cR_X9 sR_X11_23 60 61)
theorem sok_X11_24 : zRok 62 sR_X11_24 := (rok_X9 (zRok.mono (N := 60) sok_X11_23 (by omega)) (by omega))
abbrev sT_X11_24 : zTT := (cT_X9 (sT_X11_23 ++ [(0, 9)]))
abbrev sR_X11_25 : zRR := (zwR sR_X11_24 0 12 60)
theorem sok_X11_25 : zRok 62 sR_X11_25 := (zRok.w sok_X11_24 (by omega) (by omega))
abbrev sT_X11_25 : zTT := sT_X11_24
abbrev sR_X11_26 : zRR := (zwR sR_X11_25 0 13 62)
theorem sok_X11_26 : zRok 63 sR_X11_26 := (zRok.w (zRok.mono (N := 62) sok_X11_25 (by omega)) (by omega) (by omega))
abbrev sT_X11_26 : zTT := (sT_X11_25 ++ [(4, 2)])
abbrev sR_X11_27 : zRR := (cR_X2 sR_X11_26 63 64)
theorem sok_X11_27 : zRok 76 sR_X11_27 := (rok_X2 (zRok.mono (N := 63) sok_X11_26 (by omega)) (by omega))
abbrev sT_X11_27 : zTT := (cT_X2 (sT_X11_26 ++ [(0, 2)]))
abbrev sR_X11_28 : zRR := (zwR sR_X11_27 62 0 63)
theorem sok_X11_28 : zRok 76 sR_X11_28 := (zRok.w sok_X11_27 (by omega) (by omega))
abbrev sT_X11_28 : zTT := sT_X11_27
abbrev sR_X11_29 : zRR := (cR_X2 sR_X11_28 76 77)
theorem sok_X11_29 : zRok 89 sR_X11_29 := (rok_X2 (zRok.mono (N := 76) sok_X11_28 (by omega)) (by omega))
abbrev sT_X11_29 : zTT := (cT_X2 (sT_X11_28 ++ [(0, 2)]))
abbrev sR_X11_30 : zRR := (zwR sR_X11_29 62 1 76)
theorem sok_X11_30 : zRok 89 sR_X11_30 := (zRok.w sok_X11_29 (by omega) (by omega))
abbrev sT_X11_30 : zTT := sT_X11_29
abbrev cT_X11 : zTT := sT_X11_30
abbrev cR_X11 : zRR := sR_X11_30
theorem rok_X11 : zRok 89 cR_X11 := sok_X11_30
def cf_X11 : Option (Unit × zMem) :=
  zcl (cf_X10 zR00 1 2 (zrow0 zM00 1)) fun _ M2 =>
  zcl (cf_X7 sR_X11_1 4 5 (zrow0 M2 4)) fun _ M5 =>
  zcl (cf_X7 sR_X11_3 10 11 (zrow0 M5 10)) fun _ M8 =>
  zcl (cf_X3 sR_X11_5 16 4 17 (zrow0 M8 16)) fun _ M11 =>
  zcl (cf_X3 sR_X11_7 18 4 19 (zrow0 M11 18)) fun _ M14 =>
  zcl (cf_X8 sR_X11_9 20 21 (zrow0 M14 20)) fun _ M17 =>
  zcl (cf_X8 sR_X11_11 25 26 (zrow0 M17 25)) fun _ M20 =>
  zcl (cf_X0 sR_X11_13 30 31 (zrow0 M20 30)) fun _ M23 =>
  zcl (cf_X5 sR_X11_15 33 34 (zrow0 M23 33)) fun _ M26 =>
  zcl (cf_X6 sR_X11_17 44 4 16 18 45 (zrow0 M26 44)) fun _ M29 =>
  zcl (cf_X4 sR_X11_19 55 4 56 (zrow0 M29 55)) fun _ M32 =>
  zcl (cf_X1 sR_X11_21 59 60 (zrow0 M32 59)) fun _ M35 =>
  zcl (cf_X9 sR_X11_23 60 61 (zrow0 M35 60)) fun _ M38 =>
  zcl (cf_X2 sR_X11_26 63 64 (zrow0 (zrow0 M38 62) 63)) fun _ M42 =>
  zcl (cf_X2 sR_X11_28 76 77 (zrow0 M42 76)) fun _ M45 =>
  some ((), M45)
set_option maxHeartbeats 40000000 in
set_option maxRecDepth 100000 in
theorem mk_X11 (l : Launch) : zMC l yX11_init mi9_X11_init cf_X11 [.ref 0] 1 zT00 zR00 zM00 cT_X11 cR_X11 := by
  refine zMC.of (by decide +kernel) rfl (Nat.le_of_ble_eq_true rfl) (fun C ad _ hnm => ?_)
  show zX C mi9_X11_init (zFinC C mi9_X11_init ad 1 cT_X11 cR_X11) 0 0 cf_X11 0 [(0, .ref 0)] [] ad zT00 zR00 zM00
  unfold cf_X11
  refine zx_aload_n (i := 0) (zd me_X11_init 0 rfl) rfl 0 rfl ?_
  refine zx_objInit (zd me_X11_init 1 rfl) lo_X11 ⟨(Nat.le_of_ble_eq_true rfl), (Nat.le_of_ble_eq_true rfl)⟩ ?_
  refine zx_aload_n (i := 0) (zd me_X11_init 2 rfl) rfl 0 rfl ?_
  refine zx_new (ci := 10) (qc := (RX10, TX10, 12)) (zd me_X11_init 3 rfl) rfl lw9_X11_7 ld9_X10.1 ld9_X10.2 (by decide +kernel) ⟨(Nat.le_of_ble_eq_true rfl), (Nat.le_of_ble_eq_true rfl)⟩ (by decide +kernel) zRok00 (by unfold zBIG; omega) (zr_r (by omega) zr_n) (zr_r (by omega) zr_n) (fun q1 => ?_)
  refine zx_dup (zd me_X11_init 4 rfl) rfl ?_
  refine zx_callI (N0 := 2) (as := []) (zd me_X11_init 5 rfl) (mk_X10 (zl C) (N := 2) (by decide +kernel) (by omega) (zRok.mono (N := 1) zRok00 (by omega)) (by omega) (by decide +kernel) hw9_1) li9_X11_9 rfl ⟨(Nat.le_of_ble_eq_true rfl), (Nat.le_of_ble_eq_true rfl)⟩ (Nat.le_of_ble_eq_true rfl) rfl ⟨(Nat.le_of_ble_eq_true rfl), (Nat.le_of_ble_eq_true rfl)⟩ (zr_r (by omega) (zr_r (by omega) zr_n)) (zr_r (by omega) zr_n) rfl (fun M2 ad3 _ hgad3 => ?_)
  refine zx_putR (zd me_X11_init 6 rfl) fr_X11_10 hnm (by decide +kernel) rfl (fun _ => ⟨rfl, rfl⟩) ?_
  refine zx_aload_n (i := 0) (zd me_X11_init 7 rfl) rfl 0 rfl ?_
  refine zx_new (ci := 7) (qc := (RX7, TX7, 12)) (zd me_X11_init 8 rfl) rfl lw9_X11_16 ld9_X7.1 ld9_X7.2 (by decide +kernel) ⟨(Nat.le_of_ble_eq_true rfl), (Nat.le_of_ble_eq_true rfl)⟩ (by decide +kernel) sok_X11_1 (by unfold zBIG; omega) (zr_r (by omega) zr_n) (zr_r (by omega) zr_n) (fun q4 => ?_)
  refine zx_dup (zd me_X11_init 9 rfl) rfl ?_
  refine zx_callI (N0 := 5) (as := []) (zd me_X11_init 10 rfl) (mk_X7 (zl C) (N := 5) (by decide +kernel) (by omega) (zRok.mono (N := 4) sok_X11_1 (by omega)) (by omega) (by decide +kernel) ) li9_X11_18 rfl ⟨(Nat.le_of_ble_eq_true rfl), (Nat.le_of_ble_eq_true rfl)⟩ (Nat.le_of_ble_eq_true rfl) rfl ⟨(Nat.le_of_ble_eq_true rfl), (Nat.le_of_ble_eq_true rfl)⟩ (zr_r (by omega) (zr_r (by omega) zr_n)) (zr_r (by omega) zr_n) rfl (fun M5 ad6 _ hgad6 => ?_)
  refine zx_putR (zd me_X11_init 11 rfl) fr_X11_19 hnm (by decide +kernel) rfl (fun _ => ⟨rfl, rfl⟩) ?_
  refine zx_aload_n (i := 0) (zd me_X11_init 12 rfl) rfl 0 rfl ?_
  refine zx_new (ci := 7) (qc := (RX7, TX7, 12)) (zd me_X11_init 13 rfl) rfl lw9_X11_16 ld9_X7.1 ld9_X7.2 (by decide +kernel) ⟨(Nat.le_of_ble_eq_true rfl), (Nat.le_of_ble_eq_true rfl)⟩ (by decide +kernel) sok_X11_3 (by unfold zBIG; omega) (zr_r (by omega) zr_n) (zr_r (by omega) zr_n) (fun q7 => ?_)
  refine zx_dup (zd me_X11_init 14 rfl) rfl ?_
  refine zx_callI (N0 := 11) (as := []) (zd me_X11_init 15 rfl) (mk_X7 (zl C) (N := 11) (by decide +kernel) (by omega) (zRok.mono (N := 10) sok_X11_3 (by omega)) (by omega) (by decide +kernel) ) li9_X11_18 rfl ⟨(Nat.le_of_ble_eq_true rfl), (Nat.le_of_ble_eq_true rfl)⟩ (Nat.le_of_ble_eq_true rfl) rfl ⟨(Nat.le_of_ble_eq_true rfl), (Nat.le_of_ble_eq_true rfl)⟩ (zr_r (by omega) (zr_r (by omega) zr_n)) (zr_r (by omega) zr_n) rfl (fun M8 ad9 _ hgad9 => ?_)
  refine zx_putR (zd me_X11_init 16 rfl) fr_X11_23 hnm (by decide +kernel) rfl (fun _ => ⟨rfl, rfl⟩) ?_
  refine zx_aload_n (i := 0) (zd me_X11_init 17 rfl) rfl 0 rfl ?_
  refine zx_new (ci := 3) (qc := (RX3, TX3, 2)) (zd me_X11_init 18 rfl) rfl lw9_X11_26 ld9_X3.1 ld9_X3.2 (by decide +kernel) ⟨(Nat.le_of_ble_eq_true rfl), (Nat.le_of_ble_eq_true rfl)⟩ (by decide +kernel) sok_X11_5 (by unfold zBIG; omega) (zr_r (by omega) zr_n) (zr_r (by omega) zr_n) (fun q10 => ?_)
  refine zx_dup (zd me_X11_init 19 rfl) rfl ?_
  refine zx_aload_n (i := 0) (zd me_X11_init 20 rfl) rfl 0 rfl ?_
  refine zx_getR (b := 4) (zd me_X11_init 21 rfl) fl_X11_19 (by decide +kernel) rfl (by decide +kernel) ?_
  refine zx_callI (N0 := 17) (as := [.ref 4]) (zd me_X11_init 22 rfl) (mk_X3 (zl C) (N := 17) (by decide +kernel) (by omega) (zRok.mono (N := 16) sok_X11_5 (by omega)) (by omega) (by omega) (by decide +kernel) hw9_2) li9_X11_28 rfl ⟨(Nat.le_of_ble_eq_true rfl), (Nat.le_of_ble_eq_true rfl)⟩ (Nat.le_of_ble_eq_true rfl) rfl ⟨(Nat.le_of_ble_eq_true rfl), (Nat.le_of_ble_eq_true rfl)⟩ (zr_r (by omega) (zr_r (by omega) zr_n)) (zr_r (by omega) zr_n) rfl (fun M11 ad12 _ hgad12 => ?_)
  refine zx_putR (zd me_X11_init 23 rfl) fr_X11_31 hnm (by decide +kernel) rfl (fun _ => ⟨rfl, rfl⟩) ?_
  refine zx_aload_n (i := 0) (zd me_X11_init 24 rfl) rfl 0 rfl ?_
  refine zx_new (ci := 3) (qc := (RX3, TX3, 2)) (zd me_X11_init 25 rfl) rfl lw9_X11_26 ld9_X3.1 ld9_X3.2 (by decide +kernel) ⟨(Nat.le_of_ble_eq_true rfl), (Nat.le_of_ble_eq_true rfl)⟩ (by decide +kernel) sok_X11_7 (by unfold zBIG; omega) (zr_r (by omega) zr_n) (zr_r (by omega) zr_n) (fun q13 => ?_)
  refine zx_dup (zd me_X11_init 26 rfl) rfl ?_
  refine zx_aload_n (i := 0) (zd me_X11_init 27 rfl) rfl 0 rfl ?_
  refine zx_getR (b := 4) (zd me_X11_init 28 rfl) fl_X11_19 (by decide +kernel) rfl (by decide +kernel) ?_
  refine zx_callI (N0 := 19) (as := [.ref 4]) (zd me_X11_init 29 rfl) (mk_X3 (zl C) (N := 19) (by decide +kernel) (by omega) (zRok.mono (N := 18) sok_X11_7 (by omega)) (by omega) (by omega) (by decide +kernel) hw9_3) li9_X11_28 rfl ⟨(Nat.le_of_ble_eq_true rfl), (Nat.le_of_ble_eq_true rfl)⟩ (Nat.le_of_ble_eq_true rfl) rfl ⟨(Nat.le_of_ble_eq_true rfl), (Nat.le_of_ble_eq_true rfl)⟩ (zr_r (by omega) (zr_r (by omega) zr_n)) (zr_r (by omega) zr_n) rfl (fun M14 ad15 _ hgad15 => ?_)
  refine zx_putR (zd me_X11_init 30 rfl) fr_X11_35 hnm (by decide +kernel) rfl (fun _ => ⟨rfl, rfl⟩) ?_
  refine zx_aload_n (i := 0) (zd me_X11_init 31 rfl) rfl 0 rfl ?_
  refine zx_new (ci := 8) (qc := (RX8, TX8, 6)) (zd me_X11_init 32 rfl) rfl lw9_X11_38 ld9_X8.1 ld9_X8.2 (by decide +kernel) ⟨(Nat.le_of_ble_eq_true rfl), (Nat.le_of_ble_eq_true rfl)⟩ (by decide +kernel) sok_X11_9 (by unfold zBIG; omega) (zr_r (by omega) zr_n) (zr_r (by omega) zr_n) (fun q16 => ?_)
  refine zx_dup (zd me_X11_init 33 rfl) rfl ?_
  refine zx_callI (N0 := 21) (as := []) (zd me_X11_init 34 rfl) (mk_X8 (zl C) (N := 21) (by decide +kernel) (by omega) (zRok.mono (N := 20) sok_X11_9 (by omega)) (by omega) (by decide +kernel) ) li9_X11_40 rfl ⟨(Nat.le_of_ble_eq_true rfl), (Nat.le_of_ble_eq_true rfl)⟩ (Nat.le_of_ble_eq_true rfl) rfl ⟨(Nat.le_of_ble_eq_true rfl), (Nat.le_of_ble_eq_true rfl)⟩ (zr_r (by omega) (zr_r (by omega) zr_n)) (zr_r (by omega) zr_n) rfl (fun M17 ad18 _ hgad18 => ?_)
  refine zx_putR (zd me_X11_init 35 rfl) fr_X11_41 hnm (by decide +kernel) rfl (fun _ => ⟨rfl, rfl⟩) ?_
  refine zx_aload_n (i := 0) (zd me_X11_init 36 rfl) rfl 0 rfl ?_
  refine zx_new (ci := 8) (qc := (RX8, TX8, 6)) (zd me_X11_init 37 rfl) rfl lw9_X11_38 ld9_X8.1 ld9_X8.2 (by decide +kernel) ⟨(Nat.le_of_ble_eq_true rfl), (Nat.le_of_ble_eq_true rfl)⟩ (by decide +kernel) sok_X11_11 (by unfold zBIG; omega) (zr_r (by omega) zr_n) (zr_r (by omega) zr_n) (fun q19 => ?_)
  refine zx_dup (zd me_X11_init 38 rfl) rfl ?_
  refine zx_callI (N0 := 26) (as := []) (zd me_X11_init 39 rfl) (mk_X8 (zl C) (N := 26) (by decide +kernel) (by omega) (zRok.mono (N := 25) sok_X11_11 (by omega)) (by omega) (by decide +kernel) ) li9_X11_40 rfl ⟨(Nat.le_of_ble_eq_true rfl), (Nat.le_of_ble_eq_true rfl)⟩ (Nat.le_of_ble_eq_true rfl) rfl ⟨(Nat.le_of_ble_eq_true rfl), (Nat.le_of_ble_eq_true rfl)⟩ (zr_r (by omega) (zr_r (by omega) zr_n)) (zr_r (by omega) zr_n) rfl (fun M20 ad21 _ hgad21 => ?_)
  refine zx_putR (zd me_X11_init 40 rfl) fr_X11_45 hnm (by decide +kernel) rfl (fun _ => ⟨rfl, rfl⟩) ?_
  refine zx_aload_n (i := 0) (zd me_X11_init 41 rfl) rfl 0 rfl ?_
  refine zx_new (ci := 0) (qc := (RX0, TX0, 8)) (zd me_X11_init 42 rfl) rfl lw9_X11_48 ld9_X0.1 ld9_X0.2 (by decide +kernel) ⟨(Nat.le_of_ble_eq_true rfl), (Nat.le_of_ble_eq_true rfl)⟩ (by decide +kernel) sok_X11_13 (by unfold zBIG; omega) (zr_r (by omega) zr_n) (zr_r (by omega) zr_n) (fun q22 => ?_)
  refine zx_dup (zd me_X11_init 43 rfl) rfl ?_
  refine zx_callI (N0 := 31) (as := []) (zd me_X11_init 44 rfl) (mk_X0 (zl C) (N := 31) (by decide +kernel) (by omega) (zRok.mono (N := 30) sok_X11_13 (by omega)) (by omega) (by decide +kernel) ) li9_X11_50 rfl ⟨(Nat.le_of_ble_eq_true rfl), (Nat.le_of_ble_eq_true rfl)⟩ (Nat.le_of_ble_eq_true rfl) rfl ⟨(Nat.le_of_ble_eq_true rfl), (Nat.le_of_ble_eq_true rfl)⟩ (zr_r (by omega) (zr_r (by omega) zr_n)) (zr_r (by omega) zr_n) rfl (fun M23 ad24 _ hgad24 => ?_)
  refine zx_putR (zd me_X11_init 45 rfl) fr_X11_51 hnm (by decide +kernel) rfl (fun _ => ⟨rfl, rfl⟩) ?_
  refine zx_aload_n (i := 0) (zd me_X11_init 46 rfl) rfl 0 rfl ?_
  refine zx_new (ci := 5) (qc := (RX5, TX5, 3)) (zd me_X11_init 47 rfl) rfl lw9_X11_55 ld9_X5.1 ld9_X5.2 (by decide +kernel) ⟨(Nat.le_of_ble_eq_true rfl), (Nat.le_of_ble_eq_true rfl)⟩ (by decide +kernel) sok_X11_15 (by unfold zBIG; omega) (zr_r (by omega) zr_n) (zr_r (by omega) zr_n) (fun q25 => ?_)
  refine zx_dup (zd me_X11_init 48 rfl) rfl ?_
  refine zx_callI (N0 := 34) (as := []) (zd me_X11_init 49 rfl) (mk_X5 (zl C) (N := 34) (by decide +kernel) (by omega) (zRok.mono (N := 33) sok_X11_15 (by omega)) (by omega) (by decide +kernel) ) li9_X11_57 rfl ⟨(Nat.le_of_ble_eq_true rfl), (Nat.le_of_ble_eq_true rfl)⟩ (Nat.le_of_ble_eq_true rfl) rfl ⟨(Nat.le_of_ble_eq_true rfl), (Nat.le_of_ble_eq_true rfl)⟩ (zr_r (by omega) (zr_r (by omega) zr_n)) (zr_r (by omega) zr_n) rfl (fun M26 ad27 _ hgad27 => ?_)
  refine zx_putR (zd me_X11_init 50 rfl) fr_X11_58 hnm (by decide +kernel) rfl (fun _ => ⟨rfl, rfl⟩) ?_
  refine zx_aload_n (i := 0) (zd me_X11_init 51 rfl) rfl 0 rfl ?_
  refine zx_new (ci := 6) (qc := (RX6, TX6, 11)) (zd me_X11_init 52 rfl) rfl lw9_X11_62 ld9_X6.1 ld9_X6.2 (by decide +kernel) ⟨(Nat.le_of_ble_eq_true rfl), (Nat.le_of_ble_eq_true rfl)⟩ (by decide +kernel) sok_X11_17 (by unfold zBIG; omega) (zr_r (by omega) zr_n) (zr_r (by omega) zr_n) (fun q28 => ?_)
  refine zx_dup (zd me_X11_init 53 rfl) rfl ?_
  refine zx_aload_n (i := 0) (zd me_X11_init 54 rfl) rfl 0 rfl ?_
  refine zx_getR (b := 4) (zd me_X11_init 55 rfl) fl_X11_19 (by decide +kernel) rfl (by decide +kernel) ?_
  refine zx_aload_n (i := 0) (zd me_X11_init 56 rfl) rfl 0 rfl ?_
  refine zx_getR (b := 16) (zd me_X11_init 57 rfl) fl_X11_31 (by decide +kernel) rfl (by decide +kernel) ?_
  refine zx_aload_n (i := 0) (zd me_X11_init 58 rfl) rfl 0 rfl ?_
  refine zx_getR (b := 18) (zd me_X11_init 59 rfl) fl_X11_35 (by decide +kernel) rfl (by decide +kernel) ?_
  refine zx_callI (N0 := 45) (as := [.ref 4, .ref 16, .ref 18]) (zd me_X11_init 60 rfl) (mk_X6 (zl C) (N := 45) (by decide +kernel) (by omega) (zRok.mono (N := 44) sok_X11_17 (by omega)) (by omega) (by omega) (by omega) (by omega) (by decide +kernel) hw9_4) li9_X11_64 rfl ⟨(Nat.le_of_ble_eq_true rfl), (Nat.le_of_ble_eq_true rfl)⟩ (Nat.le_of_ble_eq_true rfl) rfl ⟨(Nat.le_of_ble_eq_true rfl), (Nat.le_of_ble_eq_true rfl)⟩ (zr_r (by omega) (zr_r (by omega) zr_n)) (zr_r (by omega) zr_n) rfl (fun M29 ad30 _ hgad30 => ?_)
  refine zx_putR (zd me_X11_init 61 rfl) fr_X11_67 hnm (by decide +kernel) rfl (fun _ => ⟨rfl, rfl⟩) ?_
  refine zx_aload_n (i := 0) (zd me_X11_init 62 rfl) rfl 0 rfl ?_
  refine zx_new (ci := 4) (qc := (RX4, TX4, 6)) (zd me_X11_init 63 rfl) rfl lw9_X11_71 ld9_X4.1 ld9_X4.2 (by decide +kernel) ⟨(Nat.le_of_ble_eq_true rfl), (Nat.le_of_ble_eq_true rfl)⟩ (by decide +kernel) sok_X11_19 (by unfold zBIG; omega) (zr_r (by omega) zr_n) (zr_r (by omega) zr_n) (fun q31 => ?_)
  refine zx_dup (zd me_X11_init 64 rfl) rfl ?_
  refine zx_aload_n (i := 0) (zd me_X11_init 65 rfl) rfl 0 rfl ?_
  refine zx_getR (b := 4) (zd me_X11_init 66 rfl) fl_X11_19 (by decide +kernel) rfl (by decide +kernel) ?_
  refine zx_callI (N0 := 56) (as := [.ref 4]) (zd me_X11_init 67 rfl) (mk_X4 (zl C) (N := 56) (by decide +kernel) (by omega) (zRok.mono (N := 55) sok_X11_19 (by omega)) (by omega) (by omega) (by decide +kernel) ) li9_X11_73 rfl ⟨(Nat.le_of_ble_eq_true rfl), (Nat.le_of_ble_eq_true rfl)⟩ (Nat.le_of_ble_eq_true rfl) rfl ⟨(Nat.le_of_ble_eq_true rfl), (Nat.le_of_ble_eq_true rfl)⟩ (zr_r (by omega) (zr_r (by omega) zr_n)) (zr_r (by omega) zr_n) rfl (fun M32 ad33 _ hgad33 => ?_)
  refine zx_putR (zd me_X11_init 68 rfl) fr_X11_74 hnm (by decide +kernel) rfl (fun _ => ⟨rfl, rfl⟩) ?_
  refine zx_aload_n (i := 0) (zd me_X11_init 69 rfl) rfl 0 rfl ?_
  refine zx_new (ci := 1) (qc := (RX1, TX1, 1)) (zd me_X11_init 70 rfl) rfl lw9_X11_78 ld9_X1.1 ld9_X1.2 (by decide +kernel) ⟨(Nat.le_of_ble_eq_true rfl), (Nat.le_of_ble_eq_true rfl)⟩ (by decide +kernel) sok_X11_21 (by unfold zBIG; omega) (zr_r (by omega) zr_n) (zr_r (by omega) zr_n) (fun q34 => ?_)
  refine zx_dup (zd me_X11_init 71 rfl) rfl ?_
  refine zx_callI (N0 := 60) (as := []) (zd me_X11_init 72 rfl) (mk_X1 (zl C) (N := 60) (by decide +kernel) (by omega) (zRok.mono (N := 59) sok_X11_21 (by omega)) (by omega) (by decide +kernel) ) li9_X11_80 rfl ⟨(Nat.le_of_ble_eq_true rfl), (Nat.le_of_ble_eq_true rfl)⟩ (Nat.le_of_ble_eq_true rfl) rfl ⟨(Nat.le_of_ble_eq_true rfl), (Nat.le_of_ble_eq_true rfl)⟩ (zr_r (by omega) (zr_r (by omega) zr_n)) (zr_r (by omega) zr_n) rfl (fun M35 ad36 _ hgad36 => ?_)
  refine zx_putR (zd me_X11_init 73 rfl) fr_X11_81 hnm (by decide +kernel) rfl (fun _ => ⟨rfl, rfl⟩) ?_
  refine zx_aload_n (i := 0) (zd me_X11_init 74 rfl) rfl 0 rfl ?_
  refine zx_new (ci := 9) (qc := (RX9, TX9, 2)) (zd me_X11_init 75 rfl) rfl lw9_X11_85 ld9_X9.1 ld9_X9.2 (by decide +kernel) ⟨(Nat.le_of_ble_eq_true rfl), (Nat.le_of_ble_eq_true rfl)⟩ (by decide +kernel) sok_X11_23 (by unfold zBIG; omega) (zr_r (by omega) zr_n) (zr_r (by omega) zr_n) (fun q37 => ?_)
  refine zx_dup (zd me_X11_init 76 rfl) rfl ?_
  refine zx_callI (N0 := 61) (as := []) (zd me_X11_init 77 rfl) (mk_X9 (zl C) (N := 61) (by decide +kernel) (by omega) (zRok.mono (N := 60) sok_X11_23 (by omega)) (by omega) (by decide +kernel) ) li9_X11_87 rfl ⟨(Nat.le_of_ble_eq_true rfl), (Nat.le_of_ble_eq_true rfl)⟩ (Nat.le_of_ble_eq_true rfl) rfl ⟨(Nat.le_of_ble_eq_true rfl), (Nat.le_of_ble_eq_true rfl)⟩ (zr_r (by omega) (zr_r (by omega) zr_n)) (zr_r (by omega) zr_n) rfl (fun M38 ad39 _ hgad39 => ?_)
  refine zx_putR (zd me_X11_init 78 rfl) fr_X11_88 hnm (by decide +kernel) rfl (fun _ => ⟨rfl, rfl⟩) ?_
  refine zx_aload_n (i := 0) (zd me_X11_init 79 rfl) rfl 0 rfl ?_
  refine zx_iconst (v := 2) (zd me_X11_init 80 rfl) (by decide) ?_
  refine zx_newq (NN := 2) (zd me_X11_init 81 rfl) lw9_X11_92 (by decide) (by decide) (by decide) ⟨(Nat.le_of_ble_eq_true rfl), (Nat.le_of_ble_eq_true rfl)⟩ (by decide +kernel) sok_X11_25 (by unfold zBIG; omega) (zr_r (by omega) zr_n) (zr_r (by omega) zr_n) (fun q40 => ?_)
  refine zx_putR (zd me_X11_init 82 rfl) fr_X11_94 hnm (by decide +kernel) rfl (fun _ => ⟨rfl, rfl⟩) ?_
  refine zx_iconst (v := 0) (zd me_X11_init 83 rfl) (by decide) ?_
  refine zx_istore_n (i := 1) (ls' := [(1, .int (0 : Int32)), (0, .ref 0)]) (zd me_X11_init 84 rfl) rfl (Nat.le_of_ble_eq_true rfl) rfl ?_
  refine zx_iload_n (i := 1) (zd me_X11_init 85 rfl) rfl 0 rfl ?_
  refine zx_iconst (v := 2) (zd me_X11_init 86 rfl) (by decide) ?_
  refine zx_eq (f2 := if (2 : Int32) ≤ (0 : Int32) then none else _) (if_neg (by decide)).symm ?_
  refine zx_icmp_ge (tgt := 205) (zd me_X11_init 87 rfl) (by decide) (fun h => absurd h (by decide)) (fun _ => ?_)
  refine zx_aload_n (i := 0) (zd me_X11_init 88 rfl) rfl 1 rfl ?_
  refine zx_getR (b := 62) (zd me_X11_init 89 rfl) fl_X11_94 (by decide +kernel) rfl (by decide +kernel) ?_
  refine zx_iload_n (i := 1) (zd me_X11_init 90 rfl) rfl 0 rfl ?_
  refine zx_new (ci := 2) (qc := (RX2, TX2, 4)) (zd me_X11_init 91 rfl) rfl lw9_X11_92 ld9_X2.1 ld9_X2.2 (by decide +kernel) ⟨(Nat.le_of_ble_eq_true rfl), (Nat.le_of_ble_eq_true rfl)⟩ (by decide +kernel) sok_X11_26 (by unfold zBIG; omega) (zr_i (zr_r (by omega) zr_n)) (zr_i (zr_r (by omega) zr_n)) (fun q41 => ?_)
  refine zx_dup (zd me_X11_init 92 rfl) rfl ?_
  refine zx_callI (N0 := 64) (as := []) (zd me_X11_init 93 rfl) (mk_X2 (zl C) (N := 64) (by decide +kernel) (by omega) (zRok.mono (N := 63) sok_X11_26 (by omega)) (by omega) (by decide +kernel) ) li9_X11_98 rfl ⟨(Nat.le_of_ble_eq_true rfl), (Nat.le_of_ble_eq_true rfl)⟩ (Nat.le_of_ble_eq_true rfl) rfl ⟨(Nat.le_of_ble_eq_true rfl), (Nat.le_of_ble_eq_true rfl)⟩ (zr_r (by omega) (zr_i (zr_r (by omega) zr_n))) (zr_i (zr_r (by omega) zr_n)) rfl (fun M42 ad43 _ hgad43 => ?_)
  refine zx_astq (NN := 2) (zd me_X11_init 94 rfl) (by decide +kernel) (by decide +kernel) (by unfold vp_in; decide) ?_
  rw [show Int32.toNatClampNeg (0 : Int32) = 0 from by decide]
  refine zx_iinc (v := 1) (ls' := [(1, .int ((0 : Int32) + 1)), (0, .ref 0)]) (zd me_X11_init 95 rfl) (Nat.le_of_ble_eq_true rfl) 0 rfl (by decide) rfl ?_
  rw [show ((0 : Int32) + 1 : Int32) = (1 : Int32) from by decide]
  refine zx_goto (tgt := 181) (zd me_X11_init 96 rfl) (by decide) ?_
  refine zx_iload_n (i := 1) (zd me_X11_init 85 rfl) rfl 0 rfl ?_
  refine zx_iconst (v := 2) (zd me_X11_init 86 rfl) (by decide) ?_
  refine zx_eq (f2 := if (2 : Int32) ≤ (1 : Int32) then none else _) (if_neg (by decide)).symm ?_
  refine zx_icmp_ge (tgt := 205) (zd me_X11_init 87 rfl) (by decide) (fun h => absurd h (by decide)) (fun _ => ?_)
  refine zx_aload_n (i := 0) (zd me_X11_init 88 rfl) rfl 1 rfl ?_
  refine zx_getR (b := 62) (zd me_X11_init 89 rfl) fl_X11_94 (by decide +kernel) rfl (by decide +kernel) ?_
  refine zx_iload_n (i := 1) (zd me_X11_init 90 rfl) rfl 0 rfl ?_
  refine zx_new (ci := 2) (qc := (RX2, TX2, 4)) (zd me_X11_init 91 rfl) rfl lw9_X11_92 ld9_X2.1 ld9_X2.2 (by decide +kernel) ⟨(Nat.le_of_ble_eq_true rfl), (Nat.le_of_ble_eq_true rfl)⟩ (by decide +kernel) sok_X11_28 (by unfold zBIG; omega) (zr_i (zr_r (by omega) zr_n)) (zr_i (zr_r (by omega) zr_n)) (fun q44 => ?_)
  refine zx_dup (zd me_X11_init 92 rfl) rfl ?_
  refine zx_callI (N0 := 77) (as := []) (zd me_X11_init 93 rfl) (mk_X2 (zl C) (N := 77) (by decide +kernel) (by omega) (zRok.mono (N := 76) sok_X11_28 (by omega)) (by omega) (by decide +kernel) ) li9_X11_98 rfl ⟨(Nat.le_of_ble_eq_true rfl), (Nat.le_of_ble_eq_true rfl)⟩ (Nat.le_of_ble_eq_true rfl) rfl ⟨(Nat.le_of_ble_eq_true rfl), (Nat.le_of_ble_eq_true rfl)⟩ (zr_r (by omega) (zr_i (zr_r (by omega) zr_n))) (zr_i (zr_r (by omega) zr_n)) rfl (fun M45 ad46 _ hgad46 => ?_)
  refine zx_astq (NN := 2) (zd me_X11_init 94 rfl) (by decide +kernel) (by decide +kernel) (by unfold vp_in; decide) ?_
  rw [show Int32.toNatClampNeg (1 : Int32) = 1 from by decide]
  refine zx_iinc (v := 1) (ls' := [(1, .int ((1 : Int32) + 1)), (0, .ref 0)]) (zd me_X11_init 95 rfl) (Nat.le_of_ble_eq_true rfl) 0 rfl (by decide) rfl ?_
  rw [show ((1 : Int32) + 1 : Int32) = (2 : Int32) from by decide]
  refine zx_goto (tgt := 181) (zd me_X11_init 96 rfl) (by decide) ?_
  refine zx_iload_n (i := 1) (zd me_X11_init 85 rfl) rfl 0 rfl ?_
  refine zx_iconst (v := 2) (zd me_X11_init 86 rfl) (by decide) ?_
  refine zx_eq (f2 := if (2 : Int32) ≤ (2 : Int32) then _ else none) (if_pos (by decide)).symm ?_
  refine zx_icmp_ge (tgt := 205) (zd me_X11_init 87 rfl) (by decide) (fun _ => ?_) (fun h => absurd (by decide) h)
  exact zx_vretC (zd me_X11_init 97 rfl) rfl rfl rfl ⟨(Nat.le_of_ble_eq_true rfl), (Nat.le_of_ble_eq_true rfl)⟩ (zag_tr (zag_up (q := q44) (zag_tr (zag_up (q := q41) (zag_up (q := q40) (zag_tr (zag_up (q := q37) (zag_tr (zag_up (q := q34) (zag_tr (zag_up (q := q31) (zag_tr (zag_up (q := q28) (zag_tr (zag_up (q := q25) (zag_tr (zag_up (q := q22) (zag_tr (zag_up (q := q19) (zag_tr (zag_up (q := q16) (zag_tr (zag_up (q := q13) (zag_tr (zag_up (q := q10) (zag_tr (zag_up (q := q7) (zag_tr (zag_up (q := q4) (zag_tr (zag_up (q := q1) (fun _ _ => rfl) (by omega) (by unfold zBIG; omega)) hgad3 (by omega)) (by omega) (by unfold zBIG; omega)) hgad6 (by omega)) (by omega) (by unfold zBIG; omega)) hgad9 (by omega)) (by omega) (by unfold zBIG; omega)) hgad12 (by omega)) (by omega) (by unfold zBIG; omega)) hgad15 (by omega)) (by omega) (by unfold zBIG; omega)) hgad18 (by omega)) (by omega) (by unfold zBIG; omega)) hgad21 (by omega)) (by omega) (by unfold zBIG; omega)) hgad24 (by omega)) (by omega) (by unfold zBIG; omega)) hgad27 (by omega)) (by omega) (by unfold zBIG; omega)) hgad30 (by omega)) (by omega) (by unfold zBIG; omega)) hgad33 (by omega)) (by omega) (by unfold zBIG; omega)) hgad36 (by omega)) (by omega) (by unfold zBIG; omega)) hgad39 (by omega)) (by omega) (by unfold zBIG; omega)) (by omega) (by unfold zBIG; omega)) hgad43 (by omega)) (by omega) (by unfold zBIG; omega)) hgad46 (by omega))
