def md_L_sheet : List (Nat × Instr × Nat) := [(0, .aload_n 3, 1), (1, .iconst 0, 1), (2, .aload_n 0, 1), (3, .iload_n 1, 1), (4, .iload_n 2, 1), (5, .invokevirtual 7, 3), (8, .i2l, 1), (9, .lastore, 1), (10, .goto 7, 3), (13, .astore 4, 2), (15, .iconst 1, 1), (16, .ireturn, 1), (17, .iconst 0, 1), (18, .ireturn, 1)]
set_option maxRecDepth 20000 in
theorem me_L_sheet : zdecs cL_sheet md_L_sheet := by
  unfold zdecs md_L_sheet
  decide +kernel
def md_L_wear : List (Nat × Instr × Nat) := [(0, .aload_n 3, 1), (1, .iconst 0, 1), (2, .aload_n 0, 1), (3, .iload_n 1, 1), (4, .iload_n 2, 1), (5, .invokevirtual 15, 3), (8, .i2l, 1), (9, .lastore, 1), (10, .goto 7, 3), (13, .astore 4, 2), (15, .iconst 1, 1), (16, .ireturn, 1), (17, .iconst 0, 1), (18, .ireturn, 1)]
set_option maxRecDepth 20000 in
theorem me_L_wear : zdecs cL_wear md_L_wear := by
  unfold zdecs md_L_wear
  decide +kernel
def md_L_mean : List (Nat × Instr × Nat) := [(0, .aload_n 2, 1), (1, .iconst 0, 1), (2, .aload_n 0, 1), (3, .iload_n 1, 1), (4, .invokevirtual 18, 3), (7, .i2l, 1), (8, .lastore, 1), (9, .goto 6, 3), (12, .astore_n 3, 1), (13, .iconst 1, 1), (14, .ireturn, 1), (15, .iconst 0, 1), (16, .ireturn, 1)]
set_option maxRecDepth 20000 in
theorem me_L_mean : zdecs cL_mean md_L_mean := by
  unfold zdecs md_L_mean
  decide +kernel
def mi7_X11_sheet : zMI := (RX11, cX11_sheet, 3, some .int, 6, 94, 1, 6)
def mf_X11_sheet (R : zRR) (a0 : Nat) (i1 : Int32) (i2 : Int32) (M : zMem) : Option (Option Int32 × zMem) :=
  zcl (mf_X7_hasSheet R (zrf R a0 1) i1 M) fun r2 M1 =>
  if r2 = 0 then
    (some (none, M1))
  else
    (if i2 < 0 then
      (some (none, M1))
    else
      (if i2 ≤ (6 : Int32) then
        (if i2 = 0 then
          (zald 8 i1 fun j9 =>
          some (some (M1.1 (zrf R (zrf R a0 1) 8) j9), M1))
        else
          (zcl (mf_X3_tellSheet R (zrf R a0 3) i1 i2 M1) fun r8 M7 =>
          some (some r8, M7)))
      else
        (some (none, M1))))
theorem mc_X11_sheet (l : Launch) (hst0 : l.stackTraces = false) {T : zTT} {R : zRR} {a0 : Nat} (h0 : zi11 T R a0) (i1 : Int32) (i2 : Int32) (M : zMem) : zMT l yX11_sheet mi7_X11_sheet (mf_X11_sheet R a0 i1 i2 M) [.ref a0, .int i1, .int i2] T R M := by
  refine zMT.of (by decide +kernel) rfl ⟨rfl, rfl⟩ (Nat.le_of_ble_eq_true rfl) (fun C ad hlc hnx => ?_)
  have hst : (zl C).stackTraces = false := by rw [hlc]; exact hst0
  show zX C mi7_X11_sheet (zFinT C ad T R) 0 0 (mf_X11_sheet R a0 i1 i2 M) 0 [(0, .ref a0), (1, .int i1), (2, .int i2)] [] ad T R M
  unfold mf_X11_sheet
  refine zx_aload_n (i := 0) (zd me_X11_sheet 0 rfl) rfl 0 rfl ?_
  refine zx_getR (zd me_X11_sheet 1 rfl) fl_X11_19 (zi11_c h0) rfl (zi11_r1 h0) ?_
  refine zx_iload_n (i := 1) (zd me_X11_sheet 2 rfl) rfl 1 rfl ?_
  refine zx_callVI1 (zd me_X11_sheet 3 rfl) (mc_X7_hasSheet (zl C) (zi11_t1 h0) i1 M) lk_X11_160 ⟨(Nat.le_of_ble_eq_true rfl), (Nat.le_of_ble_eq_true rfl)⟩ (Nat.le_of_ble_eq_true rfl) (zi7_c (zi11_t1 h0)) rfl (fun r2 M1 => ?_)
  refine zx_if_eq (tgt := 21) (zd me_X11_sheet 4 rfl) (by decide) (fun c3 => ?_) (fun c3 => ?_)
  · exact zx_throw hst hnx rfl (zd me_X11_sheet 10 rfl) (zd me_X11_sheet 11 rfl) (zd me_X11_sheet 12 rfl) (zd me_X11_sheet 13 rfl) ⟨by decide, by decide, by decide, by decide⟩
  · refine zx_iload_n (i := 2) (zd me_X11_sheet 5 rfl) rfl 2 rfl ?_
    refine zx_if_lt (tgt := 21) (zd me_X11_sheet 6 rfl) (by decide) (fun c4 => ?_) (fun c4 => ?_)
    · exact zx_throw hst hnx rfl (zd me_X11_sheet 10 rfl) (zd me_X11_sheet 11 rfl) (zd me_X11_sheet 12 rfl) (zd me_X11_sheet 13 rfl) ⟨by decide, by decide, by decide, by decide⟩
    · refine zx_iload_n (i := 2) (zd me_X11_sheet 7 rfl) rfl 2 rfl ?_
      refine zx_bipush (v := 6) (zd me_X11_sheet 8 rfl) (by decide) ?_
      refine zx_icmp_le (tgt := 29) (zd me_X11_sheet 9 rfl) (by decide) (fun c5 => ?_) (fun c5 => ?_)
      · refine zx_iload_n (i := 2) (zd me_X11_sheet 14 rfl) rfl 2 rfl ?_
        refine zx_if_ne (tgt := 45) (zd me_X11_sheet 15 rfl) (by decide) (fun c6 => ?_) (fun c6 => ?_)
        · refine zx_aload_n (i := 0) (zd me_X11_sheet 22 rfl) rfl 0 rfl ?_
          refine zx_getR (zd me_X11_sheet 23 rfl) fl_X11_31 (zi11_c h0) rfl (zi11_r3 h0) ?_
          refine zx_iload_n (i := 1) (zd me_X11_sheet 24 rfl) rfl 1 rfl ?_
          refine zx_iload_n (i := 2) (zd me_X11_sheet 25 rfl) rfl 2 rfl ?_
          refine zx_callVI2 (zd me_X11_sheet 26 rfl) (mc_X3_tellSheet (zl C) (zi11_t3 h0) i1 i2 M1) lk_X11_169 ⟨(Nat.le_of_ble_eq_true rfl), (Nat.le_of_ble_eq_true rfl)⟩ (Nat.le_of_ble_eq_true rfl) (zi3_c (zi11_t3 h0)) rfl (fun r8 M7 => ?_)
          exact zx_iretT (zd me_X11_sheet 27 rfl) rfl
        · refine zx_aload_n (i := 0) (zd me_X11_sheet 16 rfl) rfl 0 rfl ?_
          refine zx_getR (zd me_X11_sheet 17 rfl) fl_X11_19 (zi11_c h0) rfl (zi11_r1 h0) ?_
          refine zx_getR (zd me_X11_sheet 18 rfl) fl_X11_166 (zi7_c (zi11_t1 h0)) rfl (zi7_r8 (zi11_t1 h0)) ?_
          refine zx_iload_n (i := 1) (zd me_X11_sheet 19 rfl) rfl 1 rfl ?_
          refine zx_iald (zd me_X11_sheet 20 rfl) (zi7_t8 (zi11_t1 h0)) (fun j9 hj9 => ?_)
          refine zx_goto (tgt := 54) (zd me_X11_sheet 21 rfl) (by decide) ?_
          exact zx_iretT (zd me_X11_sheet 27 rfl) rfl
      · exact zx_throw hst hnx rfl (zd me_X11_sheet 10 rfl) (zd me_X11_sheet 11 rfl) (zd me_X11_sheet 12 rfl) (zd me_X11_sheet 13 rfl) ⟨by decide, by decide, by decide, by decide⟩
def mi7_X11_wear : zMI := (RX11, cX11_wear, 3, some .int, 6, 90, 1, 6)
def mf_X11_wear (R : zRR) (a0 : Nat) (i1 : Int32) (i2 : Int32) (M : zMem) : Option (Option Int32 × zMem) :=
  zcl (mf_X7_hasBath R (zrf R a0 1) i1 M) fun r2 M1 =>
  if r2 = 0 then
    (some (none, M1))
  else
    (if i2 < 0 then
      (some (none, M1))
    else
      (if i2 ≤ (1 : Int32) then
        (zcl (mf_X3_hadBy R (zrf R a0 3) i1 M1) fun r7 M6 =>
        zald 6 i1 fun j8 =>
        zcl (mf_X11_inLeastTerms R r7 (M6.1 (zrf R (zrf R a0 1) 7) j8) i2 M6) fun r10 M9 =>
        some (some r10, M9))
      else
        (some (none, M1))))
theorem mc_X11_wear (l : Launch) (hst0 : l.stackTraces = false) {T : zTT} {R : zRR} {a0 : Nat} (h0 : zi11 T R a0) (i1 : Int32) (i2 : Int32) (M : zMem) : zMT l yX11_wear mi7_X11_wear (mf_X11_wear R a0 i1 i2 M) [.ref a0, .int i1, .int i2] T R M := by
  refine zMT.of (by decide +kernel) rfl ⟨rfl, rfl⟩ (Nat.le_of_ble_eq_true rfl) (fun C ad hlc hnx => ?_)
  have hst : (zl C).stackTraces = false := by rw [hlc]; exact hst0
  show zX C mi7_X11_wear (zFinT C ad T R) 0 0 (mf_X11_wear R a0 i1 i2 M) 0 [(0, .ref a0), (1, .int i1), (2, .int i2)] [] ad T R M
  unfold mf_X11_wear
  refine zx_aload_n (i := 0) (zd me_X11_wear 0 rfl) rfl 0 rfl ?_
  refine zx_getR (zd me_X11_wear 1 rfl) fl_X11_19 (zi11_c h0) rfl (zi11_r1 h0) ?_
  refine zx_iload_n (i := 1) (zd me_X11_wear 2 rfl) rfl 1 rfl ?_
  refine zx_callVI1 (zd me_X11_wear 3 rfl) (mc_X7_hasBath (zl C) (zi11_t1 h0) i1 M) lk_X11_129 ⟨(Nat.le_of_ble_eq_true rfl), (Nat.le_of_ble_eq_true rfl)⟩ (Nat.le_of_ble_eq_true rfl) (zi7_c (zi11_t1 h0)) rfl (fun r2 M1 => ?_)
  refine zx_if_eq (tgt := 20) (zd me_X11_wear 4 rfl) (by decide) (fun c3 => ?_) (fun c3 => ?_)
  · exact zx_throw hst hnx rfl (zd me_X11_wear 10 rfl) (zd me_X11_wear 11 rfl) (zd me_X11_wear 12 rfl) (zd me_X11_wear 13 rfl) ⟨by decide, by decide, by decide, by decide⟩
  · refine zx_iload_n (i := 2) (zd me_X11_wear 5 rfl) rfl 2 rfl ?_
    refine zx_if_lt (tgt := 20) (zd me_X11_wear 6 rfl) (by decide) (fun c4 => ?_) (fun c4 => ?_)
    · exact zx_throw hst hnx rfl (zd me_X11_wear 10 rfl) (zd me_X11_wear 11 rfl) (zd me_X11_wear 12 rfl) (zd me_X11_wear 13 rfl) ⟨by decide, by decide, by decide, by decide⟩
    · refine zx_iload_n (i := 2) (zd me_X11_wear 7 rfl) rfl 2 rfl ?_
      refine zx_iconst (v := 1) (zd me_X11_wear 8 rfl) (by decide) ?_
      refine zx_icmp_le (tgt := 28) (zd me_X11_wear 9 rfl) (by decide) (fun c5 => ?_) (fun c5 => ?_)
      · refine zx_aload_n (i := 0) (zd me_X11_wear 14 rfl) rfl 0 rfl ?_
        refine zx_getR (zd me_X11_wear 15 rfl) fl_X11_31 (zi11_c h0) rfl (zi11_r3 h0) ?_
        refine zx_iload_n (i := 1) (zd me_X11_wear 16 rfl) rfl 1 rfl ?_
        refine zx_callVI1 (zd me_X11_wear 17 rfl) (mc_X3_hadBy (zl C) (zi11_t3 h0) i1 M1) lk_X11_140 ⟨(Nat.le_of_ble_eq_true rfl), (Nat.le_of_ble_eq_true rfl)⟩ (Nat.le_of_ble_eq_true rfl) (zi3_c (zi11_t3 h0)) rfl (fun r7 M6 => ?_)
        refine zx_aload_n (i := 0) (zd me_X11_wear 18 rfl) rfl 0 rfl ?_
        refine zx_getR (zd me_X11_wear 19 rfl) fl_X11_19 (zi11_c h0) rfl (zi11_r1 h0) ?_
        refine zx_getR (zd me_X11_wear 20 rfl) fl_X11_137 (zi7_c (zi11_t1 h0)) rfl (zi7_r7 (zi11_t1 h0)) ?_
        refine zx_iload_n (i := 1) (zd me_X11_wear 21 rfl) rfl 1 rfl ?_
        refine zx_iald (zd me_X11_wear 22 rfl) (zi7_t7 (zi11_t1 h0)) (fun j8 hj8 => ?_)
        refine zx_iload_n (i := 2) (zd me_X11_wear 23 rfl) rfl 2 rfl ?_
        refine zx_callSI3 (zd me_X11_wear 24 rfl) (mc_X11_inLeastTerms (zl C) r7 (M6.1 (zrf R (zrf R a0 1) 7) j8) i2 M6) lk_X11_292 ⟨(Nat.le_of_ble_eq_true rfl), (Nat.le_of_ble_eq_true rfl)⟩ (Nat.le_of_ble_eq_true rfl) (fun r10 M9 => ?_)
        exact zx_iretT (zd me_X11_wear 25 rfl) rfl
      · exact zx_throw hst hnx rfl (zd me_X11_wear 10 rfl) (zd me_X11_wear 11 rfl) (zd me_X11_wear 12 rfl) (zd me_X11_wear 13 rfl) ⟨by decide, by decide, by decide, by decide⟩
def mi7_X11_mean : zMI := (RX11, cX11_mean, 2, some .int, 6, 90, 1, 6)
def mf_X11_mean (R : zRR) (a0 : Nat) (i1 : Int32) (M : zMem) : Option (Option Int32 × zMem) :=
  if (M.1 (zrf R a0 1) 2) = 0 then
    (some (none, M))
  else
    (if i1 < 0 then
      (some (none, M))
    else
      (if i1 ≤ (1 : Int32) then
        (zcl (mf_X3_minutesOver R (zrf R a0 3) M) fun r5 M4 =>
        zcl (mf_X11_inLeastTerms R r5 (M4.1 (zrf R a0 1) 2) i1 M4) fun r7 M6 =>
        some (some r7, M6))
      else
        (some (none, M))))
theorem mc_X11_mean (l : Launch) (hst0 : l.stackTraces = false) {T : zTT} {R : zRR} {a0 : Nat} (h0 : zi11 T R a0) (i1 : Int32) (M : zMem) : zMT l yX11_mean mi7_X11_mean (mf_X11_mean R a0 i1 M) [.ref a0, .int i1] T R M := by
  refine zMT.of (by decide +kernel) rfl ⟨rfl, rfl⟩ (Nat.le_of_ble_eq_true rfl) (fun C ad hlc hnx => ?_)
  have hst : (zl C).stackTraces = false := by rw [hlc]; exact hst0
  show zX C mi7_X11_mean (zFinT C ad T R) 0 0 (mf_X11_mean R a0 i1 M) 0 [(0, .ref a0), (1, .int i1)] [] ad T R M
  unfold mf_X11_mean
  refine zx_aload_n (i := 0) (zd me_X11_mean 0 rfl) rfl 0 rfl ?_
  refine zx_getR (zd me_X11_mean 1 rfl) fl_X11_19 (zi11_c h0) rfl (zi11_r1 h0) ?_
  refine zx_getI (zd me_X11_mean 2 rfl) fl_X11_296 (zi7_c (zi11_t1 h0)) rfl ?_
  refine zx_if_eq (tgt := 19) (zd me_X11_mean 3 rfl) (by decide) (fun c1 => ?_) (fun c1 => ?_)
  · exact zx_throw hst hnx rfl (zd me_X11_mean 9 rfl) (zd me_X11_mean 10 rfl) (zd me_X11_mean 11 rfl) (zd me_X11_mean 12 rfl) ⟨by decide, by decide, by decide, by decide⟩
  · refine zx_iload_n (i := 1) (zd me_X11_mean 4 rfl) rfl 1 rfl ?_
    refine zx_if_lt (tgt := 19) (zd me_X11_mean 5 rfl) (by decide) (fun c2 => ?_) (fun c2 => ?_)
    · exact zx_throw hst hnx rfl (zd me_X11_mean 9 rfl) (zd me_X11_mean 10 rfl) (zd me_X11_mean 11 rfl) (zd me_X11_mean 12 rfl) ⟨by decide, by decide, by decide, by decide⟩
    · refine zx_iload_n (i := 1) (zd me_X11_mean 6 rfl) rfl 1 rfl ?_
      refine zx_iconst (v := 1) (zd me_X11_mean 7 rfl) (by decide) ?_
      refine zx_icmp_le (tgt := 27) (zd me_X11_mean 8 rfl) (by decide) (fun c3 => ?_) (fun c3 => ?_)
      · refine zx_aload_n (i := 0) (zd me_X11_mean 13 rfl) rfl 0 rfl ?_
        refine zx_getR (zd me_X11_mean 14 rfl) fl_X11_31 (zi11_c h0) rfl (zi11_r3 h0) ?_
        refine zx_callVI0 (zd me_X11_mean 15 rfl) (mc_X3_minutesOver (zl C) (zi11_t3 h0) M) lk_X11_299 ⟨(Nat.le_of_ble_eq_true rfl), (Nat.le_of_ble_eq_true rfl)⟩ (Nat.le_of_ble_eq_true rfl) (zi3_c (zi11_t3 h0)) rfl (fun r5 M4 => ?_)
        refine zx_aload_n (i := 0) (zd me_X11_mean 16 rfl) rfl 0 rfl ?_
        refine zx_getR (zd me_X11_mean 17 rfl) fl_X11_19 (zi11_c h0) rfl (zi11_r1 h0) ?_
        refine zx_getI (zd me_X11_mean 18 rfl) fl_X11_296 (zi7_c (zi11_t1 h0)) rfl ?_
        refine zx_iload_n (i := 1) (zd me_X11_mean 19 rfl) rfl 1 rfl ?_
        refine zx_callSI3 (zd me_X11_mean 20 rfl) (mc_X11_inLeastTerms (zl C) r5 (M4.1 (zrf R a0 1) 2) i1 M4) lk_X11_292 ⟨(Nat.le_of_ble_eq_true rfl), (Nat.le_of_ble_eq_true rfl)⟩ (Nat.le_of_ble_eq_true rfl) (fun r7 M6 => ?_)
        exact zx_iretT (zd me_X11_mean 21 rfl) rfl
      · exact zx_throw hst hnx rfl (zd me_X11_mean 9 rfl) (zd me_X11_mean 10 rfl) (zd me_X11_mean 11 rfl) (zd me_X11_mean 12 rfl) ⟨by decide, by decide, by decide, by decide⟩
section ZX
variable {ρ ρ' : Type} {C : zCx} {Y : zMI} {Q : ρ → zMem → State → Prop} {k n : Nat} {f f1 f2 : Option (ρ × zMem)} {pc : Nat} {ls ls' : List (Nat × Value)} {st : List Value} {ad : Nat → Nat} {T : zTT} {R : zRR} {M : zMem}
theorem zx_widen {k' n' : Nat} (h1 : k ≤ k') (h2 : n ≤ n') (hb : k' ≤ zmc Y ∧ n' ≤ zms Y) (kk : zX C Y Q k' n' f pc ls st ad T R M) : zX C Y Q k n f pc ls st ad T R M := by
  obtain ⟨p, l, e, Rm, s, m, args, below, meth, c, D, cs, A, K⟩ := C
  intro r M' hf hO hkn H locs la hP hD hS hl
  have hO' := hO
  obtain ⟨hx, hb0, hml, hr, hown, hts, hK, hA, hlk, hB, hST, hR1, hR2, hR3, hR4⟩ := hO
  exact W.widen h1 h2 (kk r M' hf hO' ⟨Nat.le_trans hb.1 hR3, Nat.le_trans hb.2 hR4, hkn.2.2⟩ H locs la hP hD hS hl)
theorem zx_iretA {v : Int32} (d : decode (zcc Y) pc = .ok (.ireturn, 1)) (h0 : zret Y = some .int) (hcs : k = zmc Y ∧ n = zms Y) : zX C Y (zFinA C Y zrvI ad T R) k n (some (v, M)) pc ls [.int v] ad T R M := by
  obtain ⟨p, l, e, Rm, s, m, args, below, meth, c, D, cs, A, K⟩ := C
  intro r M' hf hO hkn H locs la hP hD hS hl
  obtain ⟨hx, hb, hml, hr, hown, hts, hK, hA, hlk, hB, hST, hR1, hR2, hR3, hR4⟩ := hO
  obtain ⟨rfl, rfl⟩ := hcs
  cases hf
  exact W.iret hx hb (hr.trans h0) (fun t ht hW => ⟨⟨rfl, by rw [ht]; exact hP⟩, hS.F ht⟩) (fun q hq => hS.2.2 q hq) d hlk
/-- a static call of a method with a table of handlers -/
def zLW (own : String) (idx : Nat) (y : MethodName) (Y : zMI) (hh : List (Nat × Nat × Nat × Nat)) (n : Nat) : Prop := Cond.methodLink own idx y ∈ zgtbl ∧ Cond.initialized y.cls ∈ zgtbl ∧ Cond.codeWith y (zcc Y) (znL Y) (zret Y) hh ∈ zgtbl ∧ (y.cls ≠ "java/lang/invoke/MethodHandle" ∧ y.cls ≠ "java/lang/invoke/VarHandle") ∧ (parseMethodDescriptor y.desc).map (fun d => d.parameters.length) = some n ∧ Cond.static y ∈ zgtbl
theorem zx_callW {y : MethodName} {Yc : zMI} {idx na : Nat} {hh : List (Nat × Nat × Nat × Nat)} {fc : Option (Int32 × zMem)} {Kf : Int32 → zMem → Option (ρ × zMem)} {as : List Value} (d : decode (zcc Y) pc = .ok (.invokestatic idx, 3)) (hm : zMA (zl C) y Yc (Cond.codeWith y (zcc Yc) (znL Yc) (zret Yc) hh :: zgtbl) zrvI fc as T R M) (hlk0 : zLW (zown Y) idx y Yc hh na) (hroom : zfr Yc + 1 ≤ zfr Y ∧ 8 + (znL Yc + 11) + zlo Yc ≤ zlo Y) (hst : (st.map fun v => v.category).sum ≤ 8) (hna : as.length = na) (hcs : k + zmc Yc ≤ zmc Y ∧ n + zms Yc ≤ zms Y) {stk : List Value} (hstk : as.reverse ++ st = stk) (kk : ∀ (r1 : Int32) (M1 : zMem), zX C Y Q (k + zmc Yc) (n + zms Yc) (Kf r1 M1) (pc + 3) ls (.int r1 :: st) ad T R M1) : zX C Y Q k n (zcl fc Kf) pc ls stk ad T R M := by
  obtain ⟨p, l, e, Rm, s, m, args, below, meth, c, D, cs, A, K⟩ := C
  intro r M' hf hO hkn H locs la hP hD hS hl
  have hO' := hO
  obtain ⟨hx, hb, hml, hr, hown, hts, hK, hA, hlk, hB, hST, hR1, hR2, hR3, hR4⟩ := hO
  obtain ⟨r1, M1, hfc, hf⟩ := zcl_some hf
  have hM := hm r1 M1 hfc D cs ad K H.size
  have hfree : ∀ q, va_A (zworld cs ad T R M) H.size q → A q := fun q hq => by
    rcases hq with ⟨i, e0, hq⟩ | hq
    · exact hD.2 i (q, e0) hq
    · exact hA q (Nat.le_trans hS.1 hq)
  obtain ⟨hlink, hini, hcode, hmh, hpar, hstt⟩ := hlk0
  have hws : ∀ w ∈ (Cond.codeWith y (zcc Yc) (znL Yc) (zret Yc) hh :: zgtbl), ∀ (a' : Array Value) (U : State), s.WarmedH U.vm → w.before a' U = true := pay_in hts (fun w hw => (List.mem_cons.mp hw).elim (fun h => by rw [h]; exact zg_in _ hcode) (fun h => zg_in w h))
  have hstc : ((st.map (zcv ad)).map fun v => v.category).sum ≤ 8 := by rw [zcats]; exact hst
  have hfr : zfr Yc + 1 ≤ Rm.frames := Nat.le_trans hroom.1 hR1
  have hlo : 8 + (znL Yc + 11) + zlo Yc ≤ Rm.locals := Nat.le_trans hroom.2 hR2
  have hcs2 : k + zmc Yc ≤ Rm.cells ∧ n + zms Yc ≤ Rm.slots := ⟨Nat.le_trans hcs.1 hR3, Nat.le_trans hcs.2 hR4⟩
  have hps : (F0 m pc la (stk.map (zcv ad))).stack = (as.map (zcv ad)).reverse ++ st.map (zcv ad) := by
    subst hstk
    simp [List.map_append, List.map_reverse]
  have hPc : ∀ U : State, U.heap = H → s.WarmedH U.vm → va_Pc (as.map (zcv ad)) (zPre D cs ad K H.size T R M) (as.map (zcv ad)).toArray U := (fun U hU hW => ⟨rfl, by rw [hU], by rw [hU]; exact hP, va_K.moved hW.alike hK, hD.weaken (fun _ _ _ _ => trivial), ((by rw [hU]; exact (hB.kept hS.2.1).moved hW.alike : zBG K zlenJS zbytJS A U U.heap)).narrow hfree, hST.warm hW, hkn.2.2⟩)
  have hrun : va_Run p l e Rm s m args below meth c H locs k n (zmc Yc) (zms Yc) (F0 m pc la (stk.map (zcv ad))) (st.map (zcv ad)) (zQR D cs ad T R (va_A (zworld cs ad T R M) H.size) (zrvI r1) M1 (as.map (zcv ad)).toArray) (va_A (zworld cs ad T R M) H.size) :=
    vx_runSW (n := na) (bytes := zcc Yc) (maxL := znL Yc) (ret := zret Yc) (hh := hh) ⟨hx, hb, hml, hown, hts⟩ hM ⟨⟨rfl, rfl, hfr, hlo, hws, List.mem_cons_self⟩, hts _ hcode, hts _ hini, hmh, zparam hpar, hts _ hlink, hts _ hstt⟩ ⟨zpre_blind, hPc⟩ rfl (by rw [List.length_map]; exact hna) hl.1 hps (lv_room hstc) d hcs2
  intro T0 hT0 X0
  obtain ⟨v, st₀, t, T', L, h0, X', hL, e1, e2, ⟨⟨hv, hP1⟩, hz, hk⟩, stp⟩ := hrun T0 hT0 X0
  rw [h0] at hz hk
  cases hv
  have h2 : va_P D zClasses (zworld cs ad T R M1) T'.heap := by rw [e1]; exact hP1
  have h3 : va_D A (zworld cs ad T R M1) := ⟨fun i j x z hi hj hxz => by
      obtain ⟨x0, a1, a2⟩ := zworld_adr (M' := M) hi
      obtain ⟨z0, a3, a4⟩ := zworld_adr (M' := M) hj
      exact hD.1 i j x0 z0 a1 a3 (by rw [a2, a4]; exact hxz), fun i x hi => by
      obtain ⟨x0, a1, a2⟩ := zworld_adr (M' := M) hi
      rw [← a2]
      exact hD.2 i x0 a1⟩
  have h4 : va_S A s.heap T'.heap (locs ++ L) := ⟨Nat.le_trans hS.1 (by rw [e1]; exact hz), fun q q1 q2 => by rw [e1, hk q (Nat.lt_of_lt_of_le q1 hS.1) (fun z => q2 (hfree q z))]; exact hS.2.1 q q1 q2, fun q hq => by
      rcases List.mem_append.mp hq with h | h
      · exact hS.2.2 q h
      · exact hfree _ (hL q h)⟩
  obtain ⟨t2, a1, b1⟩ := kk r1 M1 r M' hf hO' ⟨hcs2.1, hcs2.2, hkn.2.2⟩ T'.heap (locs ++ L) la h2 h3 h4 hl T' rfl X'
  exact ⟨t2, stp t2 a1, b1⟩
/-- the script -/
def zScr (C : zCx) (ad : Nat → Nat) (L : Nat) (xs : Nat → Int32) : Prop := match C with
  | (_, _, _, _, s, _, _, _, _, _, _, _, A, _) => va_X (ad (zBIG + 60)) L xs s s.heap ∧ ad (zBIG + 60) < s.heap.size ∧ ¬ A (ad (zBIG + 60))
theorem zx_sld {i : Int32} {L : Nat} {xs : Nat → Int32} {Kf : Nat → Option (ρ × zMem)} (hs : zScr C ad L xs) (d : decode (zcc Y) pc = .ok (.iaload, 1)) (kk : ∀ j : Nat, zX C Y Q k n (Kf j) (pc + 1) ls (.int (xs j) :: st) ad T R M) : zX C Y Q k n (zald L i Kf) pc ls (.int i :: .ref (zBIG + 60) :: st) ad T R M := by
  obtain ⟨p, l, e, Rm, s, m, args, below, meth, c, D, cs, A, K⟩ := C
  intro r M' hf hO hkn H locs la hP hD hS hl
  have hO' := hO
  obtain ⟨hx, hb, hml, hr, hown, hts, hK, hA, hlk, hB, hST, hR1, hR2, hR3, hR4⟩ := hO
  obtain ⟨hin, hf⟩ := zald_some hf
  exact va_sld hx hb hs.1 hs.2.1 hs.2.2 hS hin d (kk _ r M' hf hO' hkn H locs la hP hD hS hl)
theorem zx_slenL {L : Nat} {xs : Nat → Int32} (hs : zScr C ad L xs) (d : decode (zcc Y) pc = .ok (.arraylength, 1)) (kk : zX C Y Q k n f (pc + 1) ls (.int (Int32.ofNat L) :: st) ad T R M) : zX C Y Q k n f pc ls (.ref (zBIG + 60) :: st) ad T R M := by
  obtain ⟨p, l, e, Rm, s, m, args, below, meth, c, D, cs, A, K⟩ := C
  intro r M' hf hO hkn H locs la hP hD hS hl
  have hO' := hO
  obtain ⟨hx, hb, hml, hr, hown, hts, hK, hA, hlk, hB, hST, hR1, hR2, hR3, hR4⟩ := hO
  exact va_slen hx hb hs.1 hs.2.1 hs.2.2 hS d (kk r M' hf hO' hkn H locs la hP hD hS hl)
end ZX
def mi7_L_sheet : zMI := (RL, cL_sheet, 5, some .int, 7, 116, 1, 6)
theorem lk_L_7 : zLV RL 7 yX11_sheet mi7_X11_sheet 2 := ⟨⟨zgw (zt5 207 rfl rfl), lm_X11_sheet.1, lm_X11_sheet.2.1, lm_X11_sheet.2.2.1, lm_X11_sheet.2.2.2⟩, li_X11_sheet⟩
def mf_L_sheet (R : zRR) (a0 : Nat) (i1 i2 : Int32) (a3 : Nat) (M : zMem) : Option (Int32 × zMem) :=
  zcl (mf_X11_sheet R a0 i1 i2 M) fun r M1 => match r with
    | none => some (1, M1)
    | some v => zald 1 (0 : Int32) fun j => zlet (zwL M1 a3 j v.toInt64) fun M2 => some ((0 : Int32), M2)
theorem zl13 : Cond.classLink RL 13 "java/util/NoSuchElementException" ∈ zgtbl := (zt5 206 rfl rfl)
theorem mc_L_sheet (l : Launch) (hst0 : l.stackTraces = false) {T : zTT} {R : zRR} {a0 a3 : Nat} (h0 : zi11 T R a0) (h9 : T[a3]? = some (2, 1)) (i1 i2 : Int32) (M : zMem) : zMA l yL_sheet mi7_L_sheet (Cond.codeWith yL_sheet cL_sheet 5 (some .int) [(0, 10, 13, 13)] :: zgtbl) zrvI (mf_L_sheet R a0 i1 i2 a3 M) [.ref a0, .int i1, .int i2, .ref a3] T R M := by
  refine zMA.ofW (by decide +kernel) rfl (Nat.le_of_ble_eq_true rfl) (fun C ad hlc htab => ?_)
  have hst : (zl C).stackTraces = false := by rw [hlc]; exact hst0
  show zX C mi7_L_sheet (zFinA C mi7_L_sheet zrvI ad T R) 0 0 (mf_L_sheet R a0 i1 i2 a3 M) 0 [(0, .ref a0), (1, .int i1), (2, .int i2), (3, .ref a3)] [] ad T R M
  unfold mf_L_sheet
  refine zx_aload_n (i := 3) (zd me_L_sheet 0 rfl) rfl 3 rfl ?_
  refine zx_iconst (v := 0) (zd me_L_sheet 1 rfl) (by decide) ?_
  refine zx_aload_n (i := 0) (zd me_L_sheet 2 rfl) rfl 0 rfl ?_
  refine zx_iload_n (i := 1) (zd me_L_sheet 3 rfl) rfl 1 rfl ?_
  refine zx_iload_n (i := 2) (zd me_L_sheet 4 rfl) rfl 2 rfl ?_
  refine zx_try (ci := 11) (e1 := 10) (h1 := 13) (as := [.int i1, .int i2]) (zd me_L_sheet 5 rfl) (mc_X11_sheet (zl C) hst h0 i1 i2 M) lk_L_7 ⟨(Nat.le_of_ble_eq_true rfl), (Nat.le_of_ble_eq_true rfl)⟩ (Nat.le_of_ble_eq_true rfl) rfl (zi11_c h0) rfl rfl ⟨rfl, rfl⟩ htab (by decide) zl13 (Or.inl ⟨4, by decide, (zd me_L_sheet 9 rfl), rfl⟩) (zd me_L_sheet 10 rfl) (zd me_L_sheet 11 rfl) rfl (fun _ => rfl) (fun v M1 => ?_)
  show zX C _ _ 1 6 (zald 1 (0 : Int32) fun j => zlet (zwL M1 a3 j v.toInt64) fun M2 => some ((0 : Int32), M2)) _ _ _ _ _ _ _
  refine zx_i2l (zd me_L_sheet 6 rfl) ?_
  refine zx_last (zd me_L_sheet 7 rfl) h9 (fun M2 => ?_)
  refine zx_goto (tgt := 17) (zd me_L_sheet 8 rfl) (by decide) ?_
  refine zx_iconst (v := 0) (zd me_L_sheet 12 rfl) (by decide) ?_
  exact zx_iretA (zd me_L_sheet 13 rfl) rfl ⟨rfl, rfl⟩
theorem lk_L_53 : zLW RL 53 yL_sheet mi7_L_sheet [(0, 10, 13, 13)] 4 := ⟨(zt5 203 rfl rfl), (zt1 0 rfl rfl), (zt5 205 rfl rfl), ⟨by decide +kernel, by decide +kernel⟩, by decide +kernel, (zt5 204 rfl rfl)⟩
def mi7_L_wear : zMI := (RL, cL_wear, 5, some .int, 7, 112, 1, 6)
theorem lk_L_15 : zLV RL 15 yX11_wear mi7_X11_wear 2 := ⟨⟨zgw (zt6 43 rfl rfl), lm_X11_wear.1, lm_X11_wear.2.1, lm_X11_wear.2.2.1, lm_X11_wear.2.2.2⟩, li_X11_wear⟩
def mf_L_wear (R : zRR) (a0 : Nat) (i1 i2 : Int32) (a3 : Nat) (M : zMem) : Option (Int32 × zMem) :=
  zcl (mf_X11_wear R a0 i1 i2 M) fun r M1 => match r with
    | none => some (1, M1)
    | some v => zald 1 (0 : Int32) fun j => zlet (zwL M1 a3 j v.toInt64) fun M2 => some ((0 : Int32), M2)
theorem mc_L_wear (l : Launch) (hst0 : l.stackTraces = false) {T : zTT} {R : zRR} {a0 a3 : Nat} (h0 : zi11 T R a0) (h9 : T[a3]? = some (2, 1)) (i1 i2 : Int32) (M : zMem) : zMA l yL_wear mi7_L_wear (Cond.codeWith yL_wear cL_wear 5 (some .int) [(0, 10, 13, 13)] :: zgtbl) zrvI (mf_L_wear R a0 i1 i2 a3 M) [.ref a0, .int i1, .int i2, .ref a3] T R M := by
  refine zMA.ofW (by decide +kernel) rfl (Nat.le_of_ble_eq_true rfl) (fun C ad hlc htab => ?_)
  have hst : (zl C).stackTraces = false := by rw [hlc]; exact hst0
  show zX C mi7_L_wear (zFinA C mi7_L_wear zrvI ad T R) 0 0 (mf_L_wear R a0 i1 i2 a3 M) 0 [(0, .ref a0), (1, .int i1), (2, .int i2), (3, .ref a3)] [] ad T R M
  unfold mf_L_wear
  refine zx_aload_n (i := 3) (zd me_L_wear 0 rfl) rfl 3 rfl ?_
  refine zx_iconst (v := 0) (zd me_L_wear 1 rfl) (by decide) ?_
  refine zx_aload_n (i := 0) (zd me_L_wear 2 rfl) rfl 0 rfl ?_
  refine zx_iload_n (i := 1) (zd me_L_wear 3 rfl) rfl 1 rfl ?_
  refine zx_iload_n (i := 2) (zd me_L_wear 4 rfl) rfl 2 rfl ?_
  refine zx_try (ci := 11) (e1 := 10) (h1 := 13) (as := [.int i1, .int i2]) (zd me_L_wear 5 rfl) (mc_X11_wear (zl C) hst h0 i1 i2 M) lk_L_15 ⟨(Nat.le_of_ble_eq_true rfl), (Nat.le_of_ble_eq_true rfl)⟩ (Nat.le_of_ble_eq_true rfl) rfl (zi11_c h0) rfl rfl ⟨rfl, rfl⟩ htab (by decide) zl13 (Or.inl ⟨4, by decide, (zd me_L_wear 9 rfl), rfl⟩) (zd me_L_wear 10 rfl) (zd me_L_wear 11 rfl) rfl (fun _ => rfl) (fun v M1 => ?_)
  show zX C _ _ 1 6 (zald 1 (0 : Int32) fun j => zlet (zwL M1 a3 j v.toInt64) fun M2 => some ((0 : Int32), M2)) _ _ _ _ _ _ _
  refine zx_i2l (zd me_L_wear 6 rfl) ?_
  refine zx_last (zd me_L_wear 7 rfl) h9 (fun M2 => ?_)
  refine zx_goto (tgt := 17) (zd me_L_wear 8 rfl) (by decide) ?_
  refine zx_iconst (v := 0) (zd me_L_wear 12 rfl) (by decide) ?_
  exact zx_iretA (zd me_L_wear 13 rfl) rfl ⟨rfl, rfl⟩
theorem lk_L_150 : zLW RL 150 yL_wear mi7_L_wear [(0, 10, 13, 13)] 4 := ⟨(zt6 40 rfl rfl), (zt1 0 rfl rfl), (zt6 42 rfl rfl), ⟨by decide +kernel, by decide +kernel⟩, by decide +kernel, (zt6 41 rfl rfl)⟩
def mi7_L_mean : zMI := (RL, cL_mean, 4, some .int, 7, 111, 1, 6)
theorem lk_L_18 : zLV RL 18 yX11_mean mi7_X11_mean 1 := ⟨⟨zgw (zt6 54 rfl rfl), lm_X11_mean.1, lm_X11_mean.2.1, lm_X11_mean.2.2.1, lm_X11_mean.2.2.2⟩, li_X11_mean⟩
def mf_L_mean (R : zRR) (a0 : Nat) (i1 : Int32) (a2 : Nat) (M : zMem) : Option (Int32 × zMem) :=
  zcl (mf_X11_mean R a0 i1 M) fun r M1 => match r with
    | none => some (1, M1)
    | some v => zald 1 (0 : Int32) fun j => zlet (zwL M1 a2 j v.toInt64) fun M2 => some ((0 : Int32), M2)
theorem mc_L_mean (l : Launch) (hst0 : l.stackTraces = false) {T : zTT} {R : zRR} {a0 a2 : Nat} (h0 : zi11 T R a0) (h9 : T[a2]? = some (2, 1)) (i1 : Int32) (M : zMem) : zMA l yL_mean mi7_L_mean (Cond.codeWith yL_mean cL_mean 4 (some .int) [(0, 9, 12, 13)] :: zgtbl) zrvI (mf_L_mean R a0 i1 a2 M) [.ref a0, .int i1, .ref a2] T R M := by
  refine zMA.ofW (by decide +kernel) rfl (Nat.le_of_ble_eq_true rfl) (fun C ad hlc htab => ?_)
  have hst : (zl C).stackTraces = false := by rw [hlc]; exact hst0
  show zX C mi7_L_mean (zFinA C mi7_L_mean zrvI ad T R) 0 0 (mf_L_mean R a0 i1 a2 M) 0 [(0, .ref a0), (1, .int i1), (2, .ref a2)] [] ad T R M
  unfold mf_L_mean
  refine zx_aload_n (i := 2) (zd me_L_mean 0 rfl) rfl 2 rfl ?_
  refine zx_iconst (v := 0) (zd me_L_mean 1 rfl) (by decide) ?_
  refine zx_aload_n (i := 0) (zd me_L_mean 2 rfl) rfl 0 rfl ?_
  refine zx_iload_n (i := 1) (zd me_L_mean 3 rfl) rfl 1 rfl ?_
  refine zx_try (ci := 11) (e1 := 9) (h1 := 12) (as := [.int i1]) (zd me_L_mean 4 rfl) (mc_X11_mean (zl C) hst h0 i1 M) lk_L_18 ⟨(Nat.le_of_ble_eq_true rfl), (Nat.le_of_ble_eq_true rfl)⟩ (Nat.le_of_ble_eq_true rfl) rfl (zi11_c h0) rfl rfl ⟨rfl, rfl⟩ htab (by decide) zl13 (Or.inr ⟨3, by decide, (zd me_L_mean 8 rfl), rfl⟩) (zd me_L_mean 9 rfl) (zd me_L_mean 10 rfl) rfl (fun _ => rfl) (fun v M1 => ?_)
  show zX C _ _ 1 6 (zald 1 (0 : Int32) fun j => zlet (zwL M1 a2 j v.toInt64) fun M2 => some ((0 : Int32), M2)) _ _ _ _ _ _ _
  refine zx_i2l (zd me_L_mean 5 rfl) ?_
  refine zx_last (zd me_L_mean 6 rfl) h9 (fun M2 => ?_)
  refine zx_goto (tgt := 15) (zd me_L_mean 7 rfl) (by decide) ?_
  refine zx_iconst (v := 0) (zd me_L_mean 11 rfl) (by decide) ?_
  exact zx_iretA (zd me_L_mean 12 rfl) rfl ⟨rfl, rfl⟩
theorem lk_L_153 : zLW RL 153 yL_mean mi7_L_mean [(0, 9, 12, 13)] 3 := ⟨(zt6 51 rfl rfl), (zt1 0 rfl rfl), (zt6 53 rfl rfl), ⟨by decide +kernel, by decide +kernel⟩, by decide +kernel, (zt6 52 rfl rfl)⟩
