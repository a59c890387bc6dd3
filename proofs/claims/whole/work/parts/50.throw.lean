def zTq (D : va_G) (cs : Nat → ClassId) (ad : Nat → Nat) (T : zTT) (R : zRR) (A : Nat → Prop) (r : Option Int32) (M' : zMem) : Array Value → State → Outcome → State → Prop := match r with
  | some v => zQR D cs ad T R A (some (.int v)) M'
  | none => fun _ _ _ _ => False
def zTx (D : va_G) (cs : Nat → ClassId) (ad : Nat → Nat) (T : zTT) (R : zRR) (A : Nat → Prop) (r : Option Int32) (M' : zMem) : String → State → State → Prop := match r with
  | some _ => fun _ _ _ => False
  | none => fun E st t => E = "java/util/NoSuchElementException" ∧ va_P D zClasses (zworld cs ad T R M') t.heap ∧ va_F A st t
/-- a method that returns, or throws: nothing behind 'some' in fc's answer -/
def zMT (l : Launch) (y : MethodName) (Y : zMI) (fc : Option (Option Int32 × zMem)) (as : List Value) (T : zTT) (R : zRR) (M : zMem) : Prop := ∀ (r : Option Int32) (M1 : zMem), fc = some (r, M1) → ∀ (D : va_G) (cs : Nat → ClassId) (ad : Nat → Nat) (K : (Nat → Nat) × (Nat → Nat)) (sz : Nat), vx_Met l y (zwsM y Y) { frames := zfr Y, cells := 1, slots := 6, locals := zlo Y } (va_Pc (as.map (zcv ad)) (zPre D cs ad K sz T R M)) (zTq D cs ad T R (va_A (zworld cs ad T R M) sz) r M1) (zTx D cs ad T R (va_A (zworld cs ad T R M) sz) r M1) 1 6 (va_A (zworld cs ad T R M) sz)
def zFinT (C : zCx) (ad : Nat → Nat) (T : zTT) (R : zRR) (r : Option Int32) (M' : zMem) : State → Prop := match C with
  | (_, _, _, _, s, _, args, below, _, _, D, cs, A, _) => vx_MQ below (zTq D cs ad T R A r M') (zTx D cs ad T R A r M') args s 1 6 A
def zcd (C : zCx) : Code := C.2.2.2.2.2.2.2.2.2.1
theorem zMT.of {l : Launch} {y : MethodName} {Y : zMI} {f : Option (Option Int32 × zMem)} {as : List Value} {T : zTT} {R : zRR} {M : zMem} (hy : plainName y.cls = true) (hown : zown Y = y.cls) (h0 : zmc Y = 1 ∧ zms Y = 6) (hl : (lg_sl as).length ≤ znL Y)
    (h : ∀ (C : zCx) (ad : Nat → Nat), zl C = l → (∀ x ∈ (zcd C).exceptionTable.toList, False) → zX C Y (zFinT C ad T R) 0 0 f 0 (lv_args 0 as) [] ad T R M) : zMT l y Y f as T R M := by
  intro r M1 hf D cs ad K sz
  refine vx_ofW (cc := zcc Y) (maxL := znL Y) (ret := zret Y) hy rfl ?_
  intro p e s m args below meth c s₁ B hml hnx hv
  obtain ⟨rfl, rfl, hP, hK, hD, hB, hST, hSA⟩ := hv
  have hts := atoms_spec (ws := zwsM y Y) B.pre
  have hS : va_S (va_A (zworld cs ad T R M) s.heap.size) s.heap s.heap [] := va_S.rf
  have hle := lv_entry (as.map (zcv ad)) (n := znL Y) (by rw [zlg_sl]; exact hl)
  rw [lg_entry_eq]
  generalize (lg_sl (as.map (zcv ad)) ++ List.replicate (znL Y - (lg_sl (as.map (zcv ad))).length) Slot.unset).toArray = la at hle ⊢
  rw [zlv_args] at hle
  have hfc : s.vm.findClass y.cls = some m.cls := findClass_of_methodNamed B.named
  rw [← hown] at hfc
  exact h (p, l, e, { frames := zfr Y, cells := 1, slots := 6, locals := zlo Y }, s, m, (as.map (zcv ad)).toArray, below, meth, c, D, cs, va_A (zworld cs ad T R M) s.heap.size, K) ad rfl hnx r M1 hf
    ⟨B.exec, B.bytes, hml, B.returns, hfc, fun w hw => hts w (List.mem_cons_of_mem _ hw), hK, fun q hq => Or.inr hq, B.notSynchronized, hB, hST, Nat.le_refl _, Nat.le_refl _, by rw [h0.1]; exact Nat.le_refl 1, by rw [h0.2]; exact Nat.le_refl 6⟩ ⟨Nat.zero_le _, Nat.zero_le _, hSA⟩ s.heap [] la hP hD.self hS hle
/-- a method that makes some cells that no one needs -/
def zMA {ρ : Type} (l : Launch) (y : MethodName) (Y : zMI) (ws : List Cond) (rv : ρ → Option Value) (fc : Option (ρ × zMem)) (as : List Value) (T : zTT) (R : zRR) (M : zMem) : Prop := ∀ (r : ρ) (M1 : zMem), fc = some (r, M1) → ∀ (D : va_G) (cs : Nat → ClassId) (ad : Nat → Nat) (K : (Nat → Nat) × (Nat → Nat)) (sz : Nat), Met l y ws (zrm Y) (va_Pc (as.map (zcv ad)) (zPre D cs ad K sz T R M)) (zQR D cs ad T R (va_A (zworld cs ad T R M) sz) (rv r) M1) (zmc Y) (zms Y) (va_A (zworld cs ad T R M) sz)
def zFinA {ρ : Type} (C : zCx) (Y : zMI) (rv : ρ → Option Value) (ad : Nat → Nat) (T : zTT) (R : zRR) (r : ρ) (M' : zMem) : State → Prop := match C with
  | (_, _, _, _, s, _, args, below, _, _, D, cs, A, _) => MQ below (zQR D cs ad T R A (rv r) M') args s (zmc Y) (zms Y) A
theorem zMA.ofW {ρ : Type} {l : Launch} {y : MethodName} {Y : zMI} {rv : ρ → Option Value} {f : Option (ρ × zMem)} {as : List Value} {T : zTT} {R : zRR} {M : zMem} {hh : List (Nat × Nat × Nat × Nat)} (hy : plainName y.cls = true) (hown : zown Y = y.cls) (hl : (lg_sl as).length ≤ znL Y)
    (h : ∀ (C : zCx) (ad : Nat → Nat), zl C = l → (zcd C).exceptionTable.toList = tableOf hh → zX C Y (zFinA C Y rv ad T R) 0 0 f 0 (lv_args 0 as) [] ad T R M) : zMA l y Y (Cond.codeWith y (zcc Y) (znL Y) (zret Y) hh :: zgtbl) rv f as T R M := by
  intro r M1 hf D cs ad K sz
  have hvx : vx_Met l y (Cond.codeWith y (zcc Y) (znL Y) (zret Y) hh :: zgtbl) (zrm Y) (va_Pc (as.map (zcv ad)) (zPre D cs ad K sz T R M)) (zQR D cs ad T R (va_A (zworld cs ad T R M) sz) (rv r) M1) (fun _ _ _ => False) (zmc Y) (zms Y) (va_A (zworld cs ad T R M) sz) := by
    refine vx_ofWH (cc := zcc Y) (maxL := znL Y) (ret := zret Y) (hh := hh) hy rfl ?_
    intro p e s m args below meth c s₁ B hml hv
    obtain ⟨rfl, rfl, hP, hK, hD, hB, hST, hSA⟩ := hv
    have hts := atoms_spec (ws := Cond.codeWith y (zcc Y) (znL Y) (zret Y) hh :: zgtbl) B.pre
    have htab := vx_table (x := y) B (hts _ List.mem_cons_self)
    have hS : va_S (va_A (zworld cs ad T R M) s.heap.size) s.heap s.heap [] := va_S.rf
    have hle := lv_entry (as.map (zcv ad)) (n := znL Y) (by rw [zlg_sl]; exact hl)
    rw [lg_entry_eq]
    generalize (lg_sl (as.map (zcv ad)) ++ List.replicate (znL Y - (lg_sl (as.map (zcv ad))).length) Slot.unset).toArray = la at hle ⊢
    rw [zlv_args] at hle
    have hfc : s.vm.findClass y.cls = some m.cls := findClass_of_methodNamed B.named
    rw [← hown] at hfc
    refine vx_ret ?_
    exact h (p, l, e, zrm Y, s, m, (as.map (zcv ad)).toArray, below, meth, c, D, cs, va_A (zworld cs ad T R M) s.heap.size, K) ad rfl htab r M1 hf
      ⟨B.exec, B.bytes, hml, B.returns, hfc, fun w hw => hts w (List.mem_cons_of_mem _ hw), hK, fun q hq => Or.inr hq, B.notSynchronized, hB, hST, Nat.le_refl _, Nat.le_refl _, Nat.le_refl _, Nat.le_refl _⟩ ⟨Nat.zero_le _, Nat.zero_le _, hSA⟩ s.heap [] la hP hD.self hS hle
  intro p e ha hc hk s m args below hf2 happ hpre hkk
  obtain ⟨n9, o9, g1, g2, g3, g4⟩ := hvx p e ha hc hk s m args below hf2 happ hpre hkk
  refine ⟨n9, o9, g1, g2, g3, ?_⟩
  rcases g4 with g4 | ⟨q9, -, E9, ce9, L9, g5, -⟩
  · exact g4
  · exact g5.elim
section ZX
variable {ρ ρ' : Type} {C : zCx} {Y : zMI} {Q : ρ → zMem → State → Prop} {k n : Nat} {f f1 f2 : Option (ρ × zMem)} {pc : Nat} {ls ls' : List (Nat × Value)} {st : List Value} {ad : Nat → Nat} {T : zTT} {R : zRR} {M : zMem}
theorem zx_iretT {v : Int32} (d : decode (zcc Y) pc = .ok (.ireturn, 1)) (h0 : zret Y = some .int) : zX C Y (zFinT C ad T R) 0 0 (some (some v, M)) pc ls [.int v] ad T R M := by
  obtain ⟨p, l, e, Rm, s, m, args, below, meth, c, D, cs, A, K⟩ := C
  intro r M' hf hO hkn H locs la hP hD hS hl
  have hO' := hO
  obtain ⟨hx, hb, hml, hr, hown, hts, hK, hA, hlk, hB, hST, hR1, hR2, hR3, hR4⟩ := hO
  cases hf
  refine vx_ret (W.widen (k := 1) (n := 6) (Nat.zero_le _) (Nat.zero_le _) ?_)
  exact W.iret hx hb (hr.trans h0) (fun t ht hW => ⟨⟨rfl, by rw [ht]; exact hP⟩, hS.F ht⟩) (fun q hq => hS.2.2 q hq) d hlk

theorem zxw_good : ∀ w ∈ Cond.classLink RX11 163 "java/util/NoSuchElementException" :: Cond.initialized "java/util/NoSuchElementException" :: vx_at0 RX11 165 "java/util/NoSuchElementException" ["java/lang/RuntimeException", "java/lang/Exception"], vx_ot w = true := by decide +kernel
theorem zxw_in : ∀ w ∈ (vx_at0 RX11 165 "java/util/NoSuchElementException" ["java/lang/RuntimeException", "java/lang/Exception"]).filter goodWord, w ∈ zgtbl := fun w hw => zg_mem ((show ∀ w ∈ (vx_at0 RX11 165 "java/util/NoSuchElementException" ["java/lang/RuntimeException", "java/lang/Exception"]).filter goodWord, w ∈ lw_tbl by decide +kernel) w hw) (List.mem_filter.mp hw).2
theorem zxw_cl : Cond.classLink RX11 163 "java/util/NoSuchElementException" ∈ zgtbl := zt5 211 rfl rfl
theorem zxw_ini : Cond.initialized "java/util/NoSuchElementException" ∈ zgtbl := zt1 23 rfl rfl
theorem zx_throw (hst : (zl C).stackTraces = false) (hnx : ∀ x ∈ (zcd C).exceptionTable.toList, False) (ho : zown Y = RX11) (d0 : decode (zcc Y) pc = .ok (.new 163, 3)) (d3 : decode (zcc Y) (pc + 3) = .ok (.dup, 1)) (d4 : decode (zcc Y) (pc + 4) = .ok (.invokespecial 165, 3)) (d7 : decode (zcc Y) (pc + 7) = .ok (.athrow, 1)) (hroom : 6 ≤ zfr Y ∧ 81 ≤ zlo Y ∧ 1 ≤ zmc Y ∧ 6 ≤ zms Y) : zX C Y (zFinT C ad T R) 0 0 (some (none, M)) pc ls [] ad T R M := by
  obtain ⟨p, l, e, Rm, s, m, args, below, meth, c, D, cs, A, K⟩ := C
  intro r M' hf hO hkn H locs la hP hD hS hl
  have hO' := hO
  obtain ⟨hx, hb, hml, hr, hown, hts, hK, hA, hlk, hB, hST, hR1, hR2, hR3, hR4⟩ := hO
  cases hf
  rw [ho] at hown
  have hat := vx_hat (L := vx_at0 RX11 165 "java/util/NoSuchElementException" ["java/lang/RuntimeException", "java/lang/Exception"]) (B := zXW) (args := args) (s := s) (fun w hw => hts w (zxw_in w hw)) (fun w hw => hw) (fun w hw => va_Nw.use (zxw_onT hw).2 (hST.2.2.1 w hw))
  exact vx_throw0 (names := ["java/lang/RuntimeException", "java/lang/Exception"]) (A := A) hx hb hst hown (by decide +kernel) (by decide +kernel) (hts _ zxw_cl) (hts _ zxw_ini) hat zxw_good hB.2.1 hB.2.2.1 hS (hl.1.trans hml.symm) d0 d3 d4 d7 (fun x hx9 => (hnx x hx9).elim) (Nat.lt_of_lt_of_le (by decide) (Nat.le_trans hroom.1 hR1)) (Nat.le_trans (Nat.le_of_ble_eq_true rfl) (Nat.le_trans hroom.2.1 hR2)) (Nat.le_trans hroom.2.2.1 hR3) (Nat.le_trans hroom.2.2.2 hR4) hlk
    (fun t ht h1 h2 => ⟨rfl, hP.kept (fun k9 x hx9 => h2 x.1 ((hP k9 x hx9).lt)), ⟨Nat.le_trans hS.1 h1, fun q q1 q2 => (h2 q (Nat.lt_of_lt_of_le q1 hS.1)).trans (hS.2.1 q q1 q2)⟩⟩) (fun q hq => hS.2.2 q hq) (Nat.le_refl _) (Nat.le_refl _)

theorem zcast_in : Cond.castable "java/util/NoSuchElementException" "java/util/NoSuchElementException" ∈ zXW := by decide +kernel
theorem zx_try {y : MethodName} {Yc : zMI} {idx na o ci e1 h1 hh2 : Nat} {fc : Option (Option Int32 × zMem)} {Kf : Option Int32 → zMem → Option (Int32 × zMem)} {as : List Value} (d : decode (zcc Y) pc = .ok (.invokevirtual idx, 3)) (hm : zMT (zl C) y Yc fc (.ref o :: as) T R M) (hlk0 : zLV (zown Y) idx y Yc na) (hroom : zfr Yc + 1 ≤ zfr Y ∧ 8 + (znL Yc + 11) + zlo Yc ≤ zlo Y) (hst : (st.map fun v => v.category).sum ≤ 8) (hna : as.length = na) (ht : T[o]? = some (0, ci)) (hci : (zClasses[ci]?).map (fun q => q.1) = some y.cls) {stk : List Value} (hstk : as.reverse ++ .ref o :: st = stk) (hcs : 1 = zmc Y ∧ 6 = zms Y) (htab : (zcd C).exceptionTable.toList = tableOf [(0, e1, h1, 13)]) (hcov : pc < e1) (hl13 : Cond.classLink (zown Y) 13 "java/util/NoSuchElementException" ∈ zgtbl) (hax : (∃ i, i < znL Y ∧ decode (zcc Y) h1 = .ok (.astore i, 2) ∧ hh2 = h1 + 2) ∨ (∃ (j : Fin 4), (j : Nat) < znL Y ∧ decode (zcc Y) h1 = .ok (.astore_n j, 1) ∧ hh2 = h1 + 1)) (dx1 : decode (zcc Y) hh2 = .ok (.iconst 1, 1)) (dx2 : decode (zcc Y) (hh2 + 1) = .ok (.ireturn, 1)) (hret : zret Y = some .int) (hKn : ∀ M1, Kf none M1 = some (1, M1)) (kk : ∀ (v : Int32) (M1 : zMem), zX C Y (zFinA C Y zrvI ad T R) 1 6 (Kf (some v) M1) (pc + 3) ls (.int v :: st) ad T R M1) : zX C Y (zFinA C Y zrvI ad T R) 0 0 (zcl fc Kf) pc ls stk ad T R M := by
  obtain ⟨p, l, e, Rm, s, m, args, below, meth, c, D, cs, A, K⟩ := C
  intro r M' hf hO hkn H locs la hP hD hS hl
  have hO' := hO
  obtain ⟨hx, hb, hml, hr, hown, hts, hK, hA, hlk, hB, hST, hR1, hR2, hR3, hR4⟩ := hO
  obtain ⟨r1, M1, hfc, hf⟩ := zcl_some hf
  have hM := hm r1 M1 hfc D cs ad K H.size
  have hfree : ∀ q, va_A (zworld cs ad T R M) H.size q → A q := fun q hq => by
    rcases hq with ⟨i, e0, hq⟩ | hq
    · exact hD.2 i (q, e0) hq
    · exact hA q (Nat.le_trans hS.1 hq)
  obtain ⟨⟨hlink, hini, hcode, hmh, hpar⟩, hin, hsel⟩ := hlk0
  have hws : ∀ w ∈ zwsM y Yc, ∀ (a' : Array Value) (U : State), s.WarmedH U.vm → w.before a' U = true := pay_in hts (fun w hw => (List.mem_cons.mp hw).elim (fun h => by rw [h]; exact zg_in _ hcode) (fun h => zg_in w h))
  have hstc : ((st.map (zcv ad)).map fun v => v.category).sum ≤ 8 := by rw [zcats]; exact hst
  have hfr : zfr Yc + 1 ≤ Rm.frames := Nat.le_trans hroom.1 hR1
  have hlo : 8 + (znL Yc + 11) + zlo Yc ≤ Rm.locals := Nat.le_trans hroom.2 hR2
  have hcs2 : 0 + 1 ≤ Rm.cells ∧ 0 + 6 ≤ Rm.slots := ⟨by have := hcs.1; omega, by have := hcs.2; omega⟩
  have hps : (F0 m pc la (stk.map (zcv ad))).stack = (as.map (zcv ad)).reverse ++ .ref (ad o) :: st.map (zcv ad) := by
    subst hstk
    simp [List.map_append, List.map_reverse, zcv]
  have hPc : ∀ U : State, U.heap = H → s.WarmedH U.vm → va_Pc ((.ref o :: as).map (zcv ad)) (zPre D cs ad K H.size T R M) (Value.ref (ad o) :: as.map (zcv ad)).toArray U := (fun U hU hW => ⟨rfl, by rw [hU], by rw [hU]; exact hP, va_K.moved hW.alike hK, hD.weaken (fun _ _ _ _ => trivial), ((by rw [hU]; exact (hB.kept hS.2.1).moved hW.alike : zBG K zlenJS zbytJS A U U.heap)).narrow hfree, hST.warm hW, hkn.2.2⟩)
  have hrecv : ∃ cellB : Cell, H[ad o]? = some cellB ∧ cellB.vm.isStatics = false ∧ s.vm.findClass y.cls = some cellB.cls := by
    cases hq : zClasses[ci]? with
    | none => rw [hq] at hci; cases hci
    | some q =>
      rw [hq] at hci
      have hci2 : q.1 = y.cls := Option.some.inj hci
      have h := va_recv hK hP hq (zworld_get ht)
      rw [← hci2]
      exact h
  have hrun : vx_Run p l e Rm s m args below meth c H locs 0 0 1 6 (F0 m pc la (stk.map (zcv ad))) (st.map (zcv ad)) (zTq D cs ad T R (va_A (zworld cs ad T R M) H.size) r1 M1 (Value.ref (ad o) :: as.map (zcv ad)).toArray) (zTx D cs ad T R (va_A (zworld cs ad T R M) H.size) r1 M1) (va_A (zworld cs ad T R M) H.size) := by
    rcases hlink with hlink | ⟨host, hlink⟩
    · exact vx_runV (C := y.cls) (n := na) (bytes := zcc Yc) (maxL := znL Yc) (ret := zret Yc) ⟨hx, hb, hml, hown, hts⟩ hM ⟨⟨rfl, rfl, hfr, hlo, hws, List.mem_cons_self, hts _ hcode, hts _ hini, hmh, zparam hpar, hts _ hlink⟩, hts _ hin, hts _ hsel⟩ ⟨zpre_blind, hrecv, hPc⟩ rfl (by rw [List.length_map]; exact hna) hl.1 hps (lv_room hstc) d hcs2
    · exact vx_runVN (C := y.cls) (n := na) (bytes := zcc Yc) (maxL := znL Yc) (ret := zret Yc) ⟨hx, hb, hml, hown, hts⟩ hM ⟨⟨⟨rfl, rfl, hfr, hlo, hws, List.mem_cons_self⟩, hts _ hcode, hts _ hini, hmh, zparam hpar, va_Nw.use (znw_onT rfl) (hST.2.1 _ hlink)⟩, hts _ hin, hts _ hsel⟩ ⟨zpre_blind, hrecv, hPc⟩ rfl (by rw [List.length_map]; exact hna) hl.1 hps (lv_room hstc) d hcs2
  have h3 : va_D A (zworld cs ad T R M1) := ⟨fun i j x z hi hj hxz => by
      obtain ⟨x0, a1, a2⟩ := zworld_adr (M' := M) hi
      obtain ⟨z0, a3, a4⟩ := zworld_adr (M' := M) hj
      exact hD.1 i j x0 z0 a1 a3 (by rw [a2, a4]; exact hxz), fun i x hi => by
      obtain ⟨x0, a1, a2⟩ := zworld_adr (M' := M) hi
      rw [← a2]
      exact hD.2 i x0 a1⟩
  intro T0 hT0 X0
  rcases hrun T0 hT0 X0 with ⟨v, st₀, t, T', L, h0, X', hL, e1', e2, hq, stp⟩ | ⟨q9, st₀, t, T', L, E, ce, h0, X', hL, e1', e2, hq, hce, hcv, hcl9, stp⟩
  · match r1, hfc, hf, hq with
    | some v1, hfc, hf, ⟨⟨hv, hP1⟩, hz, hk⟩ =>
    rw [h0] at hz hk
    cases hv
    have h2 : va_P D zClasses (zworld cs ad T R M1) T'.heap := by rw [e1']; exact hP1
    have h4 : va_S A s.heap T'.heap (locs ++ L) := ⟨Nat.le_trans hS.1 (by rw [e1']; exact hz), fun q q1 q2 => by rw [e1', hk q (Nat.lt_of_lt_of_le q1 hS.1) (fun z => q2 (hfree q z))]; exact hS.2.1 q q1 q2, fun q hq => by
        rcases List.mem_append.mp hq with h | h
        · exact hS.2.2 q h
        · exact hfree _ (hL q h)⟩
    obtain ⟨t2, a1, b1⟩ := kk v1 M1 r M' hf hO' ⟨hcs2.1, hcs2.2, hkn.2.2⟩ T'.heap (locs ++ L) la h2 h3 h4 hl T' rfl X'
    exact ⟨t2, stp t2 a1, b1⟩
  · match r1, hfc, hf, hq with
    | none, hfc, hf, ⟨hE, hP1, hz, hk⟩ =>
    subst hE
    rw [h0] at hz hk
    have h2 : va_P D zClasses (zworld cs ad T R M1) T'.heap := by rw [e1']; exact hP1
    have h4 : va_S A s.heap T'.heap (locs ++ L) := ⟨Nat.le_trans hS.1 (by rw [e1']; exact hz), fun q q1 q2 => by rw [e1', hk q (Nat.lt_of_lt_of_le q1 hS.1) (fun z => q2 (hfree q z))]; exact hS.2.1 q q1 q2, fun q hq => by
        rcases List.mem_append.mp hq with h | h
        · exact hS.2.2 q h
        · exact hfree _ (hL q h)⟩
    rw [hKn] at hf
    have er : r = 1 := (congrArg Prod.fst (Option.some.inj hf)).symm
    have eM : M' = M1 := (congrArg Prod.snd (Option.some.inj hf)).symm
    rw [er, eM]
    have hend : ∀ la' : Array Slot, W p l e Rm s m args below meth c T'.heap (locs ++ L) 1 6 (zFinA (p, l, e, Rm, s, m, args, below, meth, c, D, cs, A, K) Y zrvI ad T R 1 M1) (F0 m hh2 la' []) := fun la' => by
      refine lv_iconst (v := 1) hx hb dx1 (by decide) ?_
      show W p l e Rm s m args below meth c T'.heap (locs ++ L) 1 6 (MQ below (zQR D cs ad T R A (zrvI 1) M1) args s (zmc Y) (zms Y) A) (F0 m (hh2 + 1) la' [.int 1])
      rw [← hcs.1, ← hcs.2]
      exact W.iret hx hb (hr.trans hret) (fun t ht9 hW => ⟨⟨rfl, by rw [ht9]; exact h2⟩, h4.F ht9⟩) (fun q hq => h4.2.2 q hq) dx2 hlk
    have hx9 : vx_W p l e Rm s m args below meth c T'.heap (locs ++ L) 1 6 (zFinA (p, l, e, Rm, s, m, args, below, meth, c, D, cs, A, K) Y zrvI ad T R 1 M1) (F0 m pc la (st.map (zcv ad))) q9 := by
      refine vx_catch (own := zown Y) (name := "java/util/NoSuchElementException") (E := "java/util/NoSuchElementException") (ce := ce) hown [] ⟨0, e1, h1, 13⟩ [] (by rw [List.nil_append]; exact htab) (fun z hz => by cases hz) (by simp [covers, hcov]) (by show (13 : Nat) ≠ 0; decide) (hts _ hl13) (va_Nw.use (zxw_onT zcast_in).2 (hST.2.2.1 _ zcast_in)) (by rw [e1']; exact hce) hcv hcl9 ?_
      rcases hax with ⟨i9, hi9, da, rfl⟩ | ⟨j9, hj9, da, rfl⟩
      · exact lv_astore hx hb da hl hi9 rfl (fun la' hl' => hend la')
      · exact lv_astore_n hx hb da rfl hl hj9 rfl (fun la' hl' => hend la')
    obtain ⟨t2, a1, b1⟩ := hx9 T' rfl X'
    exact ⟨t2, stp.trans a1, b1⟩

end ZX
