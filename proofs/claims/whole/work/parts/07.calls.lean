/-- what holds at a method's start -/
def zPre (D : va_G) (cs : Nat → ClassId) (ad : Nat → Nat) (K : (Nat → Nat) × (Nat → Nat)) (sz : Nat) (T : zTT) (R : zRR) (M : zMem) : State → Prop := fun U => U.heap.size = sz ∧ va_P D zClasses (zworld cs ad T R M) U.heap ∧ va_K D zClasses (ztys cs) U ∧ va_D (fun _ => True) (zworld cs ad T R M) ∧ zBG K zlenJS zbytJS (va_A (zworld cs ad T R M) sz) U U.heap ∧ zST K U ∧ zSA K ad
/-- what holds at its end -/
def zQR (D : va_G) (cs : Nat → ClassId) (ad : Nat → Nat) (T : zTT) (R : zRR) (A : Nat → Prop) (v : Option Value) (M' : zMem) : Array Value → State → Outcome → State → Prop := fun _ st oc t => (oc = .returned v ∧ va_P D zClasses (zworld cs ad T R M') t.heap) ∧ va_F A st t
def zrm (Y : zMI) : Jvm.Room := { frames := zfr Y, cells := zmc Y, slots := zms Y, locals := zlo Y }
def zwsM (y : MethodName) (Y : zMI) : List Cond := Cond.code y (zcc Y) (znL Y) (zret Y) :: zgtbl
/-- A METHOD, which makes no cells: if fc answers, it returns that, and the world is as fc says -/
def zMS {ρ : Type} (l : Launch) (y : MethodName) (Y : zMI) (rv : ρ → Option Value) (fc : Option (ρ × zMem)) (as : List Value) (T : zTT) (R : zRR) (M : zMem) : Prop := ∀ (r : ρ) (M1 : zMem), fc = some (r, M1) → ∀ (D : va_G) (cs : Nat → ClassId) (ad : Nat → Nat) (K : (Nat → Nat) × (Nat → Nat)) (sz : Nat), Met l y (zwsM y Y) { frames := zfr Y, cells := 0, slots := 0, locals := zlo Y } (va_Pc (as.map (zcv ad)) (zPre D cs ad K sz T R M)) (zQR D cs ad T R (va_A (zworld cs ad T R M) sz) (rv r) M1) 0 0 (va_A (zworld cs ad T R M) sz)
def zFin {ρ : Type} (C : zCx) (rv : ρ → Option Value) (ad : Nat → Nat) (T : zTT) (R : zRR) (r : ρ) (M' : zMem) : State → Prop := match C with
  | (_, _, _, _, s, _, args, below, _, _, D, cs, A, _) => MQ below (zQR D cs ad T R A (rv r) M') args s 0 0 A
def zrvI (r : Int32) : Option Value := some (.int r)
def zrvL (r : Int64) : Option Value := some (.long r)
def zrvV (_ : Unit) : Option Value := none
theorem zlv_args (ad : Nat → Nat) : ∀ (i : Nat) (as : List Value), lv_args i (as.map (zcv ad)) = zlm ad (lv_args i as)
  | _, [] => rfl
  | i, v :: vs => by
    show (i, zcv ad v) :: lv_args (if (zcv ad v).category = 2 then i + 2 else i + 1) (vs.map (zcv ad)) = (i, zcv ad v) :: zlm ad (lv_args (if v.category = 2 then i + 2 else i + 1) vs)
    rw [zcv_cat, zlv_args ad _ vs]
theorem zlg_sl (ad : Nat → Nat) (as : List Value) : (lg_sl (as.map (zcv ad))).length = (lg_sl as).length := by
  unfold lg_sl
  induction as with
  | nil => rfl
  | cons v vs ih =>
    rw [List.map_cons, List.flatMap_cons, List.flatMap_cons, List.length_append, List.length_append, ih, zcv_cat]
    by_cases h : v.category = 2 <;> simp [h]
theorem zMS.of {ρ : Type} {l : Launch} {y : MethodName} {Y : zMI} {rv : ρ → Option Value} {f : Option (ρ × zMem)} {as : List Value} {T : zTT} {R : zRR} {M : zMem} (hy : plainName y.cls = true) (hown : zown Y = y.cls) (h0 : zmc Y = 0 ∧ zms Y = 0) (hl : (lg_sl as).length ≤ znL Y)
    (h : ∀ (C : zCx) (ad : Nat → Nat), zl C = l → zX C Y (zFin C rv ad T R) 0 0 f 0 (lv_args 0 as) [] ad T R M) : zMS l y Y rv f as T R M := by
  intro r M1 hf D cs ad K sz
  refine Met.ofW (cc := zcc Y) (maxL := znL Y) (ret := zret Y) hy rfl ?_
  intro p e s m args below meth c s₁ B hml hv
  obtain ⟨rfl, rfl, hP, hK, hD, hB, hST, hSA⟩ := hv
  have hts := atoms_spec (ws := zwsM y Y) B.pre
  have hS : va_S (va_A (zworld cs ad T R M) s.heap.size) s.heap s.heap [] := va_S.rf
  have hle := lv_entry (as.map (zcv ad)) (n := znL Y) (by rw [zlg_sl]; exact hl)
  rw [lg_entry_eq]
  generalize (lg_sl (as.map (zcv ad)) ++ List.replicate (znL Y - (lg_sl (as.map (zcv ad))).length) Slot.unset).toArray = la at hle ⊢
  rw [zlv_args] at hle
  have hfc : s.vm.findClass y.cls = some m.cls := findClass_of_methodNamed B.named
  rw [← hown] at hfc
  exact h (p, l, e, { frames := zfr Y, cells := 0, slots := 0, locals := zlo Y }, s, m, (as.map (zcv ad)).toArray, below, meth, c, D, cs, va_A (zworld cs ad T R M) s.heap.size, K) ad rfl r M1 hf
    ⟨B.exec, B.bytes, hml, B.returns, hfc, fun w hw => hts w (List.mem_cons_of_mem _ hw), hK, fun q hq => Or.inr hq, B.notSynchronized, hB, hST, Nat.le_refl _, Nat.le_refl _, by rw [h0.1]; exact Nat.le_refl 0, by rw [h0.2]; exact Nat.le_refl 0⟩ ⟨Nat.le_refl 0, Nat.le_refl 0, hSA⟩ s.heap [] la hP hD.self hS hle
/-- an entry of a call: what the tables say -/
def zLK (own : String) (idx : Nat) (y : MethodName) (Y : zMI) (n : Nat) : Prop := (Cond.methodLink own idx y ∈ zgtbl ∨ ∃ host, Cond.methodLinkNest own idx y host ∈ zNest) ∧ Cond.initialized y.cls ∈ zgtbl ∧ Cond.code y (zcc Y) (znL Y) (zret Y) ∈ zgtbl ∧ (y.cls ≠ "java/lang/invoke/MethodHandle" ∧ y.cls ≠ "java/lang/invoke/VarHandle") ∧ (parseMethodDescriptor y.desc).map (fun d => d.parameters.length) = some n
def zLV (own : String) (idx : Nat) (y : MethodName) (Y : zMI) (n : Nat) : Prop := zLK own idx y Y n ∧ Cond.instanceMethod y ∈ zgtbl ∧ Cond.selects y.cls y y ∈ zgtbl
def zLS (own : String) (idx : Nat) (y : MethodName) (Y : zMI) (n : Nat) : Prop := zLK own idx y Y n ∧ Cond.static y ∈ zgtbl
theorem zgi {w : Cond} (i : Nat) (h : lw_tbl[i]? = some w) (hg : goodWord w = true) : w ∈ zgtbl := zg_mem (List.mem_of_getElem? h) hg
theorem zparam {n : Nat} {y : MethodName} (h : (parseMethodDescriptor y.desc).map (fun d => d.parameters.length) = some n) : ∀ sig, parseMethodDescriptor y.desc = some sig → n = sig.parameters.length := fun sig h2 => by
  rw [h2] at h
  exact (Option.some.inj h).symm
theorem zpre_blind {D : va_G} {cs : Nat → ClassId} {ad : Nat → Nat} {K : (Nat → Nat) × (Nat → Nat)} {sz : Nat} {T : zTT} {R : zRR} {M : zMem} {av : List Value} : FrameBlind (va_Pc av (zPre D cs ad K sz T R M)) := fun a U g mk q => by
  obtain ⟨q0, q1, qP, qK, qD, qB, qS, qA⟩ := q
  exact ⟨q0, q1, qP, va_K.moved (u := U) (U := U.calling g mk a) (Vm.Alike.refl U.vm) qK, qD, zBG.moved (u := U) (U := U.calling g mk a) (Vm.Alike.refl U.vm) qB, zST.same (u := U) (U := U.calling g mk a) rfl qS, qA⟩
def zcl {α β : Type} (fc : Option (α × zMem)) (K : α → zMem → Option β) : Option β := match fc with
  | none => none
  | some q => K q.1 q.2
theorem zcl_some {α β : Type} {fc : Option (α × zMem)} {K : α → zMem → Option β} {x : β} (h : zcl fc K = some x) : ∃ r M1, fc = some (r, M1) ∧ K r M1 = some x := by
  unfold zcl at h
  match fc, h with
  | some (r, M1), h => exact ⟨r, M1, rfl, h⟩
def zpush (v : Option Value) (st : List Value) : List Value := v.toList ++ st
section ZX
variable {ρ ρ' : Type} {C : zCx} {Y : zMI} {Q : ρ → zMem → State → Prop} {k n : Nat} {f f1 f2 : Option (ρ × zMem)} {pc : Nat} {ls ls' : List (Nat × Value)} {st : List Value} {ad : Nat → Nat} {T : zTT} {R : zRR} {M : zMem}
variable {rv : ρ' → Option Value} {fc : Option (ρ' × zMem)} {Kf : ρ' → zMem → Option (ρ × zMem)} {y : MethodName} {Yc : zMI} {idx na : Nat}
theorem zworld_adr {cs : Nat → ClassId} {ad : Nat → Nat} {T : zTT} {R : zRR} {M M' : zMem} {i : Nat} {x : Nat × va_E} (h : (zworld cs ad T R M)[i]? = some x) : ∃ x0, (zworld cs ad T R M')[i]? = some x0 ∧ x0.1 = x.1 := by
  unfold zworld at h ⊢
  rw [List.getElem?_mapIdx] at h ⊢
  match hT : T[i]?, h with
  | some t, h => cases h; exact ⟨_, rfl, rfl⟩
theorem zx_callV {as : List Value} {o ci : Nat} (d : decode (zcc Y) pc = .ok (.invokevirtual idx, 3)) (hm : zMS (zl C) y Yc rv fc (.ref o :: as) T R M) (hlk0 : zLV (zown Y) idx y Yc na) (hroom : zfr Yc + 1 ≤ zfr Y ∧ 8 + (znL Yc + 11) + zlo Yc ≤ zlo Y) (hst : (st.map fun v => v.category).sum ≤ 8) (hna : as.length = na) (hrv : ∀ x ad, (rv x).toList.map (zcv ad) = (rv x).toList) (ht : T[o]? = some (0, ci)) (hci : (zClasses[ci]?).map (fun q => q.1) = some y.cls) {stk : List Value} (hstk : as.reverse ++ .ref o :: st = stk)  (kk : ∀ (r1 : ρ') (M1 : zMem), fc = some (r1, M1) → zX C Y Q k n (Kf r1 M1) (pc + 3) ls (zpush (rv r1) st) ad T R M1) : zX C Y Q k n (zcl fc Kf) pc ls stk ad T R M := by
  obtain ⟨p, l, e, Rm, s, m, args, below, meth, c, D, cs, A, K⟩ := C
  intro r M' hf hO hkn H locs la hP hD hS hl
  have hO' := hO
  obtain ⟨hx, hb, hml, hr, hown, hts, hK, hA, hlk, hB, hST, hR1, hR2, hR3, hR4⟩ := hO
  obtain ⟨r1, M1, hfc, hf⟩ := zcl_some hf
  have hM := hm r1 M1 hfc D cs ad K H.size
  have hfree : ∀ q, va_A (zworld cs ad T R M) H.size q → A q := fun q hq => by
    rcases hq with ⟨i, e0, hq⟩ | hq
    · exact hD.2 i (q, e0) hq
    · exact hA q (Nat.le_trans hS.1 hq)
  obtain ⟨⟨hlink, hini, hcode, hmh, hpar⟩, hin, hsel⟩ := hlk0
  have hws : ∀ w ∈ zwsM y Yc, ∀ (a' : Array Value) (U : State), s.WarmedH U.vm → w.before a' U = true := pay_in hts (fun w hw => (List.mem_cons.mp hw).elim (fun h => by rw [h]; exact zg_in _ hcode) (fun h => zg_in w h))
  have hstc : ((st.map (zcv ad)).map fun v => v.category).sum ≤ 8 := by rw [zcats]; exact hst
  have hfr : zfr Yc + 1 ≤ Rm.frames := Nat.le_trans hroom.1 hR1
  have hlo : 8 + (znL Yc + 11) + zlo Yc ≤ Rm.locals := Nat.le_trans hroom.2 hR2
  have hcs : k + 0 ≤ Rm.cells ∧ n + 0 ≤ Rm.slots := ⟨hkn.1, hkn.2.1⟩
  have hps : (F0 m pc la (stk.map (zcv ad))).stack = (as.map (zcv ad)).reverse ++ .ref (ad o) :: st.map (zcv ad) := by
    subst hstk
    simp [List.map_append, List.map_reverse, zcv]
  have hPc : ∀ U : State, U.heap = H → s.WarmedH U.vm → va_Pc ((.ref o :: as).map (zcv ad)) (zPre D cs ad K H.size T R M) (Value.ref (ad o) :: as.map (zcv ad)).toArray U := (fun U hU hW => ⟨rfl, by rw [hU], by rw [hU]; exact hP, va_K.moved hW.alike hK, hD.weaken (fun _ _ _ _ => trivial), ((by rw [hU]; exact (hB.kept hS.2.1).moved hW.alike : zBG K zlenJS zbytJS A U U.heap)).narrow hfree, hST.warm hW, hkn.2.2⟩)
  have hrecv : ∃ cellB : Cell, H[ad o]? = some cellB ∧ cellB.vm.isStatics = false ∧ s.vm.findClass y.cls = some cellB.cls := by
    cases hq : zClasses[ci]? with
    | none => rw [hq] at hci; cases hci
    | some q =>
      rw [hq] at hci
      have hci2 : q.1 = y.cls := Option.some.inj hci
      have h := va_recv hK hP hq (zworld_get ht)
      rw [← hci2]
      exact h
  have hrun : va_Run p l e Rm s m args below meth c H locs k n 0 0 (F0 m pc la (stk.map (zcv ad))) (st.map (zcv ad)) (zQR D cs ad T R (va_A (zworld cs ad T R M) H.size) (rv r1) M1 (Value.ref (ad o) :: as.map (zcv ad)).toArray) (va_A (zworld cs ad T R M) H.size) := by
    rcases hlink with hlink | ⟨host, hlink⟩
    · exact va_runV (C := y.cls) (n := na) (bytes := zcc Yc) (maxL := znL Yc) (ret := zret Yc) ⟨hx, hb, hml, hown, hts⟩ hM ⟨⟨rfl, rfl, hfr, hlo, hws, List.mem_cons_self, hts _ hcode, hts _ hini, hmh, zparam hpar, hts _ hlink⟩, hts _ hin, hts _ hsel⟩ ⟨zpre_blind, hrecv, hPc⟩ rfl (by rw [List.length_map]; exact hna) hl.1 hps (lv_room hstc) d hcs
    · exact va_runVN (C := y.cls) (n := na) (bytes := zcc Yc) (maxL := znL Yc) (ret := zret Yc) ⟨hx, hb, hml, hown, hts⟩ hM ⟨⟨⟨rfl, rfl, hfr, hlo, hws, List.mem_cons_self⟩, hts _ hcode, hts _ hini, hmh, zparam hpar, va_Nw.use (znw_onT rfl) (hST.2.1 _ hlink)⟩, hts _ hin, hts _ hsel⟩ ⟨zpre_blind, hrecv, hPc⟩ rfl (by rw [List.length_map]; exact hna) hl.1 hps (lv_room hstc) d hcs
  intro T0 hT0 X0
  obtain ⟨v, st₀, t, T', L, h0, X', hL, e1, e2, ⟨⟨hv, hP1⟩, hz, hk⟩, stp⟩ := hrun T0 hT0 X0
  rw [h0] at hz hk
  cases hv
  have h2 : va_P D zClasses (zworld cs ad T R M1) T'.heap := by rw [e1]; exact hP1
  have h3 : va_D A (zworld cs ad T R M1) := ⟨fun i j x z hi hj hxz => by
      obtain ⟨x0, a1, a2⟩ := zworld_adr (M' := M) hi
      obtain ⟨z0, a3, a4⟩ := zworld_adr (M' := M) hj
      exact hD.1 i j x0 z0 a1 a3 (by rw [a2, a4]; exact hxz), fun i x hi => by
      obtain ⟨x0, a1, a2⟩ := zworld_adr (M' := M) hi
      rw [← a2]
      exact hD.2 i x0 a1⟩
  have h4 : va_S A s.heap T'.heap (locs ++ L) := ⟨Nat.le_trans hS.1 (by rw [e1]; exact hz), fun q q1 q2 => by rw [e1, hk q (Nat.lt_of_lt_of_le q1 hS.1) (fun z => q2 (hfree q z))]; exact hS.2.1 q q1 q2, fun q hq => by
      rcases List.mem_append.mp hq with h | h
      · exact hS.2.2 q h
      · exact hfree _ (hL q h)⟩
  obtain ⟨t2, a1, b1⟩ := kk r1 M1 hfc r M' hf hO' hkn T'.heap (locs ++ L) la h2 h3 h4 hl T' rfl X'
  refine ⟨t2, stp t2 ?_, b1⟩
  unfold zpush at a1
  rw [List.map_append, hrv] at a1
  exact a1

theorem zx_callS {as : List Value}(d : decode (zcc Y) pc = .ok (.invokestatic idx, 3)) (hm : zMS (zl C) y Yc rv fc as T R M) (hlk0 : zLS (zown Y) idx y Yc na) (hroom : zfr Yc + 1 ≤ zfr Y ∧ 8 + (znL Yc + 11) + zlo Yc ≤ zlo Y) (hst : (st.map fun v => v.category).sum ≤ 8) (hna : as.length = na) (hrv : ∀ x ad, (rv x).toList.map (zcv ad) = (rv x).toList) {stk : List Value} (hstk : as.reverse ++ st = stk)  (kk : ∀ (r1 : ρ') (M1 : zMem), fc = some (r1, M1) → zX C Y Q k n (Kf r1 M1) (pc + 3) ls (zpush (rv r1) st) ad T R M1) : zX C Y Q k n (zcl fc Kf) pc ls stk ad T R M := by
  obtain ⟨p, l, e, Rm, s, m, args, below, meth, c, D, cs, A, K⟩ := C
  intro r M' hf hO hkn H locs la hP hD hS hl
  have hO' := hO
  obtain ⟨hx, hb, hml, hr, hown, hts, hK, hA, hlk, hB, hST, hR1, hR2, hR3, hR4⟩ := hO
  obtain ⟨r1, M1, hfc, hf⟩ := zcl_some hf
  have hM := hm r1 M1 hfc D cs ad K H.size
  have hfree : ∀ q, va_A (zworld cs ad T R M) H.size q → A q := fun q hq => by
    rcases hq with ⟨i, e0, hq⟩ | hq
    · exact hD.2 i (q, e0) hq
    · exact hA q (Nat.le_trans hS.1 hq)
  obtain ⟨⟨hlink, hini, hcode, hmh, hpar⟩, hstt⟩ := hlk0
  have hws : ∀ w ∈ zwsM y Yc, ∀ (a' : Array Value) (U : State), s.WarmedH U.vm → w.before a' U = true := pay_in hts (fun w hw => (List.mem_cons.mp hw).elim (fun h => by rw [h]; exact zg_in _ hcode) (fun h => zg_in w h))
  have hstc : ((st.map (zcv ad)).map fun v => v.category).sum ≤ 8 := by rw [zcats]; exact hst
  have hfr : zfr Yc + 1 ≤ Rm.frames := Nat.le_trans hroom.1 hR1
  have hlo : 8 + (znL Yc + 11) + zlo Yc ≤ Rm.locals := Nat.le_trans hroom.2 hR2
  have hcs : k + 0 ≤ Rm.cells ∧ n + 0 ≤ Rm.slots := ⟨hkn.1, hkn.2.1⟩
  have hps : (F0 m pc la (stk.map (zcv ad))).stack = (as.map (zcv ad)).reverse ++ st.map (zcv ad) := by
    subst hstk
    simp [List.map_append, List.map_reverse]
  have hPc : ∀ U : State, U.heap = H → s.WarmedH U.vm → va_Pc (as.map (zcv ad)) (zPre D cs ad K H.size T R M) (as.map (zcv ad)).toArray U := (fun U hU hW => ⟨rfl, by rw [hU], by rw [hU]; exact hP, va_K.moved hW.alike hK, hD.weaken (fun _ _ _ _ => trivial), ((by rw [hU]; exact (hB.kept hS.2.1).moved hW.alike : zBG K zlenJS zbytJS A U U.heap)).narrow hfree, hST.warm hW, hkn.2.2⟩)
  have hrun : va_Run p l e Rm s m args below meth c H locs k n 0 0 (F0 m pc la (stk.map (zcv ad))) (st.map (zcv ad)) (zQR D cs ad T R (va_A (zworld cs ad T R M) H.size) (rv r1) M1 (as.map (zcv ad)).toArray) (va_A (zworld cs ad T R M) H.size) := by
    rcases hlink with hlink | ⟨host, hlink⟩
    · exact va_runS (n := na) (bytes := zcc Yc) (maxL := znL Yc) (ret := zret Yc) ⟨hx, hb, hml, hown, hts⟩ hM ⟨⟨rfl, rfl, hfr, hlo, hws, List.mem_cons_self, hts _ hcode, hts _ hini, hmh, zparam hpar, hts _ hlink⟩, hts _ hstt⟩ ⟨zpre_blind, hPc⟩ rfl (by rw [List.length_map]; exact hna) hl.1 hps (lv_room hstc) d hcs
    · exact va_runSN (n := na) (bytes := zcc Yc) (maxL := znL Yc) (ret := zret Yc) ⟨hx, hb, hml, hown, hts⟩ hM ⟨⟨⟨rfl, rfl, hfr, hlo, hws, List.mem_cons_self⟩, hts _ hcode, hts _ hini, hmh, zparam hpar, va_Nw.use (znw_onT rfl) (hST.2.1 _ hlink)⟩, hts _ hstt, trivial⟩ ⟨zpre_blind, hPc⟩ rfl (by rw [List.length_map]; exact hna) hl.1 hps (lv_room hstc) d hcs
  intro T0 hT0 X0
  obtain ⟨v, st₀, t, T', L, h0, X', hL, e1, e2, ⟨⟨hv, hP1⟩, hz, hk⟩, stp⟩ := hrun T0 hT0 X0
  rw [h0] at hz hk
  cases hv
  have h2 : va_P D zClasses (zworld cs ad T R M1) T'.heap := by rw [e1]; exact hP1
  have h3 : va_D A (zworld cs ad T R M1) := ⟨fun i j x z hi hj hxz => by
      obtain ⟨x0, a1, a2⟩ := zworld_adr (M' := M) hi
      obtain ⟨z0, a3, a4⟩ := zworld_adr (M' := M) hj
      exact hD.1 i j x0 z0 a1 a3 (by rw [a2, a4]; exact hxz), fun i x hi => by
      obtain ⟨x0, a1, a2⟩ := zworld_adr (M' := M) hi
      rw [← a2]
      exact hD.2 i x0 a1⟩
  have h4 : va_S A s.heap T'.heap (locs ++ L) := ⟨Nat.le_trans hS.1 (by rw [e1]; exact hz), fun q q1 q2 => by rw [e1, hk q (Nat.lt_of_lt_of_le q1 hS.1) (fun z => q2 (hfree q z))]; exact hS.2.1 q q1 q2, fun q hq => by
      rcases List.mem_append.mp hq with h | h
      · exact hS.2.2 q h
      · exact hfree _ (hL q h)⟩
  obtain ⟨t2, a1, b1⟩ := kk r1 M1 hfc r M' hf hO' hkn T'.heap (locs ++ L) la h2 h3 h4 hl T' rfl X'
  refine ⟨t2, stp t2 ?_, b1⟩
  unfold zpush at a1
  rw [List.map_append, hrv] at a1
  exact a1

theorem zx_callT {as : List Value} {o : Nat} (d : decode (zcc Y) pc = .ok (.invokevirtual idx, 3)) (hm : zMS (zl C) y Yc rv fc (.ref (zBIG + o) :: as) T R M) (hlk0 : zLV (zown Y) idx y Yc na) (hroom : zfr Yc + 1 ≤ zfr Y ∧ 8 + (znL Yc + 11) + zlo Yc ≤ zlo Y) (hst : (st.map fun v => v.category).sum ≤ 8) (hna : as.length = na) (hrv : ∀ x ad, (rv x).toList.map (zcv ad) = (rv x).toList) (ho5 : o < 5) (hyc : y.cls = "java/lang/String") {stk : List Value} (hstk : as.reverse ++ .ref (zBIG + o) :: st = stk)  (kk : ∀ (r1 : ρ') (M1 : zMem), fc = some (r1, M1) → zX C Y Q k n (Kf r1 M1) (pc + 3) ls (zpush (rv r1) st) ad T R M1) : zX C Y Q k n (zcl fc Kf) pc ls stk ad T R M := by
  obtain ⟨p, l, e, Rm, s, m, args, below, meth, c, D, cs, A, K⟩ := C
  intro r M' hf hO hkn H locs la hP hD hS hl
  have hO' := hO
  obtain ⟨hx, hb, hml, hr, hown, hts, hK, hA, hlk, hB, hST, hR1, hR2, hR3, hR4⟩ := hO
  obtain ⟨r1, M1, hfc, hf⟩ := zcl_some hf
  have hM := hm r1 M1 hfc D cs ad K H.size
  have hfree : ∀ q, va_A (zworld cs ad T R M) H.size q → A q := fun q hq => by
    rcases hq with ⟨i, e0, hq⟩ | hq
    · exact hD.2 i (q, e0) hq
    · exact hA q (Nat.le_trans hS.1 hq)
  obtain ⟨⟨hlink, hini, hcode, hmh, hpar⟩, hin, hsel⟩ := hlk0
  have hws : ∀ w ∈ zwsM y Yc, ∀ (a' : Array Value) (U : State), s.WarmedH U.vm → w.before a' U = true := pay_in hts (fun w hw => (List.mem_cons.mp hw).elim (fun h => by rw [h]; exact zg_in _ hcode) (fun h => zg_in w h))
  have hstc : ((st.map (zcv ad)).map fun v => v.category).sum ≤ 8 := by rw [zcats]; exact hst
  have hfr : zfr Yc + 1 ≤ Rm.frames := Nat.le_trans hroom.1 hR1
  have hlo : 8 + (znL Yc + 11) + zlo Yc ≤ Rm.locals := Nat.le_trans hroom.2 hR2
  have hcs : k + 0 ≤ Rm.cells ∧ n + 0 ≤ Rm.slots := ⟨hkn.1, hkn.2.1⟩
  have hps : (F0 m pc la (stk.map (zcv ad))).stack = (as.map (zcv ad)).reverse ++ .ref (ad (zBIG + o)) :: st.map (zcv ad) := by
    subst hstk
    simp [List.map_append, List.map_reverse, zcv]
  have hPc : ∀ U : State, U.heap = H → s.WarmedH U.vm → va_Pc ((.ref (zBIG + o) :: as).map (zcv ad)) (zPre D cs ad K H.size T R M) (Value.ref (ad (zBIG + o)) :: as.map (zcv ad)).toArray U := (fun U hU hW => ⟨rfl, by rw [hU], by rw [hU]; exact hP, va_K.moved hW.alike hK, hD.weaken (fun _ _ _ _ => trivial), ((by rw [hU]; exact (hB.kept hS.2.1).moved hW.alike : zBG K zlenJS zbytJS A U U.heap)).narrow hfree, hST.warm hW, hkn.2.2⟩)
  have hrecv : ∃ cellB : Cell, H[ad (zBIG + o)]? = some cellB ∧ cellB.vm.isStatics = false ∧ s.vm.findClass y.cls = some cellB.cls := by
    rw [hyc, hkn.2.2.1 o ho5]
    exact vk_recv hB.1 ho5 hS
  have hrun : va_Run p l e Rm s m args below meth c H locs k n 0 0 (F0 m pc la (stk.map (zcv ad))) (st.map (zcv ad)) (zQR D cs ad T R (va_A (zworld cs ad T R M) H.size) (rv r1) M1 (Value.ref (ad (zBIG + o)) :: as.map (zcv ad)).toArray) (va_A (zworld cs ad T R M) H.size) := by
    rcases hlink with hlink | ⟨host, hlink⟩
    · exact va_runV (C := y.cls) (n := na) (bytes := zcc Yc) (maxL := znL Yc) (ret := zret Yc) ⟨hx, hb, hml, hown, hts⟩ hM ⟨⟨rfl, rfl, hfr, hlo, hws, List.mem_cons_self, hts _ hcode, hts _ hini, hmh, zparam hpar, hts _ hlink⟩, hts _ hin, hts _ hsel⟩ ⟨zpre_blind, hrecv, hPc⟩ rfl (by rw [List.length_map]; exact hna) hl.1 hps (lv_room hstc) d hcs
    · exact va_runVN (C := y.cls) (n := na) (bytes := zcc Yc) (maxL := znL Yc) (ret := zret Yc) ⟨hx, hb, hml, hown, hts⟩ hM ⟨⟨⟨rfl, rfl, hfr, hlo, hws, List.mem_cons_self⟩, hts _ hcode, hts _ hini, hmh, zparam hpar, va_Nw.use (znw_onT rfl) (hST.2.1 _ hlink)⟩, hts _ hin, hts _ hsel⟩ ⟨zpre_blind, hrecv, hPc⟩ rfl (by rw [List.length_map]; exact hna) hl.1 hps (lv_room hstc) d hcs
  intro T0 hT0 X0
  obtain ⟨v, st₀, t, T', L, h0, X', hL, e1, e2, ⟨⟨hv, hP1⟩, hz, hk⟩, stp⟩ := hrun T0 hT0 X0
  rw [h0] at hz hk
  cases hv
  have h2 : va_P D zClasses (zworld cs ad T R M1) T'.heap := by rw [e1]; exact hP1
  have h3 : va_D A (zworld cs ad T R M1) := ⟨fun i j x z hi hj hxz => by
      obtain ⟨x0, a1, a2⟩ := zworld_adr (M' := M) hi
      obtain ⟨z0, a3, a4⟩ := zworld_adr (M' := M) hj
      exact hD.1 i j x0 z0 a1 a3 (by rw [a2, a4]; exact hxz), fun i x hi => by
      obtain ⟨x0, a1, a2⟩ := zworld_adr (M' := M) hi
      rw [← a2]
      exact hD.2 i x0 a1⟩
  have h4 : va_S A s.heap T'.heap (locs ++ L) := ⟨Nat.le_trans hS.1 (by rw [e1]; exact hz), fun q q1 q2 => by rw [e1, hk q (Nat.lt_of_lt_of_le q1 hS.1) (fun z => q2 (hfree q z))]; exact hS.2.1 q q1 q2, fun q hq => by
      rcases List.mem_append.mp hq with h | h
      · exact hS.2.2 q h
      · exact hfree _ (hL q h)⟩
  obtain ⟨t2, a1, b1⟩ := kk r1 M1 hfc r M' hf hO' hkn T'.heap (locs ++ L) la h2 h3 h4 hl T' rfl X'
  refine ⟨t2, stp t2 ?_, b1⟩
  unfold zpush at a1
  rw [List.map_append, hrv] at a1
  exact a1

theorem zx_callVI0 {fc : Option (Int32 × zMem)} {Kf : Int32 → zMem → Option (ρ × zMem)} {o ci : Nat} (d : decode (zcc Y) pc = .ok (.invokevirtual idx, 3)) (hm : zMS (zl C) y Yc zrvI fc (.ref o :: []) T R M) (hlk : zLV (zown Y) idx y Yc 0) (hroom : zfr Yc + 1 ≤ zfr Y ∧ 8 + (znL Yc + 11) + zlo Yc ≤ zlo Y) (hst : (st.map fun v => v.category).sum ≤ 8) (ht : T[o]? = some (0, ci)) (hci : (zClasses[ci]?).map (fun q => q.1) = some y.cls) (kk : ∀ (r1 : Int32) (M1 : zMem), zX C Y Q k n (Kf r1 M1) (pc + 3) ls (.int r1 :: st) ad T R M1) : zX C Y Q k n (zcl fc Kf) pc ls (.ref o :: st) ad T R M := zx_callV (as := []) d hm hlk hroom hst rfl (fun _ _ => rfl) ht hci rfl (fun r1 M1 _ => kk r1 M1)
theorem zx_callVI1 {fc : Option (Int32 × zMem)} {Kf : Int32 → zMem → Option (ρ × zMem)} {a0 : Value} {o ci : Nat} (d : decode (zcc Y) pc = .ok (.invokevirtual idx, 3)) (hm : zMS (zl C) y Yc zrvI fc (.ref o :: [a0]) T R M) (hlk : zLV (zown Y) idx y Yc 1) (hroom : zfr Yc + 1 ≤ zfr Y ∧ 8 + (znL Yc + 11) + zlo Yc ≤ zlo Y) (hst : (st.map fun v => v.category).sum ≤ 8) (ht : T[o]? = some (0, ci)) (hci : (zClasses[ci]?).map (fun q => q.1) = some y.cls) (kk : ∀ (r1 : Int32) (M1 : zMem), zX C Y Q k n (Kf r1 M1) (pc + 3) ls (.int r1 :: st) ad T R M1) : zX C Y Q k n (zcl fc Kf) pc ls (a0 :: .ref o :: st) ad T R M := zx_callV (as := [a0]) d hm hlk hroom hst rfl (fun _ _ => rfl) ht hci rfl (fun r1 M1 _ => kk r1 M1)
theorem zx_callVI2 {fc : Option (Int32 × zMem)} {Kf : Int32 → zMem → Option (ρ × zMem)} {a0 a1 : Value} {o ci : Nat} (d : decode (zcc Y) pc = .ok (.invokevirtual idx, 3)) (hm : zMS (zl C) y Yc zrvI fc (.ref o :: [a0, a1]) T R M) (hlk : zLV (zown Y) idx y Yc 2) (hroom : zfr Yc + 1 ≤ zfr Y ∧ 8 + (znL Yc + 11) + zlo Yc ≤ zlo Y) (hst : (st.map fun v => v.category).sum ≤ 8) (ht : T[o]? = some (0, ci)) (hci : (zClasses[ci]?).map (fun q => q.1) = some y.cls) (kk : ∀ (r1 : Int32) (M1 : zMem), zX C Y Q k n (Kf r1 M1) (pc + 3) ls (.int r1 :: st) ad T R M1) : zX C Y Q k n (zcl fc Kf) pc ls (a1 :: a0 :: .ref o :: st) ad T R M := zx_callV (as := [a0, a1]) d hm hlk hroom hst rfl (fun _ _ => rfl) ht hci rfl (fun r1 M1 _ => kk r1 M1)
theorem zx_callVI3 {fc : Option (Int32 × zMem)} {Kf : Int32 → zMem → Option (ρ × zMem)} {a0 a1 a2 : Value} {o ci : Nat} (d : decode (zcc Y) pc = .ok (.invokevirtual idx, 3)) (hm : zMS (zl C) y Yc zrvI fc (.ref o :: [a0, a1, a2]) T R M) (hlk : zLV (zown Y) idx y Yc 3) (hroom : zfr Yc + 1 ≤ zfr Y ∧ 8 + (znL Yc + 11) + zlo Yc ≤ zlo Y) (hst : (st.map fun v => v.category).sum ≤ 8) (ht : T[o]? = some (0, ci)) (hci : (zClasses[ci]?).map (fun q => q.1) = some y.cls) (kk : ∀ (r1 : Int32) (M1 : zMem), zX C Y Q k n (Kf r1 M1) (pc + 3) ls (.int r1 :: st) ad T R M1) : zX C Y Q k n (zcl fc Kf) pc ls (a2 :: a1 :: a0 :: .ref o :: st) ad T R M := zx_callV (as := [a0, a1, a2]) d hm hlk hroom hst rfl (fun _ _ => rfl) ht hci rfl (fun r1 M1 _ => kk r1 M1)
theorem zx_callVI4 {fc : Option (Int32 × zMem)} {Kf : Int32 → zMem → Option (ρ × zMem)} {a0 a1 a2 a3 : Value} {o ci : Nat} (d : decode (zcc Y) pc = .ok (.invokevirtual idx, 3)) (hm : zMS (zl C) y Yc zrvI fc (.ref o :: [a0, a1, a2, a3]) T R M) (hlk : zLV (zown Y) idx y Yc 4) (hroom : zfr Yc + 1 ≤ zfr Y ∧ 8 + (znL Yc + 11) + zlo Yc ≤ zlo Y) (hst : (st.map fun v => v.category).sum ≤ 8) (ht : T[o]? = some (0, ci)) (hci : (zClasses[ci]?).map (fun q => q.1) = some y.cls) (kk : ∀ (r1 : Int32) (M1 : zMem), zX C Y Q k n (Kf r1 M1) (pc + 3) ls (.int r1 :: st) ad T R M1) : zX C Y Q k n (zcl fc Kf) pc ls (a3 :: a2 :: a1 :: a0 :: .ref o :: st) ad T R M := zx_callV (as := [a0, a1, a2, a3]) d hm hlk hroom hst rfl (fun _ _ => rfl) ht hci rfl (fun r1 M1 _ => kk r1 M1)
theorem zx_callVI5 {fc : Option (Int32 × zMem)} {Kf : Int32 → zMem → Option (ρ × zMem)} {a0 a1 a2 a3 a4 : Value} {o ci : Nat} (d : decode (zcc Y) pc = .ok (.invokevirtual idx, 3)) (hm : zMS (zl C) y Yc zrvI fc (.ref o :: [a0, a1, a2, a3, a4]) T R M) (hlk : zLV (zown Y) idx y Yc 5) (hroom : zfr Yc + 1 ≤ zfr Y ∧ 8 + (znL Yc + 11) + zlo Yc ≤ zlo Y) (hst : (st.map fun v => v.category).sum ≤ 8) (ht : T[o]? = some (0, ci)) (hci : (zClasses[ci]?).map (fun q => q.1) = some y.cls) (kk : ∀ (r1 : Int32) (M1 : zMem), zX C Y Q k n (Kf r1 M1) (pc + 3) ls (.int r1 :: st) ad T R M1) : zX C Y Q k n (zcl fc Kf) pc ls (a4 :: a3 :: a2 :: a1 :: a0 :: .ref o :: st) ad T R M := zx_callV (as := [a0, a1, a2, a3, a4]) d hm hlk hroom hst rfl (fun _ _ => rfl) ht hci rfl (fun r1 M1 _ => kk r1 M1)
theorem zx_callVI6 {fc : Option (Int32 × zMem)} {Kf : Int32 → zMem → Option (ρ × zMem)} {a0 a1 a2 a3 a4 a5 : Value} {o ci : Nat} (d : decode (zcc Y) pc = .ok (.invokevirtual idx, 3)) (hm : zMS (zl C) y Yc zrvI fc (.ref o :: [a0, a1, a2, a3, a4, a5]) T R M) (hlk : zLV (zown Y) idx y Yc 6) (hroom : zfr Yc + 1 ≤ zfr Y ∧ 8 + (znL Yc + 11) + zlo Yc ≤ zlo Y) (hst : (st.map fun v => v.category).sum ≤ 8) (ht : T[o]? = some (0, ci)) (hci : (zClasses[ci]?).map (fun q => q.1) = some y.cls) (kk : ∀ (r1 : Int32) (M1 : zMem), zX C Y Q k n (Kf r1 M1) (pc + 3) ls (.int r1 :: st) ad T R M1) : zX C Y Q k n (zcl fc Kf) pc ls (a5 :: a4 :: a3 :: a2 :: a1 :: a0 :: .ref o :: st) ad T R M := zx_callV (as := [a0, a1, a2, a3, a4, a5]) d hm hlk hroom hst rfl (fun _ _ => rfl) ht hci rfl (fun r1 M1 _ => kk r1 M1)
theorem zx_callVI7 {fc : Option (Int32 × zMem)} {Kf : Int32 → zMem → Option (ρ × zMem)} {a0 a1 a2 a3 a4 a5 a6 : Value} {o ci : Nat} (d : decode (zcc Y) pc = .ok (.invokevirtual idx, 3)) (hm : zMS (zl C) y Yc zrvI fc (.ref o :: [a0, a1, a2, a3, a4, a5, a6]) T R M) (hlk : zLV (zown Y) idx y Yc 7) (hroom : zfr Yc + 1 ≤ zfr Y ∧ 8 + (znL Yc + 11) + zlo Yc ≤ zlo Y) (hst : (st.map fun v => v.category).sum ≤ 8) (ht : T[o]? = some (0, ci)) (hci : (zClasses[ci]?).map (fun q => q.1) = some y.cls) (kk : ∀ (r1 : Int32) (M1 : zMem), zX C Y Q k n (Kf r1 M1) (pc + 3) ls (.int r1 :: st) ad T R M1) : zX C Y Q k n (zcl fc Kf) pc ls (a6 :: a5 :: a4 :: a3 :: a2 :: a1 :: a0 :: .ref o :: st) ad T R M := zx_callV (as := [a0, a1, a2, a3, a4, a5, a6]) d hm hlk hroom hst rfl (fun _ _ => rfl) ht hci rfl (fun r1 M1 _ => kk r1 M1)
theorem zx_callVL0 {fc : Option (Int64 × zMem)} {Kf : Int64 → zMem → Option (ρ × zMem)} {o ci : Nat} (d : decode (zcc Y) pc = .ok (.invokevirtual idx, 3)) (hm : zMS (zl C) y Yc zrvL fc (.ref o :: []) T R M) (hlk : zLV (zown Y) idx y Yc 0) (hroom : zfr Yc + 1 ≤ zfr Y ∧ 8 + (znL Yc + 11) + zlo Yc ≤ zlo Y) (hst : (st.map fun v => v.category).sum ≤ 8) (ht : T[o]? = some (0, ci)) (hci : (zClasses[ci]?).map (fun q => q.1) = some y.cls) (kk : ∀ (r1 : Int64) (M1 : zMem), zX C Y Q k n (Kf r1 M1) (pc + 3) ls (.long r1 :: st) ad T R M1) : zX C Y Q k n (zcl fc Kf) pc ls (.ref o :: st) ad T R M := zx_callV (as := []) d hm hlk hroom hst rfl (fun _ _ => rfl) ht hci rfl (fun r1 M1 _ => kk r1 M1)
theorem zx_callVL1 {fc : Option (Int64 × zMem)} {Kf : Int64 → zMem → Option (ρ × zMem)} {a0 : Value} {o ci : Nat} (d : decode (zcc Y) pc = .ok (.invokevirtual idx, 3)) (hm : zMS (zl C) y Yc zrvL fc (.ref o :: [a0]) T R M) (hlk : zLV (zown Y) idx y Yc 1) (hroom : zfr Yc + 1 ≤ zfr Y ∧ 8 + (znL Yc + 11) + zlo Yc ≤ zlo Y) (hst : (st.map fun v => v.category).sum ≤ 8) (ht : T[o]? = some (0, ci)) (hci : (zClasses[ci]?).map (fun q => q.1) = some y.cls) (kk : ∀ (r1 : Int64) (M1 : zMem), zX C Y Q k n (Kf r1 M1) (pc + 3) ls (.long r1 :: st) ad T R M1) : zX C Y Q k n (zcl fc Kf) pc ls (a0 :: .ref o :: st) ad T R M := zx_callV (as := [a0]) d hm hlk hroom hst rfl (fun _ _ => rfl) ht hci rfl (fun r1 M1 _ => kk r1 M1)
theorem zx_callVL2 {fc : Option (Int64 × zMem)} {Kf : Int64 → zMem → Option (ρ × zMem)} {a0 a1 : Value} {o ci : Nat} (d : decode (zcc Y) pc = .ok (.invokevirtual idx, 3)) (hm : zMS (zl C) y Yc zrvL fc (.ref o :: [a0, a1]) T R M) (hlk : zLV (zown Y) idx y Yc 2) (hroom : zfr Yc + 1 ≤ zfr Y ∧ 8 + (znL Yc + 11) + zlo Yc ≤ zlo Y) (hst : (st.map fun v => v.category).sum ≤ 8) (ht : T[o]? = some (0, ci)) (hci : (zClasses[ci]?).map (fun q => q.1) = some y.cls) (kk : ∀ (r1 : Int64) (M1 : zMem), zX C Y Q k n (Kf r1 M1) (pc + 3) ls (.long r1 :: st) ad T R M1) : zX C Y Q k n (zcl fc Kf) pc ls (a1 :: a0 :: .ref o :: st) ad T R M := zx_callV (as := [a0, a1]) d hm hlk hroom hst rfl (fun _ _ => rfl) ht hci rfl (fun r1 M1 _ => kk r1 M1)
theorem zx_callVL3 {fc : Option (Int64 × zMem)} {Kf : Int64 → zMem → Option (ρ × zMem)} {a0 a1 a2 : Value} {o ci : Nat} (d : decode (zcc Y) pc = .ok (.invokevirtual idx, 3)) (hm : zMS (zl C) y Yc zrvL fc (.ref o :: [a0, a1, a2]) T R M) (hlk : zLV (zown Y) idx y Yc 3) (hroom : zfr Yc + 1 ≤ zfr Y ∧ 8 + (znL Yc + 11) + zlo Yc ≤ zlo Y) (hst : (st.map fun v => v.category).sum ≤ 8) (ht : T[o]? = some (0, ci)) (hci : (zClasses[ci]?).map (fun q => q.1) = some y.cls) (kk : ∀ (r1 : Int64) (M1 : zMem), zX C Y Q k n (Kf r1 M1) (pc + 3) ls (.long r1 :: st) ad T R M1) : zX C Y Q k n (zcl fc Kf) pc ls (a2 :: a1 :: a0 :: .ref o :: st) ad T R M := zx_callV (as := [a0, a1, a2]) d hm hlk hroom hst rfl (fun _ _ => rfl) ht hci rfl (fun r1 M1 _ => kk r1 M1)
theorem zx_callVL4 {fc : Option (Int64 × zMem)} {Kf : Int64 → zMem → Option (ρ × zMem)} {a0 a1 a2 a3 : Value} {o ci : Nat} (d : decode (zcc Y) pc = .ok (.invokevirtual idx, 3)) (hm : zMS (zl C) y Yc zrvL fc (.ref o :: [a0, a1, a2, a3]) T R M) (hlk : zLV (zown Y) idx y Yc 4) (hroom : zfr Yc + 1 ≤ zfr Y ∧ 8 + (znL Yc + 11) + zlo Yc ≤ zlo Y) (hst : (st.map fun v => v.category).sum ≤ 8) (ht : T[o]? = some (0, ci)) (hci : (zClasses[ci]?).map (fun q => q.1) = some y.cls) (kk : ∀ (r1 : Int64) (M1 : zMem), zX C Y Q k n (Kf r1 M1) (pc + 3) ls (.long r1 :: st) ad T R M1) : zX C Y Q k n (zcl fc Kf) pc ls (a3 :: a2 :: a1 :: a0 :: .ref o :: st) ad T R M := zx_callV (as := [a0, a1, a2, a3]) d hm hlk hroom hst rfl (fun _ _ => rfl) ht hci rfl (fun r1 M1 _ => kk r1 M1)
theorem zx_callVL5 {fc : Option (Int64 × zMem)} {Kf : Int64 → zMem → Option (ρ × zMem)} {a0 a1 a2 a3 a4 : Value} {o ci : Nat} (d : decode (zcc Y) pc = .ok (.invokevirtual idx, 3)) (hm : zMS (zl C) y Yc zrvL fc (.ref o :: [a0, a1, a2, a3, a4]) T R M) (hlk : zLV (zown Y) idx y Yc 5) (hroom : zfr Yc + 1 ≤ zfr Y ∧ 8 + (znL Yc + 11) + zlo Yc ≤ zlo Y) (hst : (st.map fun v => v.category).sum ≤ 8) (ht : T[o]? = some (0, ci)) (hci : (zClasses[ci]?).map (fun q => q.1) = some y.cls) (kk : ∀ (r1 : Int64) (M1 : zMem), zX C Y Q k n (Kf r1 M1) (pc + 3) ls (.long r1 :: st) ad T R M1) : zX C Y Q k n (zcl fc Kf) pc ls (a4 :: a3 :: a2 :: a1 :: a0 :: .ref o :: st) ad T R M := zx_callV (as := [a0, a1, a2, a3, a4]) d hm hlk hroom hst rfl (fun _ _ => rfl) ht hci rfl (fun r1 M1 _ => kk r1 M1)
theorem zx_callVL6 {fc : Option (Int64 × zMem)} {Kf : Int64 → zMem → Option (ρ × zMem)} {a0 a1 a2 a3 a4 a5 : Value} {o ci : Nat} (d : decode (zcc Y) pc = .ok (.invokevirtual idx, 3)) (hm : zMS (zl C) y Yc zrvL fc (.ref o :: [a0, a1, a2, a3, a4, a5]) T R M) (hlk : zLV (zown Y) idx y Yc 6) (hroom : zfr Yc + 1 ≤ zfr Y ∧ 8 + (znL Yc + 11) + zlo Yc ≤ zlo Y) (hst : (st.map fun v => v.category).sum ≤ 8) (ht : T[o]? = some (0, ci)) (hci : (zClasses[ci]?).map (fun q => q.1) = some y.cls) (kk : ∀ (r1 : Int64) (M1 : zMem), zX C Y Q k n (Kf r1 M1) (pc + 3) ls (.long r1 :: st) ad T R M1) : zX C Y Q k n (zcl fc Kf) pc ls (a5 :: a4 :: a3 :: a2 :: a1 :: a0 :: .ref o :: st) ad T R M := zx_callV (as := [a0, a1, a2, a3, a4, a5]) d hm hlk hroom hst rfl (fun _ _ => rfl) ht hci rfl (fun r1 M1 _ => kk r1 M1)
theorem zx_callVL7 {fc : Option (Int64 × zMem)} {Kf : Int64 → zMem → Option (ρ × zMem)} {a0 a1 a2 a3 a4 a5 a6 : Value} {o ci : Nat} (d : decode (zcc Y) pc = .ok (.invokevirtual idx, 3)) (hm : zMS (zl C) y Yc zrvL fc (.ref o :: [a0, a1, a2, a3, a4, a5, a6]) T R M) (hlk : zLV (zown Y) idx y Yc 7) (hroom : zfr Yc + 1 ≤ zfr Y ∧ 8 + (znL Yc + 11) + zlo Yc ≤ zlo Y) (hst : (st.map fun v => v.category).sum ≤ 8) (ht : T[o]? = some (0, ci)) (hci : (zClasses[ci]?).map (fun q => q.1) = some y.cls) (kk : ∀ (r1 : Int64) (M1 : zMem), zX C Y Q k n (Kf r1 M1) (pc + 3) ls (.long r1 :: st) ad T R M1) : zX C Y Q k n (zcl fc Kf) pc ls (a6 :: a5 :: a4 :: a3 :: a2 :: a1 :: a0 :: .ref o :: st) ad T R M := zx_callV (as := [a0, a1, a2, a3, a4, a5, a6]) d hm hlk hroom hst rfl (fun _ _ => rfl) ht hci rfl (fun r1 M1 _ => kk r1 M1)
theorem zx_callVV0 {fc : Option (Unit × zMem)} {Kf : Unit → zMem → Option (ρ × zMem)} {o ci : Nat} (d : decode (zcc Y) pc = .ok (.invokevirtual idx, 3)) (hm : zMS (zl C) y Yc zrvV fc (.ref o :: []) T R M) (hlk : zLV (zown Y) idx y Yc 0) (hroom : zfr Yc + 1 ≤ zfr Y ∧ 8 + (znL Yc + 11) + zlo Yc ≤ zlo Y) (hst : (st.map fun v => v.category).sum ≤ 8) (ht : T[o]? = some (0, ci)) (hci : (zClasses[ci]?).map (fun q => q.1) = some y.cls) (kk : ∀ (r1 : Unit) (M1 : zMem), zX C Y Q k n (Kf r1 M1) (pc + 3) ls st ad T R M1) : zX C Y Q k n (zcl fc Kf) pc ls (.ref o :: st) ad T R M := zx_callV (as := []) d hm hlk hroom hst rfl (fun _ _ => rfl) ht hci rfl (fun r1 M1 _ => kk r1 M1)
theorem zx_callVV1 {fc : Option (Unit × zMem)} {Kf : Unit → zMem → Option (ρ × zMem)} {a0 : Value} {o ci : Nat} (d : decode (zcc Y) pc = .ok (.invokevirtual idx, 3)) (hm : zMS (zl C) y Yc zrvV fc (.ref o :: [a0]) T R M) (hlk : zLV (zown Y) idx y Yc 1) (hroom : zfr Yc + 1 ≤ zfr Y ∧ 8 + (znL Yc + 11) + zlo Yc ≤ zlo Y) (hst : (st.map fun v => v.category).sum ≤ 8) (ht : T[o]? = some (0, ci)) (hci : (zClasses[ci]?).map (fun q => q.1) = some y.cls) (kk : ∀ (r1 : Unit) (M1 : zMem), zX C Y Q k n (Kf r1 M1) (pc + 3) ls st ad T R M1) : zX C Y Q k n (zcl fc Kf) pc ls (a0 :: .ref o :: st) ad T R M := zx_callV (as := [a0]) d hm hlk hroom hst rfl (fun _ _ => rfl) ht hci rfl (fun r1 M1 _ => kk r1 M1)
theorem zx_callVV2 {fc : Option (Unit × zMem)} {Kf : Unit → zMem → Option (ρ × zMem)} {a0 a1 : Value} {o ci : Nat} (d : decode (zcc Y) pc = .ok (.invokevirtual idx, 3)) (hm : zMS (zl C) y Yc zrvV fc (.ref o :: [a0, a1]) T R M) (hlk : zLV (zown Y) idx y Yc 2) (hroom : zfr Yc + 1 ≤ zfr Y ∧ 8 + (znL Yc + 11) + zlo Yc ≤ zlo Y) (hst : (st.map fun v => v.category).sum ≤ 8) (ht : T[o]? = some (0, ci)) (hci : (zClasses[ci]?).map (fun q => q.1) = some y.cls) (kk : ∀ (r1 : Unit) (M1 : zMem), zX C Y Q k n (Kf r1 M1) (pc + 3) ls st ad T R M1) : zX C Y Q k n (zcl fc Kf) pc ls (a1 :: a0 :: .ref o :: st) ad T R M := zx_callV (as := [a0, a1]) d hm hlk hroom hst rfl (fun _ _ => rfl) ht hci rfl (fun r1 M1 _ => kk r1 M1)
theorem zx_callVV3 {fc : Option (Unit × zMem)} {Kf : Unit → zMem → Option (ρ × zMem)} {a0 a1 a2 : Value} {o ci : Nat} (d : decode (zcc Y) pc = .ok (.invokevirtual idx, 3)) (hm : zMS (zl C) y Yc zrvV fc (.ref o :: [a0, a1, a2]) T R M) (hlk : zLV (zown Y) idx y Yc 3) (hroom : zfr Yc + 1 ≤ zfr Y ∧ 8 + (znL Yc + 11) + zlo Yc ≤ zlo Y) (hst : (st.map fun v => v.category).sum ≤ 8) (ht : T[o]? = some (0, ci)) (hci : (zClasses[ci]?).map (fun q => q.1) = some y.cls) (kk : ∀ (r1 : Unit) (M1 : zMem), zX C Y Q k n (Kf r1 M1) (pc + 3) ls st ad T R M1) : zX C Y Q k n (zcl fc Kf) pc ls (a2 :: a1 :: a0 :: .ref o :: st) ad T R M := zx_callV (as := [a0, a1, a2]) d hm hlk hroom hst rfl (fun _ _ => rfl) ht hci rfl (fun r1 M1 _ => kk r1 M1)
theorem zx_callVV4 {fc : Option (Unit × zMem)} {Kf : Unit → zMem → Option (ρ × zMem)} {a0 a1 a2 a3 : Value} {o ci : Nat} (d : decode (zcc Y) pc = .ok (.invokevirtual idx, 3)) (hm : zMS (zl C) y Yc zrvV fc (.ref o :: [a0, a1, a2, a3]) T R M) (hlk : zLV (zown Y) idx y Yc 4) (hroom : zfr Yc + 1 ≤ zfr Y ∧ 8 + (znL Yc + 11) + zlo Yc ≤ zlo Y) (hst : (st.map fun v => v.category).sum ≤ 8) (ht : T[o]? = some (0, ci)) (hci : (zClasses[ci]?).map (fun q => q.1) = some y.cls) (kk : ∀ (r1 : Unit) (M1 : zMem), zX C Y Q k n (Kf r1 M1) (pc + 3) ls st ad T R M1) : zX C Y Q k n (zcl fc Kf) pc ls (a3 :: a2 :: a1 :: a0 :: .ref o :: st) ad T R M := zx_callV (as := [a0, a1, a2, a3]) d hm hlk hroom hst rfl (fun _ _ => rfl) ht hci rfl (fun r1 M1 _ => kk r1 M1)
theorem zx_callVV5 {fc : Option (Unit × zMem)} {Kf : Unit → zMem → Option (ρ × zMem)} {a0 a1 a2 a3 a4 : Value} {o ci : Nat} (d : decode (zcc Y) pc = .ok (.invokevirtual idx, 3)) (hm : zMS (zl C) y Yc zrvV fc (.ref o :: [a0, a1, a2, a3, a4]) T R M) (hlk : zLV (zown Y) idx y Yc 5) (hroom : zfr Yc + 1 ≤ zfr Y ∧ 8 + (znL Yc + 11) + zlo Yc ≤ zlo Y) (hst : (st.map fun v => v.category).sum ≤ 8) (ht : T[o]? = some (0, ci)) (hci : (zClasses[ci]?).map (fun q => q.1) = some y.cls) (kk : ∀ (r1 : Unit) (M1 : zMem), zX C Y Q k n (Kf r1 M1) (pc + 3) ls st ad T R M1) : zX C Y Q k n (zcl fc Kf) pc ls (a4 :: a3 :: a2 :: a1 :: a0 :: .ref o :: st) ad T R M := zx_callV (as := [a0, a1, a2, a3, a4]) d hm hlk hroom hst rfl (fun _ _ => rfl) ht hci rfl (fun r1 M1 _ => kk r1 M1)
theorem zx_callVV6 {fc : Option (Unit × zMem)} {Kf : Unit → zMem → Option (ρ × zMem)} {a0 a1 a2 a3 a4 a5 : Value} {o ci : Nat} (d : decode (zcc Y) pc = .ok (.invokevirtual idx, 3)) (hm : zMS (zl C) y Yc zrvV fc (.ref o :: [a0, a1, a2, a3, a4, a5]) T R M) (hlk : zLV (zown Y) idx y Yc 6) (hroom : zfr Yc + 1 ≤ zfr Y ∧ 8 + (znL Yc + 11) + zlo Yc ≤ zlo Y) (hst : (st.map fun v => v.category).sum ≤ 8) (ht : T[o]? = some (0, ci)) (hci : (zClasses[ci]?).map (fun q => q.1) = some y.cls) (kk : ∀ (r1 : Unit) (M1 : zMem), zX C Y Q k n (Kf r1 M1) (pc + 3) ls st ad T R M1) : zX C Y Q k n (zcl fc Kf) pc ls (a5 :: a4 :: a3 :: a2 :: a1 :: a0 :: .ref o :: st) ad T R M := zx_callV (as := [a0, a1, a2, a3, a4, a5]) d hm hlk hroom hst rfl (fun _ _ => rfl) ht hci rfl (fun r1 M1 _ => kk r1 M1)
theorem zx_callVV7 {fc : Option (Unit × zMem)} {Kf : Unit → zMem → Option (ρ × zMem)} {a0 a1 a2 a3 a4 a5 a6 : Value} {o ci : Nat} (d : decode (zcc Y) pc = .ok (.invokevirtual idx, 3)) (hm : zMS (zl C) y Yc zrvV fc (.ref o :: [a0, a1, a2, a3, a4, a5, a6]) T R M) (hlk : zLV (zown Y) idx y Yc 7) (hroom : zfr Yc + 1 ≤ zfr Y ∧ 8 + (znL Yc + 11) + zlo Yc ≤ zlo Y) (hst : (st.map fun v => v.category).sum ≤ 8) (ht : T[o]? = some (0, ci)) (hci : (zClasses[ci]?).map (fun q => q.1) = some y.cls) (kk : ∀ (r1 : Unit) (M1 : zMem), zX C Y Q k n (Kf r1 M1) (pc + 3) ls st ad T R M1) : zX C Y Q k n (zcl fc Kf) pc ls (a6 :: a5 :: a4 :: a3 :: a2 :: a1 :: a0 :: .ref o :: st) ad T R M := zx_callV (as := [a0, a1, a2, a3, a4, a5, a6]) d hm hlk hroom hst rfl (fun _ _ => rfl) ht hci rfl (fun r1 M1 _ => kk r1 M1)
theorem zx_callSI0 {fc : Option (Int32 × zMem)} {Kf : Int32 → zMem → Option (ρ × zMem)} (d : decode (zcc Y) pc = .ok (.invokestatic idx, 3)) (hm : zMS (zl C) y Yc zrvI fc [] T R M) (hlk : zLS (zown Y) idx y Yc 0) (hroom : zfr Yc + 1 ≤ zfr Y ∧ 8 + (znL Yc + 11) + zlo Yc ≤ zlo Y) (hst : (st.map fun v => v.category).sum ≤ 8) (kk : ∀ (r1 : Int32) (M1 : zMem), zX C Y Q k n (Kf r1 M1) (pc + 3) ls (.int r1 :: st) ad T R M1) : zX C Y Q k n (zcl fc Kf) pc ls (st) ad T R M := zx_callS (as := []) d hm hlk hroom hst rfl (fun _ _ => rfl) rfl (fun r1 M1 _ => kk r1 M1)
theorem zx_callSI1 {fc : Option (Int32 × zMem)} {Kf : Int32 → zMem → Option (ρ × zMem)} {a0 : Value} (d : decode (zcc Y) pc = .ok (.invokestatic idx, 3)) (hm : zMS (zl C) y Yc zrvI fc [a0] T R M) (hlk : zLS (zown Y) idx y Yc 1) (hroom : zfr Yc + 1 ≤ zfr Y ∧ 8 + (znL Yc + 11) + zlo Yc ≤ zlo Y) (hst : (st.map fun v => v.category).sum ≤ 8) (kk : ∀ (r1 : Int32) (M1 : zMem), zX C Y Q k n (Kf r1 M1) (pc + 3) ls (.int r1 :: st) ad T R M1) : zX C Y Q k n (zcl fc Kf) pc ls (a0 :: st) ad T R M := zx_callS (as := [a0]) d hm hlk hroom hst rfl (fun _ _ => rfl) rfl (fun r1 M1 _ => kk r1 M1)
theorem zx_callSI2 {fc : Option (Int32 × zMem)} {Kf : Int32 → zMem → Option (ρ × zMem)} {a0 a1 : Value} (d : decode (zcc Y) pc = .ok (.invokestatic idx, 3)) (hm : zMS (zl C) y Yc zrvI fc [a0, a1] T R M) (hlk : zLS (zown Y) idx y Yc 2) (hroom : zfr Yc + 1 ≤ zfr Y ∧ 8 + (znL Yc + 11) + zlo Yc ≤ zlo Y) (hst : (st.map fun v => v.category).sum ≤ 8) (kk : ∀ (r1 : Int32) (M1 : zMem), zX C Y Q k n (Kf r1 M1) (pc + 3) ls (.int r1 :: st) ad T R M1) : zX C Y Q k n (zcl fc Kf) pc ls (a1 :: a0 :: st) ad T R M := zx_callS (as := [a0, a1]) d hm hlk hroom hst rfl (fun _ _ => rfl) rfl (fun r1 M1 _ => kk r1 M1)
theorem zx_callSI3 {fc : Option (Int32 × zMem)} {Kf : Int32 → zMem → Option (ρ × zMem)} {a0 a1 a2 : Value} (d : decode (zcc Y) pc = .ok (.invokestatic idx, 3)) (hm : zMS (zl C) y Yc zrvI fc [a0, a1, a2] T R M) (hlk : zLS (zown Y) idx y Yc 3) (hroom : zfr Yc + 1 ≤ zfr Y ∧ 8 + (znL Yc + 11) + zlo Yc ≤ zlo Y) (hst : (st.map fun v => v.category).sum ≤ 8) (kk : ∀ (r1 : Int32) (M1 : zMem), zX C Y Q k n (Kf r1 M1) (pc + 3) ls (.int r1 :: st) ad T R M1) : zX C Y Q k n (zcl fc Kf) pc ls (a2 :: a1 :: a0 :: st) ad T R M := zx_callS (as := [a0, a1, a2]) d hm hlk hroom hst rfl (fun _ _ => rfl) rfl (fun r1 M1 _ => kk r1 M1)
theorem zx_callSI4 {fc : Option (Int32 × zMem)} {Kf : Int32 → zMem → Option (ρ × zMem)} {a0 a1 a2 a3 : Value} (d : decode (zcc Y) pc = .ok (.invokestatic idx, 3)) (hm : zMS (zl C) y Yc zrvI fc [a0, a1, a2, a3] T R M) (hlk : zLS (zown Y) idx y Yc 4) (hroom : zfr Yc + 1 ≤ zfr Y ∧ 8 + (znL Yc + 11) + zlo Yc ≤ zlo Y) (hst : (st.map fun v => v.category).sum ≤ 8) (kk : ∀ (r1 : Int32) (M1 : zMem), zX C Y Q k n (Kf r1 M1) (pc + 3) ls (.int r1 :: st) ad T R M1) : zX C Y Q k n (zcl fc Kf) pc ls (a3 :: a2 :: a1 :: a0 :: st) ad T R M := zx_callS (as := [a0, a1, a2, a3]) d hm hlk hroom hst rfl (fun _ _ => rfl) rfl (fun r1 M1 _ => kk r1 M1)
theorem zx_callSI5 {fc : Option (Int32 × zMem)} {Kf : Int32 → zMem → Option (ρ × zMem)} {a0 a1 a2 a3 a4 : Value} (d : decode (zcc Y) pc = .ok (.invokestatic idx, 3)) (hm : zMS (zl C) y Yc zrvI fc [a0, a1, a2, a3, a4] T R M) (hlk : zLS (zown Y) idx y Yc 5) (hroom : zfr Yc + 1 ≤ zfr Y ∧ 8 + (znL Yc + 11) + zlo Yc ≤ zlo Y) (hst : (st.map fun v => v.category).sum ≤ 8) (kk : ∀ (r1 : Int32) (M1 : zMem), zX C Y Q k n (Kf r1 M1) (pc + 3) ls (.int r1 :: st) ad T R M1) : zX C Y Q k n (zcl fc Kf) pc ls (a4 :: a3 :: a2 :: a1 :: a0 :: st) ad T R M := zx_callS (as := [a0, a1, a2, a3, a4]) d hm hlk hroom hst rfl (fun _ _ => rfl) rfl (fun r1 M1 _ => kk r1 M1)
theorem zx_callSI6 {fc : Option (Int32 × zMem)} {Kf : Int32 → zMem → Option (ρ × zMem)} {a0 a1 a2 a3 a4 a5 : Value} (d : decode (zcc Y) pc = .ok (.invokestatic idx, 3)) (hm : zMS (zl C) y Yc zrvI fc [a0, a1, a2, a3, a4, a5] T R M) (hlk : zLS (zown Y) idx y Yc 6) (hroom : zfr Yc + 1 ≤ zfr Y ∧ 8 + (znL Yc + 11) + zlo Yc ≤ zlo Y) (hst : (st.map fun v => v.category).sum ≤ 8) (kk : ∀ (r1 : Int32) (M1 : zMem), zX C Y Q k n (Kf r1 M1) (pc + 3) ls (.int r1 :: st) ad T R M1) : zX C Y Q k n (zcl fc Kf) pc ls (a5 :: a4 :: a3 :: a2 :: a1 :: a0 :: st) ad T R M := zx_callS (as := [a0, a1, a2, a3, a4, a5]) d hm hlk hroom hst rfl (fun _ _ => rfl) rfl (fun r1 M1 _ => kk r1 M1)
theorem zx_callSI7 {fc : Option (Int32 × zMem)} {Kf : Int32 → zMem → Option (ρ × zMem)} {a0 a1 a2 a3 a4 a5 a6 : Value} (d : decode (zcc Y) pc = .ok (.invokestatic idx, 3)) (hm : zMS (zl C) y Yc zrvI fc [a0, a1, a2, a3, a4, a5, a6] T R M) (hlk : zLS (zown Y) idx y Yc 7) (hroom : zfr Yc + 1 ≤ zfr Y ∧ 8 + (znL Yc + 11) + zlo Yc ≤ zlo Y) (hst : (st.map fun v => v.category).sum ≤ 8) (kk : ∀ (r1 : Int32) (M1 : zMem), zX C Y Q k n (Kf r1 M1) (pc + 3) ls (.int r1 :: st) ad T R M1) : zX C Y Q k n (zcl fc Kf) pc ls (a6 :: a5 :: a4 :: a3 :: a2 :: a1 :: a0 :: st) ad T R M := zx_callS (as := [a0, a1, a2, a3, a4, a5, a6]) d hm hlk hroom hst rfl (fun _ _ => rfl) rfl (fun r1 M1 _ => kk r1 M1)
theorem zx_callSL0 {fc : Option (Int64 × zMem)} {Kf : Int64 → zMem → Option (ρ × zMem)} (d : decode (zcc Y) pc = .ok (.invokestatic idx, 3)) (hm : zMS (zl C) y Yc zrvL fc [] T R M) (hlk : zLS (zown Y) idx y Yc 0) (hroom : zfr Yc + 1 ≤ zfr Y ∧ 8 + (znL Yc + 11) + zlo Yc ≤ zlo Y) (hst : (st.map fun v => v.category).sum ≤ 8) (kk : ∀ (r1 : Int64) (M1 : zMem), zX C Y Q k n (Kf r1 M1) (pc + 3) ls (.long r1 :: st) ad T R M1) : zX C Y Q k n (zcl fc Kf) pc ls (st) ad T R M := zx_callS (as := []) d hm hlk hroom hst rfl (fun _ _ => rfl) rfl (fun r1 M1 _ => kk r1 M1)
theorem zx_callSL1 {fc : Option (Int64 × zMem)} {Kf : Int64 → zMem → Option (ρ × zMem)} {a0 : Value} (d : decode (zcc Y) pc = .ok (.invokestatic idx, 3)) (hm : zMS (zl C) y Yc zrvL fc [a0] T R M) (hlk : zLS (zown Y) idx y Yc 1) (hroom : zfr Yc + 1 ≤ zfr Y ∧ 8 + (znL Yc + 11) + zlo Yc ≤ zlo Y) (hst : (st.map fun v => v.category).sum ≤ 8) (kk : ∀ (r1 : Int64) (M1 : zMem), zX C Y Q k n (Kf r1 M1) (pc + 3) ls (.long r1 :: st) ad T R M1) : zX C Y Q k n (zcl fc Kf) pc ls (a0 :: st) ad T R M := zx_callS (as := [a0]) d hm hlk hroom hst rfl (fun _ _ => rfl) rfl (fun r1 M1 _ => kk r1 M1)
theorem zx_callSL2 {fc : Option (Int64 × zMem)} {Kf : Int64 → zMem → Option (ρ × zMem)} {a0 a1 : Value} (d : decode (zcc Y) pc = .ok (.invokestatic idx, 3)) (hm : zMS (zl C) y Yc zrvL fc [a0, a1] T R M) (hlk : zLS (zown Y) idx y Yc 2) (hroom : zfr Yc + 1 ≤ zfr Y ∧ 8 + (znL Yc + 11) + zlo Yc ≤ zlo Y) (hst : (st.map fun v => v.category).sum ≤ 8) (kk : ∀ (r1 : Int64) (M1 : zMem), zX C Y Q k n (Kf r1 M1) (pc + 3) ls (.long r1 :: st) ad T R M1) : zX C Y Q k n (zcl fc Kf) pc ls (a1 :: a0 :: st) ad T R M := zx_callS (as := [a0, a1]) d hm hlk hroom hst rfl (fun _ _ => rfl) rfl (fun r1 M1 _ => kk r1 M1)
theorem zx_callSL3 {fc : Option (Int64 × zMem)} {Kf : Int64 → zMem → Option (ρ × zMem)} {a0 a1 a2 : Value} (d : decode (zcc Y) pc = .ok (.invokestatic idx, 3)) (hm : zMS (zl C) y Yc zrvL fc [a0, a1, a2] T R M) (hlk : zLS (zown Y) idx y Yc 3) (hroom : zfr Yc + 1 ≤ zfr Y ∧ 8 + (znL Yc + 11) + zlo Yc ≤ zlo Y) (hst : (st.map fun v => v.category).sum ≤ 8) (kk : ∀ (r1 : Int64) (M1 : zMem), zX C Y Q k n (Kf r1 M1) (pc + 3) ls (.long r1 :: st) ad T R M1) : zX C Y Q k n (zcl fc Kf) pc ls (a2 :: a1 :: a0 :: st) ad T R M := zx_callS (as := [a0, a1, a2]) d hm hlk hroom hst rfl (fun _ _ => rfl) rfl (fun r1 M1 _ => kk r1 M1)
theorem zx_callSL4 {fc : Option (Int64 × zMem)} {Kf : Int64 → zMem → Option (ρ × zMem)} {a0 a1 a2 a3 : Value} (d : decode (zcc Y) pc = .ok (.invokestatic idx, 3)) (hm : zMS (zl C) y Yc zrvL fc [a0, a1, a2, a3] T R M) (hlk : zLS (zown Y) idx y Yc 4) (hroom : zfr Yc + 1 ≤ zfr Y ∧ 8 + (znL Yc + 11) + zlo Yc ≤ zlo Y) (hst : (st.map fun v => v.category).sum ≤ 8) (kk : ∀ (r1 : Int64) (M1 : zMem), zX C Y Q k n (Kf r1 M1) (pc + 3) ls (.long r1 :: st) ad T R M1) : zX C Y Q k n (zcl fc Kf) pc ls (a3 :: a2 :: a1 :: a0 :: st) ad T R M := zx_callS (as := [a0, a1, a2, a3]) d hm hlk hroom hst rfl (fun _ _ => rfl) rfl (fun r1 M1 _ => kk r1 M1)
theorem zx_callSL5 {fc : Option (Int64 × zMem)} {Kf : Int64 → zMem → Option (ρ × zMem)} {a0 a1 a2 a3 a4 : Value} (d : decode (zcc Y) pc = .ok (.invokestatic idx, 3)) (hm : zMS (zl C) y Yc zrvL fc [a0, a1, a2, a3, a4] T R M) (hlk : zLS (zown Y) idx y Yc 5) (hroom : zfr Yc + 1 ≤ zfr Y ∧ 8 + (znL Yc + 11) + zlo Yc ≤ zlo Y) (hst : (st.map fun v => v.category).sum ≤ 8) (kk : ∀ (r1 : Int64) (M1 : zMem), zX C Y Q k n (Kf r1 M1) (pc + 3) ls (.long r1 :: st) ad T R M1) : zX C Y Q k n (zcl fc Kf) pc ls (a4 :: a3 :: a2 :: a1 :: a0 :: st) ad T R M := zx_callS (as := [a0, a1, a2, a3, a4]) d hm hlk hroom hst rfl (fun _ _ => rfl) rfl (fun r1 M1 _ => kk r1 M1)
theorem zx_callSL6 {fc : Option (Int64 × zMem)} {Kf : Int64 → zMem → Option (ρ × zMem)} {a0 a1 a2 a3 a4 a5 : Value} (d : decode (zcc Y) pc = .ok (.invokestatic idx, 3)) (hm : zMS (zl C) y Yc zrvL fc [a0, a1, a2, a3, a4, a5] T R M) (hlk : zLS (zown Y) idx y Yc 6) (hroom : zfr Yc + 1 ≤ zfr Y ∧ 8 + (znL Yc + 11) + zlo Yc ≤ zlo Y) (hst : (st.map fun v => v.category).sum ≤ 8) (kk : ∀ (r1 : Int64) (M1 : zMem), zX C Y Q k n (Kf r1 M1) (pc + 3) ls (.long r1 :: st) ad T R M1) : zX C Y Q k n (zcl fc Kf) pc ls (a5 :: a4 :: a3 :: a2 :: a1 :: a0 :: st) ad T R M := zx_callS (as := [a0, a1, a2, a3, a4, a5]) d hm hlk hroom hst rfl (fun _ _ => rfl) rfl (fun r1 M1 _ => kk r1 M1)
theorem zx_callSL7 {fc : Option (Int64 × zMem)} {Kf : Int64 → zMem → Option (ρ × zMem)} {a0 a1 a2 a3 a4 a5 a6 : Value} (d : decode (zcc Y) pc = .ok (.invokestatic idx, 3)) (hm : zMS (zl C) y Yc zrvL fc [a0, a1, a2, a3, a4, a5, a6] T R M) (hlk : zLS (zown Y) idx y Yc 7) (hroom : zfr Yc + 1 ≤ zfr Y ∧ 8 + (znL Yc + 11) + zlo Yc ≤ zlo Y) (hst : (st.map fun v => v.category).sum ≤ 8) (kk : ∀ (r1 : Int64) (M1 : zMem), zX C Y Q k n (Kf r1 M1) (pc + 3) ls (.long r1 :: st) ad T R M1) : zX C Y Q k n (zcl fc Kf) pc ls (a6 :: a5 :: a4 :: a3 :: a2 :: a1 :: a0 :: st) ad T R M := zx_callS (as := [a0, a1, a2, a3, a4, a5, a6]) d hm hlk hroom hst rfl (fun _ _ => rfl) rfl (fun r1 M1 _ => kk r1 M1)
theorem zx_callSV0 {fc : Option (Unit × zMem)} {Kf : Unit → zMem → Option (ρ × zMem)} (d : decode (zcc Y) pc = .ok (.invokestatic idx, 3)) (hm : zMS (zl C) y Yc zrvV fc [] T R M) (hlk : zLS (zown Y) idx y Yc 0) (hroom : zfr Yc + 1 ≤ zfr Y ∧ 8 + (znL Yc + 11) + zlo Yc ≤ zlo Y) (hst : (st.map fun v => v.category).sum ≤ 8) (kk : ∀ (r1 : Unit) (M1 : zMem), zX C Y Q k n (Kf r1 M1) (pc + 3) ls st ad T R M1) : zX C Y Q k n (zcl fc Kf) pc ls (st) ad T R M := zx_callS (as := []) d hm hlk hroom hst rfl (fun _ _ => rfl) rfl (fun r1 M1 _ => kk r1 M1)
theorem zx_callSV1 {fc : Option (Unit × zMem)} {Kf : Unit → zMem → Option (ρ × zMem)} {a0 : Value} (d : decode (zcc Y) pc = .ok (.invokestatic idx, 3)) (hm : zMS (zl C) y Yc zrvV fc [a0] T R M) (hlk : zLS (zown Y) idx y Yc 1) (hroom : zfr Yc + 1 ≤ zfr Y ∧ 8 + (znL Yc + 11) + zlo Yc ≤ zlo Y) (hst : (st.map fun v => v.category).sum ≤ 8) (kk : ∀ (r1 : Unit) (M1 : zMem), zX C Y Q k n (Kf r1 M1) (pc + 3) ls st ad T R M1) : zX C Y Q k n (zcl fc Kf) pc ls (a0 :: st) ad T R M := zx_callS (as := [a0]) d hm hlk hroom hst rfl (fun _ _ => rfl) rfl (fun r1 M1 _ => kk r1 M1)
theorem zx_callSV2 {fc : Option (Unit × zMem)} {Kf : Unit → zMem → Option (ρ × zMem)} {a0 a1 : Value} (d : decode (zcc Y) pc = .ok (.invokestatic idx, 3)) (hm : zMS (zl C) y Yc zrvV fc [a0, a1] T R M) (hlk : zLS (zown Y) idx y Yc 2) (hroom : zfr Yc + 1 ≤ zfr Y ∧ 8 + (znL Yc + 11) + zlo Yc ≤ zlo Y) (hst : (st.map fun v => v.category).sum ≤ 8) (kk : ∀ (r1 : Unit) (M1 : zMem), zX C Y Q k n (Kf r1 M1) (pc + 3) ls st ad T R M1) : zX C Y Q k n (zcl fc Kf) pc ls (a1 :: a0 :: st) ad T R M := zx_callS (as := [a0, a1]) d hm hlk hroom hst rfl (fun _ _ => rfl) rfl (fun r1 M1 _ => kk r1 M1)
theorem zx_callSV3 {fc : Option (Unit × zMem)} {Kf : Unit → zMem → Option (ρ × zMem)} {a0 a1 a2 : Value} (d : decode (zcc Y) pc = .ok (.invokestatic idx, 3)) (hm : zMS (zl C) y Yc zrvV fc [a0, a1, a2] T R M) (hlk : zLS (zown Y) idx y Yc 3) (hroom : zfr Yc + 1 ≤ zfr Y ∧ 8 + (znL Yc + 11) + zlo Yc ≤ zlo Y) (hst : (st.map fun v => v.category).sum ≤ 8) (kk : ∀ (r1 : Unit) (M1 : zMem), zX C Y Q k n (Kf r1 M1) (pc + 3) ls st ad T R M1) : zX C Y Q k n (zcl fc Kf) pc ls (a2 :: a1 :: a0 :: st) ad T R M := zx_callS (as := [a0, a1, a2]) d hm hlk hroom hst rfl (fun _ _ => rfl) rfl (fun r1 M1 _ => kk r1 M1)
theorem zx_callSV4 {fc : Option (Unit × zMem)} {Kf : Unit → zMem → Option (ρ × zMem)} {a0 a1 a2 a3 : Value} (d : decode (zcc Y) pc = .ok (.invokestatic idx, 3)) (hm : zMS (zl C) y Yc zrvV fc [a0, a1, a2, a3] T R M) (hlk : zLS (zown Y) idx y Yc 4) (hroom : zfr Yc + 1 ≤ zfr Y ∧ 8 + (znL Yc + 11) + zlo Yc ≤ zlo Y) (hst : (st.map fun v => v.category).sum ≤ 8) (kk : ∀ (r1 : Unit) (M1 : zMem), zX C Y Q k n (Kf r1 M1) (pc + 3) ls st ad T R M1) : zX C Y Q k n (zcl fc Kf) pc ls (a3 :: a2 :: a1 :: a0 :: st) ad T R M := zx_callS (as := [a0, a1, a2, a3]) d hm hlk hroom hst rfl (fun _ _ => rfl) rfl (fun r1 M1 _ => kk r1 M1)
theorem zx_callSV5 {fc : Option (Unit × zMem)} {Kf : Unit → zMem → Option (ρ × zMem)} {a0 a1 a2 a3 a4 : Value} (d : decode (zcc Y) pc = .ok (.invokestatic idx, 3)) (hm : zMS (zl C) y Yc zrvV fc [a0, a1, a2, a3, a4] T R M) (hlk : zLS (zown Y) idx y Yc 5) (hroom : zfr Yc + 1 ≤ zfr Y ∧ 8 + (znL Yc + 11) + zlo Yc ≤ zlo Y) (hst : (st.map fun v => v.category).sum ≤ 8) (kk : ∀ (r1 : Unit) (M1 : zMem), zX C Y Q k n (Kf r1 M1) (pc + 3) ls st ad T R M1) : zX C Y Q k n (zcl fc Kf) pc ls (a4 :: a3 :: a2 :: a1 :: a0 :: st) ad T R M := zx_callS (as := [a0, a1, a2, a3, a4]) d hm hlk hroom hst rfl (fun _ _ => rfl) rfl (fun r1 M1 _ => kk r1 M1)
theorem zx_callSV6 {fc : Option (Unit × zMem)} {Kf : Unit → zMem → Option (ρ × zMem)} {a0 a1 a2 a3 a4 a5 : Value} (d : decode (zcc Y) pc = .ok (.invokestatic idx, 3)) (hm : zMS (zl C) y Yc zrvV fc [a0, a1, a2, a3, a4, a5] T R M) (hlk : zLS (zown Y) idx y Yc 6) (hroom : zfr Yc + 1 ≤ zfr Y ∧ 8 + (znL Yc + 11) + zlo Yc ≤ zlo Y) (hst : (st.map fun v => v.category).sum ≤ 8) (kk : ∀ (r1 : Unit) (M1 : zMem), zX C Y Q k n (Kf r1 M1) (pc + 3) ls st ad T R M1) : zX C Y Q k n (zcl fc Kf) pc ls (a5 :: a4 :: a3 :: a2 :: a1 :: a0 :: st) ad T R M := zx_callS (as := [a0, a1, a2, a3, a4, a5]) d hm hlk hroom hst rfl (fun _ _ => rfl) rfl (fun r1 M1 _ => kk r1 M1)
theorem zx_callSV7 {fc : Option (Unit × zMem)} {Kf : Unit → zMem → Option (ρ × zMem)} {a0 a1 a2 a3 a4 a5 a6 : Value} (d : decode (zcc Y) pc = .ok (.invokestatic idx, 3)) (hm : zMS (zl C) y Yc zrvV fc [a0, a1, a2, a3, a4, a5, a6] T R M) (hlk : zLS (zown Y) idx y Yc 7) (hroom : zfr Yc + 1 ≤ zfr Y ∧ 8 + (znL Yc + 11) + zlo Yc ≤ zlo Y) (hst : (st.map fun v => v.category).sum ≤ 8) (kk : ∀ (r1 : Unit) (M1 : zMem), zX C Y Q k n (Kf r1 M1) (pc + 3) ls st ad T R M1) : zX C Y Q k n (zcl fc Kf) pc ls (a6 :: a5 :: a4 :: a3 :: a2 :: a1 :: a0 :: st) ad T R M := zx_callS (as := [a0, a1, a2, a3, a4, a5, a6]) d hm hlk hroom hst rfl (fun _ _ => rfl) rfl (fun r1 M1 _ => kk r1 M1)
theorem zx_iret {v : Int32} (d : decode (zcc Y) pc = .ok (.ireturn, 1)) (h0 : zret Y = some .int) : zX C Y (zFin C zrvI ad T R) 0 0 (some (v, M)) pc ls [.int v] ad T R M := by
  obtain ⟨p, l, e, Rm, s, m, args, below, meth, c, D, cs, A, K⟩ := C
  intro r M' hf hO hkn H locs la hP hD hS hl
  have hO' := hO
  obtain ⟨hx, hb, hml, hr, hown, hts, hK, hA, hlk, hB, hST, hR1, hR2, hR3, hR4⟩ := hO
  cases hf
  have e0 := hr
  refine W.iret hx hb (e0.trans h0) (fun t ht hW => ⟨⟨rfl, by rw [ht]; exact hP⟩, hS.F ht⟩) (fun q hq => hS.2.2 q hq) d hlk

theorem zx_lret {v : Int64} (d : decode (zcc Y) pc = .ok (.lreturn, 1)) (h0 : zret Y = some .long) : zX C Y (zFin C zrvL ad T R) 0 0 (some (v, M)) pc ls [.long v] ad T R M := by
  obtain ⟨p, l, e, Rm, s, m, args, below, meth, c, D, cs, A, K⟩ := C
  intro r M' hf hO hkn H locs la hP hD hS hl
  have hO' := hO
  obtain ⟨hx, hb, hml, hr, hown, hts, hK, hA, hlk, hB, hST, hR1, hR2, hR3, hR4⟩ := hO
  cases hf
  have e0 := hr
  refine W.lret hx hb (e0.trans h0) (fun t ht hW => ⟨⟨rfl, by rw [ht]; exact hP⟩, hS.F ht⟩) (fun q hq => hS.2.2 q hq) d hlk

theorem zx_vret  (d : decode (zcc Y) pc = .ok (.return_, 1)) (h0 : zret Y = none) : zX C Y (zFin C zrvV ad T R) 0 0 (some ((), M)) pc ls [] ad T R M := by
  obtain ⟨p, l, e, Rm, s, m, args, below, meth, c, D, cs, A, K⟩ := C
  intro r M' hf hO hkn H locs la hP hD hS hl
  have hO' := hO
  obtain ⟨hx, hb, hml, hr, hown, hts, hK, hA, hlk, hB, hST, hR1, hR2, hR3, hR4⟩ := hO
  cases hf
  have e0 := hr
  refine W.vret hx hb (e0.trans h0) (fun t ht hW => ⟨⟨rfl, by rw [ht]; exact hP⟩, hS.F ht⟩) (fun q hq => hS.2.2 q hq) d hlk

theorem zx_zret {v : Int32} {ty : FieldType} (d : decode (zcc Y) pc = .ok (.ireturn, 1)) (h0 : zret Y = some ty) (hn : narrow ty (.int v) = .int v) : zX C Y (zFin C zrvI ad T R) 0 0 (some (v, M)) pc ls [.int v] ad T R M := by
  obtain ⟨p, l, e, Rm, s, m, args, below, meth, c, D, cs, A, K⟩ := C
  intro r M' hf hO hkn H locs la hP hD hS hl
  have hO' := hO
  obtain ⟨hx, hb, hml, hr, hown, hts, hK, hA, hlk, hB, hST, hR1, hR2, hR3, hR4⟩ := hO
  cases hf
  exact W.zret hx hb (hr.trans h0) hn (fun t ht hW => ⟨⟨rfl, by rw [ht]; exact hP⟩, hS.F ht⟩) (fun q hq => hS.2.2 q hq) d hlk

/-- a truth value that comes out of another call -/
theorem zx_zretC {v : Int32} (d : decode (zcc Y) pc = .ok (.ireturn, 1)) (h0 : zret Y = some .boolean) : zX C Y (zFin C zrvI ad T R) 0 0 (zchk (v = 0 ∨ v = 1) (some (v, M))) pc ls [.int v] ad T R M := by
  unfold zchk
  by_cases h : v = 0 ∨ v = 1
  · rw [if_pos h]
    exact zx_zret d h0 (by rcases h with rfl | rfl <;> rfl)
  · rw [if_neg h]
    exact zx_none
theorem zx_mmax {x y : Int32} (d : decode (zcc Y) pc = .ok (.invokestatic idx, 3)) (hlk0 : Cond.methodLink (zown Y) idx Lib.Math.max.name ∈ zgtbl ∧ Cond.static Lib.Math.max.name ∈ zgtbl ∧ Cond.initialized "java/lang/Math" ∈ zgtbl ∧ Cond.code Lib.Math.max.name Lib.Math.max.code 2 (some .int) ∈ zgtbl) (hroom : 1 ≤ zfr Y ∧ (st.map fun v => v.category).sum + 13 ≤ zlo Y) (kk : zX C Y Q k n f (pc + 3) ls (.int (if x < y then y else x) :: st) ad T R M) : zX C Y Q k n f pc ls (.int y :: .int x :: st) ad T R M := by
  obtain ⟨p, l, e, Rm, s, m, args, below, meth, c, D, cs, A, K⟩ := C
  intro r M' hf hO hkn H locs la hP hD hS hl
  have hO' := hO
  obtain ⟨hx, hb, hml, hr, hown, hts, hK, hA, hlk, hB, hST, hR1, hR2, hR3, hR4⟩ := hO
  refine va_mmax hx hb (hml.trans hl.1.symm) hown (hts _ hlk0.1) (hts _ hlk0.2.1) (hts _ hlk0.2.2.1) (hts _ hlk0.2.2.2) (Nat.le_trans hroom.1 hR1) ?_ hkn.1 hkn.2.1 d (kk r M' hf hO' hkn H locs la hP hD hS hl)
  have h9 := zcats ad st
  rw [h9]
  exact Nat.le_trans hroom.2 hR2

theorem zx_mmin {x y : Int32} (d : decode (zcc Y) pc = .ok (.invokestatic idx, 3)) (hlk0 : Cond.methodLink (zown Y) idx Lib.Math.min.name ∈ zgtbl ∧ Cond.static Lib.Math.min.name ∈ zgtbl ∧ Cond.initialized "java/lang/Math" ∈ zgtbl ∧ Cond.code Lib.Math.min.name Lib.Math.min.code 2 (some .int) ∈ zgtbl) (hroom : 1 ≤ zfr Y ∧ (st.map fun v => v.category).sum + 13 ≤ zlo Y) (kk : zX C Y Q k n f (pc + 3) ls (.int (if y < x then y else x) :: st) ad T R M) : zX C Y Q k n f pc ls (.int y :: .int x :: st) ad T R M := by
  obtain ⟨p, l, e, Rm, s, m, args, below, meth, c, D, cs, A, K⟩ := C
  intro r M' hf hO hkn H locs la hP hD hS hl
  have hO' := hO
  obtain ⟨hx, hb, hml, hr, hown, hts, hK, hA, hlk, hB, hST, hR1, hR2, hR3, hR4⟩ := hO
  refine va_mmin hx hb (hml.trans hl.1.symm) hown (hts _ hlk0.1) (hts _ hlk0.2.1) (hts _ hlk0.2.2.1) (hts _ hlk0.2.2.2) (Nat.le_trans hroom.1 hR1) ?_ hkn.1 hkn.2.1 d (kk r M' hf hO' hkn H locs la hP hD hS hl)
  have h9 := zcats ad st
  rw [h9]
  exact Nat.le_trans hroom.2 hR2

theorem zx_mabs {x : Int32} (d : decode (zcc Y) pc = .ok (.invokestatic idx, 3)) (hlk0 : Cond.methodLink (zown Y) idx Lib.Math.abs.name ∈ zgtbl ∧ Cond.static Lib.Math.abs.name ∈ zgtbl ∧ Cond.initialized "java/lang/Math" ∈ zgtbl ∧ Cond.code Lib.Math.abs.name Lib.Math.abs.code 1 (some .int) ∈ zgtbl) (hroom : 1 ≤ zfr Y ∧ (st.map fun v => v.category).sum + 13 ≤ zlo Y) (kk : zX C Y Q k n f (pc + 3) ls (.int (if 0 ≤ x then x else 0 - x) :: st) ad T R M) : zX C Y Q k n f pc ls (.int x :: st) ad T R M := by
  obtain ⟨p, l, e, Rm, s, m, args, below, meth, c, D, cs, A, K⟩ := C
  intro r M' hf hO hkn H locs la hP hD hS hl
  have hO' := hO
  obtain ⟨hx, hb, hml, hr, hown, hts, hK, hA, hlk, hB, hST, hR1, hR2, hR3, hR4⟩ := hO
  refine va_mabs hx hb (hml.trans hl.1.symm) hown (hts _ hlk0.1) (hts _ hlk0.2.1) (hts _ hlk0.2.2.1) (hts _ hlk0.2.2.2) (Nat.le_trans hroom.1 hR1) ?_ hkn.1 hkn.2.1 d (kk r M' hf hO' hkn H locs la hP hD hS hl)
  have h9 := zcats ad st
  rw [h9]
  exact Nat.le_trans hroom.2 hR2

/-- arraycopy's bounds -/
def zcpok (n0 n1 : Nat) (sp dp len : Int32) : Prop := ¬ sp < 0 ∧ ¬ dp < 0 ∧ ¬ len < 0 ∧ sp.toNatClampNeg + len.toNatClampNeg ≤ n0 ∧ dp.toNatClampNeg + len.toNatClampNeg ≤ n1
theorem zx_copyI {a b n0 n1 : Nat} {sp dp len : Int32} {Kf : zMem → Option (ρ × zMem)} (d : decode (zcc Y) pc = .ok (.invokestatic idx, 3)) (hlk0 : Cond.methodLink (zown Y) idx arraycopyName ∈ zgtbl ∧ Cond.native arraycopyName ∈ zgtbl ∧ Cond.static arraycopyName ∈ zgtbl ∧ Cond.initialized "java/lang/System" ∈ zgtbl) (hroom : 1 ≤ zfr Y ∧ (st.map fun v => v.category).sum + 18 ≤ zlo Y) (ht0 : T[a]? = some (1, n0)) (ht1 : T[b]? = some (1, n1)) (hok : zcpok n0 n1 sp dp len) (kk : ∀ M1 : zMem, zX C Y Q k n (Kf M1) (pc + 3) ls st ad T R M1) : zX C Y Q k n (zlet (zrowI M b (va_cpy (M.1 a) (M.1 b) sp.toNatClampNeg dp.toNatClampNeg len.toNatClampNeg)) Kf) pc ls (.int len :: .int dp :: .ref b :: .int sp :: .ref a :: st) ad T R M := by
  obtain ⟨p, l, e, Rm, s, m, args, below, meth, c, D, cs, A, K⟩ := C
  intro r M' hf hO hkn H locs la hP hD hS hl
  have hO' := hO
  obtain ⟨hx, hb, hml, hr, hown, hts, hK, hA, hlk, hB, hST, hR1, hR2, hR3, hR4⟩ := hO
  obtain ⟨g1, g2, g3, g4, g5⟩ := hok
  refine va_copyi hx hb (hml.trans hl.1.symm) hown (hts _ hlk0.1) (hts _ hlk0.2.1) (hts _ hlk0.2.2.1) (hts _ hlk0.2.2.2) hK hP hD hS a b 0 0 (zworld_get ht0) (zworld_get ht1) rfl rfl rfl g1 g2 g3 g4 g5 (fun i hi => rfl) (Nat.le_trans hroom.1 hR1) ?_ d (fun H1 locs1 hP1 hD1 hS1 => ?_)
  · have h9 := zcats ad st
    rw [h9]
    exact Nat.le_trans hroom.2 hR2
  · have he := zworld_set (cs := cs) (ad := ad) (T := T) (R := R) (R' := R) (M := M) (M' := (zrowI M b (va_cpy (M.1 a) (M.1 b) sp.toNatClampNeg dp.toNatClampNeg len.toNatClampNeg))) (e := .inl (cs 0, n1, .inl (va_cpy (M.1 a) (M.1 b) sp.toNatClampNeg dp.toNatClampNeg len.toNatClampNeg))) ht1 (by simp [zcell, zrowI]) (fun q hq => ⟨zrowI_ne q hq, rfl, rfl⟩)
    exact kk _ r M' hf hO' hkn H1 locs1 la (by rw [← he]; exact hP1) (by rw [← he]; exact hD1) hS1 hl

theorem zx_copyL {a b n0 n1 : Nat} {sp dp len : Int32} {Kf : zMem → Option (ρ × zMem)} (d : decode (zcc Y) pc = .ok (.invokestatic idx, 3)) (hlk0 : Cond.methodLink (zown Y) idx arraycopyName ∈ zgtbl ∧ Cond.native arraycopyName ∈ zgtbl ∧ Cond.static arraycopyName ∈ zgtbl ∧ Cond.initialized "java/lang/System" ∈ zgtbl) (hroom : 1 ≤ zfr Y ∧ (st.map fun v => v.category).sum + 18 ≤ zlo Y) (ht0 : T[a]? = some (2, n0)) (ht1 : T[b]? = some (2, n1)) (hok : zcpok n0 n1 sp dp len) (kk : ∀ M1 : zMem, zX C Y Q k n (Kf M1) (pc + 3) ls st ad T R M1) : zX C Y Q k n (zlet (zrowL M b (va_cpy (M.2 a) (M.2 b) sp.toNatClampNeg dp.toNatClampNeg len.toNatClampNeg)) Kf) pc ls (.int len :: .int dp :: .ref b :: .int sp :: .ref a :: st) ad T R M := by
  obtain ⟨p, l, e, Rm, s, m, args, below, meth, c, D, cs, A, K⟩ := C
  intro r M' hf hO hkn H locs la hP hD hS hl
  have hO' := hO
  obtain ⟨hx, hb, hml, hr, hown, hts, hK, hA, hlk, hB, hST, hR1, hR2, hR3, hR4⟩ := hO
  obtain ⟨g1, g2, g3, g4, g5⟩ := hok
  refine va_copyl hx hb (hml.trans hl.1.symm) hown (hts _ hlk0.1) (hts _ hlk0.2.1) (hts _ hlk0.2.2.1) (hts _ hlk0.2.2.2) hK hP hD hS a b 1 1 (zworld_get ht0) (zworld_get ht1) rfl rfl rfl g1 g2 g3 g4 g5 (fun i hi => rfl) (Nat.le_trans hroom.1 hR1) ?_ d (fun H1 locs1 hP1 hD1 hS1 => ?_)
  · have h9 := zcats ad st
    rw [h9]
    exact Nat.le_trans hroom.2 hR2
  · have he := zworld_set (cs := cs) (ad := ad) (T := T) (R := R) (R' := R) (M := M) (M' := (zrowL M b (va_cpy (M.2 a) (M.2 b) sp.toNatClampNeg dp.toNatClampNeg len.toNatClampNeg))) (e := .inl (cs 1, n1, .inr (.inl (va_cpy (M.2 a) (M.2 b) sp.toNatClampNeg dp.toNatClampNeg len.toNatClampNeg)))) ht1 (by simp [zcell, zrowL]) (fun q hq => ⟨rfl, zrowL_ne q hq, rfl⟩)
    exact kk _ r M' hf hO' hkn H1 locs1 la (by rw [← he]; exact hP1) (by rw [← he]; exact hD1) hS1 hl

theorem zx_ldcS {idx : Nat} (d : decode (zcc Y) pc = .ok (.ldc idx, 2)) (i : Nat) (hi : i < 5) (ho : zsO i = zown Y) (hi2 : zsK i = idx) (kk : zX C Y Q k n f (pc + 2) ls (.ref (zBIG + i) :: st) ad T R M) : zX C Y Q k n f pc ls st ad T R M := by
  obtain ⟨p, l, e, Rm, s, m, args, below, meth, c, D, cs, A, K⟩ := C
  intro r M' hf hO hkn H locs la hP hD hS hl
  have hO' := hO
  obtain ⟨hx, hb, hml, hr, hown, hts, hK, hA, hlk, hB, hST, hR1, hR2, hR3, hR4⟩ := hO
  have h1 := hST.1 i hi
  rw [ho, hi2] at h1
  refine va_ldcS hx hb hown h1 d ?_
  have h2 := kk r M' hf hO' hkn H locs la hP hD hS hl
  rw [← hkn.2.2.1 i hi]
  exact h2

theorem zx_ldc {idx : Nat} {v : Int32} (d : decode (zcc Y) pc = .ok (.ldc idx, 2)) (hc0 : Cond.constant (zown Y) idx v ∈ zgtbl) (kk : zX C Y Q k n f (pc + 2) ls (.int v :: st) ad T R M) : zX C Y Q k n f pc ls st ad T R M := by
  obtain ⟨p, l, e, Rm, s, m, args, below, meth, c, D, cs, A, K⟩ := C
  intro r M' hf hO hkn H locs la hP hD hS hl
  have hO' := hO
  obtain ⟨hx, hb, hml, hr, hown, hts, hK, hA, hlk, hB, hST, hR1, hR2, hR3, hR4⟩ := hO
  exact lv_ldc hx hb hown (hts _ hc0) d (kk r M' hf hO' hkn H locs la hP hD hS hl)

theorem zx_ldcw {idx : Nat} {v : Int32} (d : decode (zcc Y) pc = .ok (.ldc_w idx, 3)) (hc0 : Cond.constant (zown Y) idx v ∈ zgtbl) (kk : zX C Y Q k n f (pc + 3) ls (.int v :: st) ad T R M) : zX C Y Q k n f pc ls st ad T R M := by
  obtain ⟨p, l, e, Rm, s, m, args, below, meth, c, D, cs, A, K⟩ := C
  intro r M' hf hO hkn H locs la hP hD hS hl
  have hO' := hO
  obtain ⟨hx, hb, hml, hr, hown, hts, hK, hA, hlk, hB, hST, hR1, hR2, hR3, hR4⟩ := hO
  exact lv_ldcw hx hb hown (hts _ hc0) d (kk r M' hf hO' hkn H locs la hP hD hS hl)

theorem zx_ldc2 {idx : Nat} {v : Int64} (d : decode (zcc Y) pc = .ok (.ldc2_w idx, 3)) (hc0 : Cond.constantLong (zown Y) idx v ∈ zgtbl) (kk : zX C Y Q k n f (pc + 3) ls (.long v :: st) ad T R M) : zX C Y Q k n f pc ls st ad T R M := by
  obtain ⟨p, l, e, Rm, s, m, args, below, meth, c, D, cs, A, K⟩ := C
  intro r M' hf hO hkn H locs la hP hD hS hl
  have hO' := hO
  obtain ⟨hx, hb, hml, hr, hown, hts, hK, hA, hlk, hB, hST, hR1, hR2, hR3, hR4⟩ := hO
  exact lv_ldc2 hx hb hown (hts _ hc0) d (kk r M' hf hO' hkn H locs la hP hD hS hl)

end ZX
