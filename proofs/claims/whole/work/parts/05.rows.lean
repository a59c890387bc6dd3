def zlenJS : List Nat := [128, 6, 5, 7, 4]
def zbytJS : List (List Int32) := [[98, 97, 116, 104, 32, 112, 97, 112, 101, 114, 32, 115, 104, 101, 101, 116, 32, 115, 112, 97, 114, 101, 32, 119, 101, 97, 107, 32, 102, 114, 101, 115, 104, 32, 115, 116, 97, 114, 116, 32, 116, 97, 107, 101, 32, 97, 103, 97, 105, 110, 32, 114, 101, 110, 101, 119, 32, 109, 105, 110, 117, 116, 101, 32, 111, 114, 32, 97, 110, 100, 32, 110, 111, 116, 32, 119, 97, 105, 116, 105, 110, 103, 32, 100, 111, 110, 101, 32, 115, 112, 111, 105, 108, 116, 32, 104, 101, 108, 100, 32, 105, 110, 32, 111, 102, 32, 108, 101, 102, 116, 32, 111, 118, 101, 114, 32, 116, 114, 105, 101, 115, 32, 110, 117, 109, 98, 101, 114], [32, 119, 97, 105, 116, 115], [32, 100, 111, 110, 101], [32, 115, 112, 111, 105, 108, 116], [32, 105, 110, 32]]
abbrev zown (Y : zMI) : String := Y.1
abbrev zcc (Y : zMI) : ByteArray := Y.2.1
abbrev znL (Y : zMI) : Nat := Y.2.2.1
abbrev zret (Y : zMI) : Option FieldType := Y.2.2.2.1
abbrev zfr (Y : zMI) : Nat := Y.2.2.2.2.1
abbrev zlo (Y : zMI) : Nat := Y.2.2.2.2.2.1
abbrev zmc (Y : zMI) : Nat := Y.2.2.2.2.2.2.1
abbrev zms (Y : zMI) : Nat := Y.2.2.2.2.2.2.2
abbrev zl (C : zCx) : Launch := C.2.1
/-- the texts' own numbers among references, and where they stand in the class files -/
def zBIG : Nat := 1000000
def zsO (i : Nat) : String := match i with | 0 => "BathMinutes$Tape" | _ => "BathMinutes$Tag"
def zsK (i : Nat) : Nat := match i with | 0 => 19 | 1 => 39 | 2 => 45 | 3 => 47 | _ => 59
def zsT (i : Nat) : String := match i with | 0 => "bath paper sheet spare weak fresh start take again renew minute or and not waiting done spoilt held in of left over tries number" | 1 => " waits" | 2 => " done" | 3 => " spoilt" | _ => " in "
def zNest : List Cond := [(Cond.methodLinkNest "BathMinutes" (18 : Nat) ({ cls := "BathMinutes$Room", name := "<init>", desc := "()V" } : MethodName) "BathMinutes"), (Cond.fieldLinkNest "BathMinutes$Draws" (29 : Nat) "BathMinutes$Lab" "room" "LBathMinutes$Room;" "BathMinutes"), (Cond.methodLinkNest "BathMinutes" (40 : Nat) ({ cls := "BathMinutes$Sentence", name := "<init>", desc := "()V" } : MethodName) "BathMinutes"), (Cond.methodLinkNest "BathMinutes" (50 : Nat) ({ cls := "BathMinutes$Book", name := "<init>", desc := "()V" } : MethodName) "BathMinutes"), (Cond.methodLinkNest "BathMinutes" (57 : Nat) ({ cls := "BathMinutes$Past", name := "<init>", desc := "()V" } : MethodName) "BathMinutes"), (Cond.methodLinkNest "BathMinutes" (80 : Nat) ({ cls := "BathMinutes$Draws", name := "<init>", desc := "()V" } : MethodName) "BathMinutes"), (Cond.methodLinkNest "BathMinutes" (87 : Nat) ({ cls := "BathMinutes$Tag", name := "<init>", desc := "()V" } : MethodName) "BathMinutes"), (Cond.methodLinkNest "BathMinutes" (98 : Nat) ({ cls := "BathMinutes$Image", name := "<init>", desc := "()V" } : MethodName) "BathMinutes"), (Cond.methodLinkNest "BathMinutes$Image" (9 : Nat) ({ cls := "BathMinutes$Room", name := "<init>", desc := "()V" } : MethodName) "BathMinutes"), (Cond.methodLinkNest "BathMinutes$Image" (18 : Nat) ({ cls := "BathMinutes$Sentence", name := "<init>", desc := "()V" } : MethodName) "BathMinutes"), (Cond.methodLinkNest "BathMinutes$Plan" (92 : Nat) ({ cls := "BathMinutes", name := "makeNextRow", desc := "([II)Z" } : MethodName) "BathMinutes"), (Cond.methodLinkNest "BathMinutes$Papers" (67 : Nat) ({ cls := "BathMinutes", name := "makeNextRow", desc := "([II)Z" } : MethodName) "BathMinutes")]
def zisNest : Cond → Bool
  | .methodLinkNest _ _ _ _ => true
  | .fieldLinkNest _ _ _ _ _ _ => true
  | _ => false
theorem zNest_all : zNest.all zisNest = true := by decide +kernel
theorem zoverA_spec {args : Array Value} {first s : State} {o : Option Outcome} {idx : List Nat} {t : FieldType} (h : (Cond.arrayOver (.array t)).holds args first o s idx = true) :
    ∃ comp c k, s.vm.findClass (FieldType.array t).toString = some comp ∧ (s.vm.classes.findIdx? fun x => match x.kind with | .array component _ => component == comp | _ => false) = some c ∧ s.vm.classes[c]? = some k ∧ k.kind = .array comp (.array t) ∧ s.vm.findClass ("[" ++ (FieldType.array t).toString) = some c := by
  simp only [Cond.holds, Cond.value, beq_iff_eq] at h
  cases hc : s.vm.findClass (FieldType.array t).toString with
  | none => simp [hc] at h
  | some comp =>
    simp only [hc, Option.bind_some, Option.bind_eq_some_iff, Option.map_eq_some_iff] at h
    obtain ⟨c, hi, k, hk, hb⟩ := h
    obtain ⟨hlt, hp, -⟩ := Array.findIdx?_eq_some_iff_getElem.mp hi
    have hkk : s.vm.classes[c] = k := (Array.getElem?_eq_some_iff.mp hk).2
    rw [hkk] at hp
    cases hkind : k.kind with
    | array component ty =>
      rw [hkind] at hb hp
      simp at hb hp
      exact ⟨comp, c, k, rfl, hi, hk, by rw [hkind, hp, hb.1], hb.2⟩
    | _ => rw [hkind] at hb; simp at hb
def va_AOA (t : FieldType) (U : State) : Prop := (Cond.arrayOver (.array t)).before #[] U = true
theorem va_AOA.of {t : FieldType} {A : Array Value} {U : State} (h : (Cond.arrayOver (.array t)).before A U = true) : va_AOA t U := h
theorem va_AOA.use {t : FieldType} {A : Array Value} {U : State} (h : va_AOA t U) : (Cond.arrayOver (.array t)).before A U = true := h
theorem va_AOA.moved {t : FieldType} {u U : State} (hvm : u.vm.Alike U.vm) (h : va_AOA t u) : va_AOA t U := by
  obtain ⟨comp, c, k, h1, h2, h3, h4, h5⟩ := zoverA_spec h
  obtain ⟨k', hk', he⟩ := hvm.2.2 _ _ h3
  have hi : (U.vm.classes.findIdx? fun (x : Class) => match x.kind with | .array component _ => component == comp | _ => false) = some c := by
    have e1 := va_idx_bare U.vm comp
    have e2 := va_idx_bare u.vm comp
    have e3 : U.vm.bare = u.vm.bare := by first | exact hvm.bare_eq | exact hvm.bare_eq.symm
    rw [e3] at e1
    exact e1.symm.trans (e2.trans h2)
  have hkind : k'.kind = .array comp (.array t) := by rw [he]; exact h4
  have f1 : U.vm.findClass (FieldType.array t).toString = some comp := by rw [hvm.findClass]; exact h1
  have f2 : U.vm.findClass ("[" ++ (FieldType.array t).toString) = some c := by rw [hvm.findClass]; exact h5
  unfold va_AOA Cond.before Cond.holds
  simp only [Cond.value]
  rw [f1, Option.bind_some]
  refine (congrArg (fun o : Option Nat => (o.bind (fun c => (U.vm.classes[c]?).map fun (k : Class) => match k.kind with | .array _ ty => decide (ty = FieldType.array t) && decide (U.vm.findClass ("[" ++ (FieldType.array t).toString) = some c) | _ => false) == some true)) hi).trans ?_
  simp [hk', hkind, f2]
def zXW : List Cond := (vx_at0 RX11 165 "java/util/NoSuchElementException" ["java/lang/RuntimeException", "java/lang/Exception"]).filter (fun w => !goodWord w)
theorem zXW_all : zXW.all (fun w => w.faceAtom && w.onTables) = true := by decide +kernel
def zST (K : (Nat → Nat) × (Nat → Nat)) (U : State) : Prop := (∀ i, i < 5 → vk_R (zsO i) (zsK i) (zsT i) (K.1 i) U) ∧ (∀ w ∈ zNest, va_Nw w U) ∧ (∀ w ∈ zXW, va_Nw w U) ∧ va_AO "BathMinutes$Image" U ∧ va_AOA .int U
theorem znw_onT {w : Cond} (h : zisNest w = true) : w.onTables = true := by
  cases w <;> first | rfl | (simp [zisNest] at h; done)
theorem zxw_onT {w : Cond} (h : w ∈ zXW) : w.faceAtom = true ∧ w.onTables = true := by
  have := List.all_eq_true.mp zXW_all w h
  simpa using this
theorem zalike_eq {u U : State} (hv : U.vm = u.vm) : u.vm.Alike U.vm := by rw [hv]; exact Vm.Alike.refl _
theorem zST.same {K : (Nat → Nat) × (Nat → Nat)} {u U : State} (hv : U.vm = u.vm) (h : zST K u) : zST K U := ⟨fun i hi => vk_R.same hv (h.1 i hi), fun w hw => va_Nw.same (znw_onT (List.all_eq_true.mp zNest_all w hw)) hv.symm (h.2.1 w hw), fun w hw => va_Nw.same (zxw_onT hw).2 hv.symm (h.2.2.1 w hw), h.2.2.2.1.moved (zalike_eq hv), h.2.2.2.2.moved (zalike_eq hv)⟩
theorem zST.warm {K : (Nat → Nat) × (Nat → Nat)} {s U : State} (hW : s.WarmedH U.vm) (h : zST K s) : zST K U := ⟨fun i hi => vk_R.warm hW (h.1 i hi), fun w hw => by
  have h1 := List.all_eq_true.mp zNest_all w hw
  have h2 := h.2.1 w hw
  cases w <;> first | (simp [zisNest] at h1; done) | exact va_Nw.warmM hW h2 | exact va_Nw.warmF hW h2, fun w hw => va_tabs (zxw_onT hw).2 (rfl : (s.setVm U.vm).vm = U.vm) (Cond.faceAtom_setVm hW.alike w (zxw_onT hw).1 (h.2.2.1 w hw)), h.2.2.2.1.moved hW.alike, h.2.2.2.2.moved hW.alike⟩
def zSA (K : (Nat → Nat) × (Nat → Nat)) (ad : Nat → Nat) : Prop := (∀ i, i < 5 → ad (zBIG + i) = K.1 i) ∧ ∀ i, i < 6 → ad (zBIG + 10 + i) = K.2 i
/-- what holds of a method's stand all along -/
def zOk (C : zCx) (Y : zMI) : Prop := match C with
  | (p, _, _, Rm, s, m, args, _, meth, c, D, cs, A, K) => p.tables.exec = Jvm.exec ∧ c.code = zcc Y ∧ c.maxLocals = znL Y ∧ meth.sig.returnType = zret Y ∧ s.vm.findClass (zown Y) = some m.cls ∧ (∀ w ∈ zgtbl, w.before args s = true) ∧ va_K D zClasses (ztys cs) s ∧ (∀ q, s.heap.size ≤ q → A q) ∧ meth.locks = false ∧ zBG K zlenJS zbytJS A s s.heap ∧ zST K s ∧ zfr Y ≤ Rm.frames ∧ zlo Y ≤ Rm.locals ∧ zmc Y ≤ Rm.cells ∧ zms Y ≤ Rm.slots
/-- from here, in the world (T, R, M), the method comes to its end with what f answers, if f answers -/
def zX {ρ : Type} (C : zCx) (Y : zMI) (Q : ρ → zMem → State → Prop) (k n : Nat) (f : Option (ρ × zMem)) (pc : Nat) (ls : List (Nat × Value)) (st : List Value) (ad : Nat → Nat) (T : zTT) (R : zRR) (M : zMem) : Prop := match C with
  | (p, l, e, Rm, s, m, args, below, meth, c, D, cs, A, K) => ∀ (r : ρ) (M' : zMem), f = some (r, M') → zOk (p, l, e, Rm, s, m, args, below, meth, c, D, cs, A, K) Y → k ≤ Rm.cells ∧ n ≤ Rm.slots ∧ zSA K ad → ∀ (H : Heap) (locs : List Loc) (la : Array Slot), va_P D zClasses (zworld cs ad T R M) H → va_D A (zworld cs ad T R M) → va_S A s.heap H locs → lv_has la (znL Y) (zlm ad ls) → W p l e Rm s m args below meth c H locs k n (Q r M') (F0 m pc la (st.map (zcv ad)))
/-- decode rows of a method, as one list -/
def zdecs (cc : ByteArray) (l : List (Nat × Instr × Nat)) : Prop := ∀ q ∈ l, decode cc q.1 = .ok (q.2.1, q.2.2)
theorem zd {cc : ByteArray} {l : List (Nat × Instr × Nat)} (h : zdecs cc l) (j : Nat) {pc n : Nat} {i : Instr} (hj : l[j]? = some (pc, i, n)) : decode cc pc = .ok (i, n) := h (pc, i, n) (List.mem_of_getElem? hj)
theorem zcv_cat (ad : Nat → Nat) (v : Value) : (zcv ad v).category = v.category := by cases v <;> rfl
theorem zcats (ad : Nat → Nat) (st : List Value) : ((st.map (zcv ad)).map fun v => v.category).sum = (st.map fun v => v.category).sum := by
  rw [List.map_map]
  congr 1
  apply List.map_congr_left
  intro v _
  exact zcv_cat ad v
theorem zlm_at {ad : Nat → Nat} {la : Array Slot} {nL : Nat} {ls : List (Nat × Value)} (h : lv_has la nL (zlm ad ls)) (j : Nat) {i : Nat} {v : Value} (hk : ls[j]? = some (i, v)) : la[i]? = some (.val (zcv ad v)) := by
  refine lv_at h j ?_
  unfold zlm
  rw [List.getElem?_map, hk]
  rfl
theorem zlm_get {ad : Nat → Nat} {ls : List (Nat × Value)} {j i : Nat} {v : Value} (hk : ls[j]? = some (i, v)) : (zlm ad ls)[j]? = some (i, zcv ad v) := by
  unfold zlm
  rw [List.getElem?_map, hk]
  rfl
def zput1 (i : Nat) (v : Value) (ls : List (Nat × Value)) : List (Nat × Value) := (i, v) :: ls.filter (fun q => !(q.1 == i) && !(q.1 + 1 == i && q.2.category == 2))
def zput2 (i : Nat) (v : Value) (ls : List (Nat × Value)) : List (Nat × Value) := (i, v) :: ls.filter (fun q => !(q.1 == i) && (!(q.1 == i + 1) && !(q.1 + 1 == i && q.2.category == 2)))
theorem zlm_put1 {ad : Nat → Nat} {i : Nat} {v : Value} {ls ls' : List (Nat × Value)} (h : zput1 i v ls = ls') : (i, zcv ad v) :: (zlm ad ls).filter (fun q => !(q.1 == i) && !(q.1 + 1 == i && q.2.category == 2)) = zlm ad ls' := by
  subst h
  unfold zput1 zlm
  rw [List.map_cons, List.filter_map]
  congr 2
  apply List.filter_congr
  intro q _
  simp only [Function.comp, zcv_cat]
theorem zlm_put2 {ad : Nat → Nat} {i : Nat} {v : Value} {ls ls' : List (Nat × Value)} (h : zput2 i v ls = ls') : (i, zcv ad v) :: (zlm ad ls).filter (fun q => !(q.1 == i) && (!(q.1 == i + 1) && !(q.1 + 1 == i && q.2.category == 2))) = zlm ad ls' := by
  subst h
  unfold zput2 zlm
  rw [List.map_cons, List.filter_map]
  congr 2
  apply List.filter_congr
  intro q _
  simp only [Function.comp, zcv_cat]
section ZX
variable {ρ : Type} {C : zCx} {Y : zMI} {Q : ρ → zMem → State → Prop} {k n : Nat} {f f1 f2 : Option (ρ × zMem)} {pc : Nat} {ls ls' : List (Nat × Value)} {st : List Value} {ad : Nat → Nat} {T : zTT} {R : zRR} {M : zMem}
theorem zx_eq (h : f1 = f2) (kk : zX C Y Q k n f2 pc ls st ad T R M) : zX C Y Q k n f1 pc ls st ad T R M := h ▸ kk
theorem zx_none : zX C Y Q k n (none : Option (ρ × zMem)) pc ls st ad T R M := by
  obtain ⟨p, l, e, Rm, s, m, args, below, meth, c, D, cs, A, K⟩ := C
  intro r M' hf
  cases hf
theorem zx_iconst {j : Int} {v : Int32} (d : decode (zcc Y) pc = .ok (.iconst j, 1)) (hv : Int32.ofInt j = v) (kk : zX C Y Q k n f (pc + 1) ls (.int v :: st) ad T R M) : zX C Y Q k n f pc ls st ad T R M := by
  obtain ⟨p, l, e, Rm, s, m, args, below, meth, c, D, cs, A, K⟩ := C
  intro r M' hf hO hkn H locs la hP hD hS hl
  have hO' := hO
  obtain ⟨hx, hb, hml, hr, hown, hts, hK, hA, hlk, hB, hST, hR1, hR2, hR3, hR4⟩ := hO
  exact lv_iconst hx hb d hv (kk r M' hf hO' hkn H locs la hP hD hS hl)

theorem zx_bipush {j : Int} {v : Int32} (d : decode (zcc Y) pc = .ok (.bipush j, 2)) (hv : (Int8.ofInt j).toInt32 = v) (kk : zX C Y Q k n f (pc + 2) ls (.int v :: st) ad T R M) : zX C Y Q k n f pc ls st ad T R M := by
  obtain ⟨p, l, e, Rm, s, m, args, below, meth, c, D, cs, A, K⟩ := C
  intro r M' hf hO hkn H locs la hP hD hS hl
  have hO' := hO
  obtain ⟨hx, hb, hml, hr, hown, hts, hK, hA, hlk, hB, hST, hR1, hR2, hR3, hR4⟩ := hO
  exact lv_bipush hx hb d hv (kk r M' hf hO' hkn H locs la hP hD hS hl)

theorem zx_sipush {j : Int} {v : Int32} (d : decode (zcc Y) pc = .ok (.sipush j, 3)) (hv : (Int16.ofInt j).toInt32 = v) (kk : zX C Y Q k n f (pc + 3) ls (.int v :: st) ad T R M) : zX C Y Q k n f pc ls st ad T R M := by
  obtain ⟨p, l, e, Rm, s, m, args, below, meth, c, D, cs, A, K⟩ := C
  intro r M' hf hO hkn H locs la hP hD hS hl
  have hO' := hO
  obtain ⟨hx, hb, hml, hr, hown, hts, hK, hA, hlk, hB, hST, hR1, hR2, hR3, hR4⟩ := hO
  exact lv_sipush hx hb d hv (kk r M' hf hO' hkn H locs la hP hD hS hl)

theorem zx_lconst {j : Fin 2} {v : Int64} (d : decode (zcc Y) pc = .ok (.lconst j, 1)) (hv : Int64.ofNat (j : Nat) = v) (kk : zX C Y Q k n f (pc + 1) ls (.long v :: st) ad T R M) : zX C Y Q k n f pc ls st ad T R M := by
  obtain ⟨p, l, e, Rm, s, m, args, below, meth, c, D, cs, A, K⟩ := C
  intro r M' hf hO hkn H locs la hP hD hS hl
  have hO' := hO
  obtain ⟨hx, hb, hml, hr, hown, hts, hK, hA, hlk, hB, hST, hR1, hR2, hR3, hR4⟩ := hO
  exact lv_lconst hx hb d hv (kk r M' hf hO' hkn H locs la hP hD hS hl)

theorem zx_iload_n {h : Fin 4} {i : Nat} {x : Int32} (d : decode (zcc Y) pc = .ok (.iload_n h, 1)) (hi : (h : Nat) = i) (j : Nat) (hj : ls[j]? = some (i, .int x)) (kk : zX C Y Q k n f (pc + 1) ls (.int x :: st) ad T R M) : zX C Y Q k n f pc ls st ad T R M := by
  obtain ⟨p, l, e, Rm, s, m, args, below, meth, c, D, cs, A, K⟩ := C
  intro r M' hf hO hkn H locs la hP hD hS hl
  have hO' := hO
  obtain ⟨hx, hb, hml, hr, hown, hts, hK, hA, hlk, hB, hST, hR1, hR2, hR3, hR4⟩ := hO
  exact lv_iload_n hx hb d hi (zlm_at hl j hj) (kk r M' hf hO' hkn H locs la hP hD hS hl)

theorem zx_iload {i : Nat} {x : Int32} (d : decode (zcc Y) pc = .ok (.iload i, 2)) (j : Nat) (hj : ls[j]? = some (i, .int x)) (kk : zX C Y Q k n f (pc + 2) ls (.int x :: st) ad T R M) : zX C Y Q k n f pc ls st ad T R M := by
  obtain ⟨p, l, e, Rm, s, m, args, below, meth, c, D, cs, A, K⟩ := C
  intro r M' hf hO hkn H locs la hP hD hS hl
  have hO' := hO
  obtain ⟨hx, hb, hml, hr, hown, hts, hK, hA, hlk, hB, hST, hR1, hR2, hR3, hR4⟩ := hO
  exact lv_iload hx hb d (zlm_at hl j hj) (kk r M' hf hO' hkn H locs la hP hD hS hl)

theorem zx_lload_n {h : Fin 4} {i : Nat} {x : Int64} (d : decode (zcc Y) pc = .ok (.lload_n h, 1)) (hi : (h : Nat) = i) (j : Nat) (hj : ls[j]? = some (i, .long x)) (kk : zX C Y Q k n f (pc + 1) ls (.long x :: st) ad T R M) : zX C Y Q k n f pc ls st ad T R M := by
  obtain ⟨p, l, e, Rm, s, m, args, below, meth, c, D, cs, A, K⟩ := C
  intro r M' hf hO hkn H locs la hP hD hS hl
  have hO' := hO
  obtain ⟨hx, hb, hml, hr, hown, hts, hK, hA, hlk, hB, hST, hR1, hR2, hR3, hR4⟩ := hO
  exact lv_lload_n hx hb d hi (zlm_at hl j hj) (kk r M' hf hO' hkn H locs la hP hD hS hl)

theorem zx_lload {i : Nat} {x : Int64} (d : decode (zcc Y) pc = .ok (.lload i, 2)) (j : Nat) (hj : ls[j]? = some (i, .long x)) (kk : zX C Y Q k n f (pc + 2) ls (.long x :: st) ad T R M) : zX C Y Q k n f pc ls st ad T R M := by
  obtain ⟨p, l, e, Rm, s, m, args, below, meth, c, D, cs, A, K⟩ := C
  intro r M' hf hO hkn H locs la hP hD hS hl
  have hO' := hO
  obtain ⟨hx, hb, hml, hr, hown, hts, hK, hA, hlk, hB, hST, hR1, hR2, hR3, hR4⟩ := hO
  exact lv_lload hx hb d (zlm_at hl j hj) (kk r M' hf hO' hkn H locs la hP hD hS hl)

theorem zx_aload_n {h : Fin 4} {i x : Nat} (d : decode (zcc Y) pc = .ok (.aload_n h, 1)) (hi : (h : Nat) = i) (j : Nat) (hj : ls[j]? = some (i, .ref x)) (kk : zX C Y Q k n f (pc + 1) ls (.ref x :: st) ad T R M) : zX C Y Q k n f pc ls st ad T R M := by
  obtain ⟨p, l, e, Rm, s, m, args, below, meth, c, D, cs, A, K⟩ := C
  intro r M' hf hO hkn H locs la hP hD hS hl
  have hO' := hO
  obtain ⟨hx, hb, hml, hr, hown, hts, hK, hA, hlk, hB, hST, hR1, hR2, hR3, hR4⟩ := hO
  exact lv_aload_n hx hb d hi (zlm_at hl j hj) (kk r M' hf hO' hkn H locs la hP hD hS hl)

theorem zx_aload {i x : Nat} (d : decode (zcc Y) pc = .ok (.aload i, 2)) (j : Nat) (hj : ls[j]? = some (i, .ref x)) (kk : zX C Y Q k n f (pc + 2) ls (.ref x :: st) ad T R M) : zX C Y Q k n f pc ls st ad T R M := by
  obtain ⟨p, l, e, Rm, s, m, args, below, meth, c, D, cs, A, K⟩ := C
  intro r M' hf hO hkn H locs la hP hD hS hl
  have hO' := hO
  obtain ⟨hx, hb, hml, hr, hown, hts, hK, hA, hlk, hB, hST, hR1, hR2, hR3, hR4⟩ := hO
  exact lv_aload hx hb d (zlm_at hl j hj) (kk r M' hf hO' hkn H locs la hP hD hS hl)

theorem zx_istore_n {h : Fin 4} {i : Nat} {x : Int32} (d : decode (zcc Y) pc = .ok (.istore_n h, 1)) (hi : (h : Nat) = i) (hn : i < znL Y) (hp : zput1 i (.int x) ls = ls') (kk : zX C Y Q k n f (pc + 1) ls' st ad T R M) : zX C Y Q k n f pc ls (.int x :: st) ad T R M := by
  obtain ⟨p, l, e, Rm, s, m, args, below, meth, c, D, cs, A, K⟩ := C
  intro r M' hf hO hkn H locs la hP hD hS hl
  have hO' := hO
  obtain ⟨hx, hb, hml, hr, hown, hts, hK, hA, hlk, hB, hST, hR1, hR2, hR3, hR4⟩ := hO
  exact lv_istore_n hx hb d hi hl hn (zlm_put1 hp) (fun la' hl' => kk r M' hf hO' hkn H locs la' hP hD hS hl')

theorem zx_istore {i : Nat} {x : Int32} (d : decode (zcc Y) pc = .ok (.istore i, 2)) (hn : i < znL Y) (hp : zput1 i (.int x) ls = ls') (kk : zX C Y Q k n f (pc + 2) ls' st ad T R M) : zX C Y Q k n f pc ls (.int x :: st) ad T R M := by
  obtain ⟨p, l, e, Rm, s, m, args, below, meth, c, D, cs, A, K⟩ := C
  intro r M' hf hO hkn H locs la hP hD hS hl
  have hO' := hO
  obtain ⟨hx, hb, hml, hr, hown, hts, hK, hA, hlk, hB, hST, hR1, hR2, hR3, hR4⟩ := hO
  exact lv_istore hx hb d hl hn (zlm_put1 hp) (fun la' hl' => kk r M' hf hO' hkn H locs la' hP hD hS hl')

theorem zx_lstore_n {h : Fin 4} {i : Nat} {x : Int64} (d : decode (zcc Y) pc = .ok (.lstore_n h, 1)) (hi : (h : Nat) = i) (hn : i + 1 < znL Y) (hp : zput2 i (.long x) ls = ls') (kk : zX C Y Q k n f (pc + 1) ls' st ad T R M) : zX C Y Q k n f pc ls (.long x :: st) ad T R M := by
  obtain ⟨p, l, e, Rm, s, m, args, below, meth, c, D, cs, A, K⟩ := C
  intro r M' hf hO hkn H locs la hP hD hS hl
  have hO' := hO
  obtain ⟨hx, hb, hml, hr, hown, hts, hK, hA, hlk, hB, hST, hR1, hR2, hR3, hR4⟩ := hO
  exact lv_lstore_n hx hb d hi hl hn (zlm_put2 hp) (fun la' hl' => kk r M' hf hO' hkn H locs la' hP hD hS hl')

theorem zx_lstore {i : Nat} {x : Int64} (d : decode (zcc Y) pc = .ok (.lstore i, 2)) (hn : i + 1 < znL Y) (hp : zput2 i (.long x) ls = ls') (kk : zX C Y Q k n f (pc + 2) ls' st ad T R M) : zX C Y Q k n f pc ls (.long x :: st) ad T R M := by
  obtain ⟨p, l, e, Rm, s, m, args, below, meth, c, D, cs, A, K⟩ := C
  intro r M' hf hO hkn H locs la hP hD hS hl
  have hO' := hO
  obtain ⟨hx, hb, hml, hr, hown, hts, hK, hA, hlk, hB, hST, hR1, hR2, hR3, hR4⟩ := hO
  exact lv_lstore hx hb d hl hn (zlm_put2 hp) (fun la' hl' => kk r M' hf hO' hkn H locs la' hP hD hS hl')

theorem zx_astore_n {h : Fin 4} {i : Nat} {x : Nat} (d : decode (zcc Y) pc = .ok (.astore_n h, 1)) (hi : (h : Nat) = i) (hn : i < znL Y) (hp : zput1 i (.ref x) ls = ls') (kk : zX C Y Q k n f (pc + 1) ls' st ad T R M) : zX C Y Q k n f pc ls (.ref x :: st) ad T R M := by
  obtain ⟨p, l, e, Rm, s, m, args, below, meth, c, D, cs, A, K⟩ := C
  intro r M' hf hO hkn H locs la hP hD hS hl
  have hO' := hO
  obtain ⟨hx, hb, hml, hr, hown, hts, hK, hA, hlk, hB, hST, hR1, hR2, hR3, hR4⟩ := hO
  exact lv_astore_n hx hb d hi hl hn (zlm_put1 hp) (fun la' hl' => kk r M' hf hO' hkn H locs la' hP hD hS hl')

theorem zx_astore {i : Nat} {x : Nat} (d : decode (zcc Y) pc = .ok (.astore i, 2)) (hn : i < znL Y) (hp : zput1 i (.ref x) ls = ls') (kk : zX C Y Q k n f (pc + 2) ls' st ad T R M) : zX C Y Q k n f pc ls (.ref x :: st) ad T R M := by
  obtain ⟨p, l, e, Rm, s, m, args, below, meth, c, D, cs, A, K⟩ := C
  intro r M' hf hO hkn H locs la hP hD hS hl
  have hO' := hO
  obtain ⟨hx, hb, hml, hr, hown, hts, hK, hA, hlk, hB, hST, hR1, hR2, hR3, hR4⟩ := hO
  exact lv_astore hx hb d hl hn (zlm_put1 hp) (fun la' hl' => kk r M' hf hO' hkn H locs la' hP hD hS hl')

theorem zx_iinc {i : Nat} {a : Int} {x v : Int32} (d : decode (zcc Y) pc = .ok (.iinc i a, 3)) (hn : i < znL Y) (j : Nat) (hj : ls[j]? = some (i, .int x)) (hv : Int32.ofInt a = v) (hp : zput1 i (.int (x + v)) ls = ls') (kk : zX C Y Q k n f (pc + 3) ls' st ad T R M) : zX C Y Q k n f pc ls st ad T R M := by
  obtain ⟨p, l, e, Rm, s, m, args, below, meth, c, D, cs, A, K⟩ := C
  intro r M' hf hO hkn H locs la hP hD hS hl
  have hO' := hO
  obtain ⟨hx, hb, hml, hr, hown, hts, hK, hA, hlk, hB, hST, hR1, hR2, hR3, hR4⟩ := hO
  exact lv_iinc (v := x + v) hx hb d hl (zlm_get hj) (by rw [hv]) hn (zlm_put1 hp) (fun la' hl' => kk r M' hf hO' hkn H locs la' hP hD hS hl')

theorem zx_iadd {x y : Int32} (d : decode (zcc Y) pc = .ok (.iadd, 1)) (kk : zX C Y Q k n f (pc + 1) ls (.int (x + y) :: st) ad T R M) : zX C Y Q k n f pc ls (.int y :: .int x :: st) ad T R M := by
  obtain ⟨p, l, e, Rm, s, m, args, below, meth, c, D, cs, A, K⟩ := C
  intro r M' hf hO hkn H locs la hP hD hS hl
  have hO' := hO
  obtain ⟨hx, hb, hml, hr, hown, hts, hK, hA, hlk, hB, hST, hR1, hR2, hR3, hR4⟩ := hO
  exact lv_iadd hx hb d (kk r M' hf hO' hkn H locs la hP hD hS hl)

theorem zx_isub {x y : Int32} (d : decode (zcc Y) pc = .ok (.isub, 1)) (kk : zX C Y Q k n f (pc + 1) ls (.int (x - y) :: st) ad T R M) : zX C Y Q k n f pc ls (.int y :: .int x :: st) ad T R M := by
  obtain ⟨p, l, e, Rm, s, m, args, below, meth, c, D, cs, A, K⟩ := C
  intro r M' hf hO hkn H locs la hP hD hS hl
  have hO' := hO
  obtain ⟨hx, hb, hml, hr, hown, hts, hK, hA, hlk, hB, hST, hR1, hR2, hR3, hR4⟩ := hO
  exact lv_isub hx hb d (kk r M' hf hO' hkn H locs la hP hD hS hl)

theorem zx_imul {x y : Int32} (d : decode (zcc Y) pc = .ok (.imul, 1)) (kk : zX C Y Q k n f (pc + 1) ls (.int (x * y) :: st) ad T R M) : zX C Y Q k n f pc ls (.int y :: .int x :: st) ad T R M := by
  obtain ⟨p, l, e, Rm, s, m, args, below, meth, c, D, cs, A, K⟩ := C
  intro r M' hf hO hkn H locs la hP hD hS hl
  have hO' := hO
  obtain ⟨hx, hb, hml, hr, hown, hts, hK, hA, hlk, hB, hST, hR1, hR2, hR3, hR4⟩ := hO
  exact lv_imul hx hb d (kk r M' hf hO' hkn H locs la hP hD hS hl)

theorem zx_iand {x y : Int32} (d : decode (zcc Y) pc = .ok (.iand, 1)) (kk : zX C Y Q k n f (pc + 1) ls (.int (x &&& y) :: st) ad T R M) : zX C Y Q k n f pc ls (.int y :: .int x :: st) ad T R M := by
  obtain ⟨p, l, e, Rm, s, m, args, below, meth, c, D, cs, A, K⟩ := C
  intro r M' hf hO hkn H locs la hP hD hS hl
  have hO' := hO
  obtain ⟨hx, hb, hml, hr, hown, hts, hK, hA, hlk, hB, hST, hR1, hR2, hR3, hR4⟩ := hO
  exact lv_iand hx hb d (kk r M' hf hO' hkn H locs la hP hD hS hl)

theorem zx_ior {x y : Int32} (d : decode (zcc Y) pc = .ok (.ior, 1)) (kk : zX C Y Q k n f (pc + 1) ls (.int (x ||| y) :: st) ad T R M) : zX C Y Q k n f pc ls (.int y :: .int x :: st) ad T R M := by
  obtain ⟨p, l, e, Rm, s, m, args, below, meth, c, D, cs, A, K⟩ := C
  intro r M' hf hO hkn H locs la hP hD hS hl
  have hO' := hO
  obtain ⟨hx, hb, hml, hr, hown, hts, hK, hA, hlk, hB, hST, hR1, hR2, hR3, hR4⟩ := hO
  exact lv_ior hx hb d (kk r M' hf hO' hkn H locs la hP hD hS hl)

theorem zx_ixor {x y : Int32} (d : decode (zcc Y) pc = .ok (.ixor, 1)) (kk : zX C Y Q k n f (pc + 1) ls (.int (x ^^^ y) :: st) ad T R M) : zX C Y Q k n f pc ls (.int y :: .int x :: st) ad T R M := by
  obtain ⟨p, l, e, Rm, s, m, args, below, meth, c, D, cs, A, K⟩ := C
  intro r M' hf hO hkn H locs la hP hD hS hl
  have hO' := hO
  obtain ⟨hx, hb, hml, hr, hown, hts, hK, hA, hlk, hB, hST, hR1, hR2, hR3, hR4⟩ := hO
  exact lv_ixor hx hb d (kk r M' hf hO' hkn H locs la hP hD hS hl)

theorem zx_ishl {x y : Int32} (d : decode (zcc Y) pc = .ok (.ishl, 1)) (kk : zX C Y Q k n f (pc + 1) ls (.int (x <<< (y &&& 31)) :: st) ad T R M) : zX C Y Q k n f pc ls (.int y :: .int x :: st) ad T R M := by
  obtain ⟨p, l, e, Rm, s, m, args, below, meth, c, D, cs, A, K⟩ := C
  intro r M' hf hO hkn H locs la hP hD hS hl
  have hO' := hO
  obtain ⟨hx, hb, hml, hr, hown, hts, hK, hA, hlk, hB, hST, hR1, hR2, hR3, hR4⟩ := hO
  exact lv_ishl hx hb d (kk r M' hf hO' hkn H locs la hP hD hS hl)

theorem zx_ishr {x y : Int32} (d : decode (zcc Y) pc = .ok (.ishr, 1)) (kk : zX C Y Q k n f (pc + 1) ls (.int (x >>> (y &&& 31)) :: st) ad T R M) : zX C Y Q k n f pc ls (.int y :: .int x :: st) ad T R M := by
  obtain ⟨p, l, e, Rm, s, m, args, below, meth, c, D, cs, A, K⟩ := C
  intro r M' hf hO hkn H locs la hP hD hS hl
  have hO' := hO
  obtain ⟨hx, hb, hml, hr, hown, hts, hK, hA, hlk, hB, hST, hR1, hR2, hR3, hR4⟩ := hO
  exact lv_ishr hx hb d (kk r M' hf hO' hkn H locs la hP hD hS hl)

theorem zx_iushr {x y : Int32} (d : decode (zcc Y) pc = .ok (.iushr, 1)) (kk : zX C Y Q k n f (pc + 1) ls (.int (x.toUInt32 >>> (y.toUInt32 &&& Int32.toUInt32 31)).toInt32 :: st) ad T R M) : zX C Y Q k n f pc ls (.int y :: .int x :: st) ad T R M := by
  obtain ⟨p, l, e, Rm, s, m, args, below, meth, c, D, cs, A, K⟩ := C
  intro r M' hf hO hkn H locs la hP hD hS hl
  have hO' := hO
  obtain ⟨hx, hb, hml, hr, hown, hts, hK, hA, hlk, hB, hST, hR1, hR2, hR3, hR4⟩ := hO
  exact lv_iushr hx hb d rfl (kk r M' hf hO' hkn H locs la hP hD hS hl)

theorem zx_ineg {x : Int32} (d : decode (zcc Y) pc = .ok (.ineg, 1)) (kk : zX C Y Q k n f (pc + 1) ls (.int (-x) :: st) ad T R M) : zX C Y Q k n f pc ls (.int x :: st) ad T R M := by
  obtain ⟨p, l, e, Rm, s, m, args, below, meth, c, D, cs, A, K⟩ := C
  intro r M' hf hO hkn H locs la hP hD hS hl
  have hO' := hO
  obtain ⟨hx, hb, hml, hr, hown, hts, hK, hA, hlk, hB, hST, hR1, hR2, hR3, hR4⟩ := hO
  exact lv_ineg hx hb d (kk r M' hf hO' hkn H locs la hP hD hS hl)

theorem zx_ladd {x y : Int64} (d : decode (zcc Y) pc = .ok (.ladd, 1)) (kk : zX C Y Q k n f (pc + 1) ls (.long (x + y) :: st) ad T R M) : zX C Y Q k n f pc ls (.long y :: .long x :: st) ad T R M := by
  obtain ⟨p, l, e, Rm, s, m, args, below, meth, c, D, cs, A, K⟩ := C
  intro r M' hf hO hkn H locs la hP hD hS hl
  have hO' := hO
  obtain ⟨hx, hb, hml, hr, hown, hts, hK, hA, hlk, hB, hST, hR1, hR2, hR3, hR4⟩ := hO
  exact lv_ladd hx hb d (kk r M' hf hO' hkn H locs la hP hD hS hl)

theorem zx_lsub {x y : Int64} (d : decode (zcc Y) pc = .ok (.lsub, 1)) (kk : zX C Y Q k n f (pc + 1) ls (.long (x - y) :: st) ad T R M) : zX C Y Q k n f pc ls (.long y :: .long x :: st) ad T R M := by
  obtain ⟨p, l, e, Rm, s, m, args, below, meth, c, D, cs, A, K⟩ := C
  intro r M' hf hO hkn H locs la hP hD hS hl
  have hO' := hO
  obtain ⟨hx, hb, hml, hr, hown, hts, hK, hA, hlk, hB, hST, hR1, hR2, hR3, hR4⟩ := hO
  exact lv_lsub hx hb d (kk r M' hf hO' hkn H locs la hP hD hS hl)

theorem zx_lmul {x y : Int64} (d : decode (zcc Y) pc = .ok (.lmul, 1)) (kk : zX C Y Q k n f (pc + 1) ls (.long (x * y) :: st) ad T R M) : zX C Y Q k n f pc ls (.long y :: .long x :: st) ad T R M := by
  obtain ⟨p, l, e, Rm, s, m, args, below, meth, c, D, cs, A, K⟩ := C
  intro r M' hf hO hkn H locs la hP hD hS hl
  have hO' := hO
  obtain ⟨hx, hb, hml, hr, hown, hts, hK, hA, hlk, hB, hST, hR1, hR2, hR3, hR4⟩ := hO
  exact lv_lmul hx hb d (kk r M' hf hO' hkn H locs la hP hD hS hl)

theorem zx_land {x y : Int64} (d : decode (zcc Y) pc = .ok (.land, 1)) (kk : zX C Y Q k n f (pc + 1) ls (.long (x &&& y) :: st) ad T R M) : zX C Y Q k n f pc ls (.long y :: .long x :: st) ad T R M := by
  obtain ⟨p, l, e, Rm, s, m, args, below, meth, c, D, cs, A, K⟩ := C
  intro r M' hf hO hkn H locs la hP hD hS hl
  have hO' := hO
  obtain ⟨hx, hb, hml, hr, hown, hts, hK, hA, hlk, hB, hST, hR1, hR2, hR3, hR4⟩ := hO
  exact lv_land hx hb d (kk r M' hf hO' hkn H locs la hP hD hS hl)

theorem zx_lshl {x : Int64} {y : Int32} (d : decode (zcc Y) pc = .ok (.lshl, 1)) (kk : zX C Y Q k n f (pc + 1) ls (.long (x <<< (y.toInt64 &&& 63)) :: st) ad T R M) : zX C Y Q k n f pc ls (.int y :: .long x :: st) ad T R M := by
  obtain ⟨p, l, e, Rm, s, m, args, below, meth, c, D, cs, A, K⟩ := C
  intro r M' hf hO hkn H locs la hP hD hS hl
  have hO' := hO
  obtain ⟨hx, hb, hml, hr, hown, hts, hK, hA, hlk, hB, hST, hR1, hR2, hR3, hR4⟩ := hO
  exact lv_lshl hx hb d rfl (kk r M' hf hO' hkn H locs la hP hD hS hl)

theorem zx_lshr {x : Int64} {y : Int32} (d : decode (zcc Y) pc = .ok (.lshr, 1)) (kk : zX C Y Q k n f (pc + 1) ls (.long (x >>> (y.toInt64 &&& 63)) :: st) ad T R M) : zX C Y Q k n f pc ls (.int y :: .long x :: st) ad T R M := by
  obtain ⟨p, l, e, Rm, s, m, args, below, meth, c, D, cs, A, K⟩ := C
  intro r M' hf hO hkn H locs la hP hD hS hl
  have hO' := hO
  obtain ⟨hx, hb, hml, hr, hown, hts, hK, hA, hlk, hB, hST, hR1, hR2, hR3, hR4⟩ := hO
  exact lv_lshr hx hb d rfl (kk r M' hf hO' hkn H locs la hP hD hS hl)

theorem zx_i2l {x : Int32} (d : decode (zcc Y) pc = .ok (.i2l, 1)) (kk : zX C Y Q k n f (pc + 1) ls (.long x.toInt64 :: st) ad T R M) : zX C Y Q k n f pc ls (.int x :: st) ad T R M := by
  obtain ⟨p, l, e, Rm, s, m, args, below, meth, c, D, cs, A, K⟩ := C
  intro r M' hf hO hkn H locs la hP hD hS hl
  have hO' := hO
  obtain ⟨hx, hb, hml, hr, hown, hts, hK, hA, hlk, hB, hST, hR1, hR2, hR3, hR4⟩ := hO
  exact lv_i2l hx hb d rfl (kk r M' hf hO' hkn H locs la hP hD hS hl)

theorem zx_l2i {x : Int64} (d : decode (zcc Y) pc = .ok (.l2i, 1)) (kk : zX C Y Q k n f (pc + 1) ls (.int x.toInt32 :: st) ad T R M) : zX C Y Q k n f pc ls (.long x :: st) ad T R M := by
  obtain ⟨p, l, e, Rm, s, m, args, below, meth, c, D, cs, A, K⟩ := C
  intro r M' hf hO hkn H locs la hP hD hS hl
  have hO' := hO
  obtain ⟨hx, hb, hml, hr, hown, hts, hK, hA, hlk, hB, hST, hR1, hR2, hR3, hR4⟩ := hO
  exact lv_l2i hx hb d rfl (kk r M' hf hO' hkn H locs la hP hD hS hl)

theorem zx_i2c {x : Int32} (d : decode (zcc Y) pc = .ok (.i2c, 1)) (kk : zX C Y Q k n f (pc + 1) ls (.int (x.toUInt32 % 65536).toInt32 :: st) ad T R M) : zX C Y Q k n f pc ls (.int x :: st) ad T R M := by
  obtain ⟨p, l, e, Rm, s, m, args, below, meth, c, D, cs, A, K⟩ := C
  intro r M' hf hO hkn H locs la hP hD hS hl
  have hO' := hO
  obtain ⟨hx, hb, hml, hr, hown, hts, hK, hA, hlk, hB, hST, hR1, hR2, hR3, hR4⟩ := hO
  exact lv_i2c hx hb d rfl (kk r M' hf hO' hkn H locs la hP hD hS hl)

theorem zx_lcmp {x y : Int64} (d : decode (zcc Y) pc = .ok (.lcmp, 1)) (kk : zX C Y Q k n f (pc + 1) ls (.int (lg_cmp x y) :: st) ad T R M) : zX C Y Q k n f pc ls (.long y :: .long x :: st) ad T R M := by
  obtain ⟨p, l, e, Rm, s, m, args, below, meth, c, D, cs, A, K⟩ := C
  intro r M' hf hO hkn H locs la hP hD hS hl
  have hO' := hO
  obtain ⟨hx, hb, hml, hr, hown, hts, hK, hA, hlk, hB, hST, hR1, hR2, hR3, hR4⟩ := hO
  exact W.lcmp hx hb d (kk r M' hf hO' hkn H locs la hP hD hS hl)

def zchk {α : Type} (c : Prop) [Decidable c] (K : Option α) : Option α := if c then K else none
theorem zchk_some {α : Type} {c : Prop} [Decidable c] {K : Option α} {x : α} (h : zchk c K = some x) : c ∧ K = some x := by
  unfold zchk at h
  by_cases hc : c
  · rw [if_pos hc] at h
    exact ⟨hc, h⟩
  · rw [if_neg hc] at h
    cases h
theorem zx_idiv {x y : Int32} (d : decode (zcc Y) pc = .ok (.idiv, 1)) (kk : zX C Y Q k n f (pc + 1) ls (.int (x / y) :: st) ad T R M) : zX C Y Q k n (zchk (¬ y = 0) f) pc ls (.int y :: .int x :: st) ad T R M := by
  obtain ⟨p, l, e, Rm, s, m, args, below, meth, c, D, cs, A, K⟩ := C
  intro r M' hf hO hkn H locs la hP hD hS hl
  have hO' := hO
  obtain ⟨hx, hb, hml, hr, hown, hts, hK, hA, hlk, hB, hST, hR1, hR2, hR3, hR4⟩ := hO
  obtain ⟨hc, hf⟩ := zchk_some hf
  exact lv_idiv hx hb d hc (kk r M' hf hO' hkn H locs la hP hD hS hl)

theorem zx_idivN {x y : Int32} (d : decode (zcc Y) pc = .ok (.idiv, 1)) (hc : ¬ y = 0) (kk : zX C Y Q k n f (pc + 1) ls (.int (x / y) :: st) ad T R M) : zX C Y Q k n f pc ls (.int y :: .int x :: st) ad T R M := by
  obtain ⟨p, l, e, Rm, s, m, args, below, meth, c, D, cs, A, K⟩ := C
  intro r M' hf hO hkn H locs la hP hD hS hl
  have hO' := hO
  obtain ⟨hx, hb, hml, hr, hown, hts, hK, hA, hlk, hB, hST, hR1, hR2, hR3, hR4⟩ := hO
  exact lv_idiv hx hb d hc (kk r M' hf hO' hkn H locs la hP hD hS hl)

theorem zx_irem {x y : Int32} (d : decode (zcc Y) pc = .ok (.irem, 1)) (kk : zX C Y Q k n f (pc + 1) ls (.int (x - x / y * y) :: st) ad T R M) : zX C Y Q k n (zchk (¬ y = 0) f) pc ls (.int y :: .int x :: st) ad T R M := by
  obtain ⟨p, l, e, Rm, s, m, args, below, meth, c, D, cs, A, K⟩ := C
  intro r M' hf hO hkn H locs la hP hD hS hl
  have hO' := hO
  obtain ⟨hx, hb, hml, hr, hown, hts, hK, hA, hlk, hB, hST, hR1, hR2, hR3, hR4⟩ := hO
  obtain ⟨hc, hf⟩ := zchk_some hf
  exact lv_irem hx hb d hc (kk r M' hf hO' hkn H locs la hP hD hS hl)

theorem zx_iremN {x y : Int32} (d : decode (zcc Y) pc = .ok (.irem, 1)) (hc : ¬ y = 0) (kk : zX C Y Q k n f (pc + 1) ls (.int (x - x / y * y) :: st) ad T R M) : zX C Y Q k n f pc ls (.int y :: .int x :: st) ad T R M := by
  obtain ⟨p, l, e, Rm, s, m, args, below, meth, c, D, cs, A, K⟩ := C
  intro r M' hf hO hkn H locs la hP hD hS hl
  have hO' := hO
  obtain ⟨hx, hb, hml, hr, hown, hts, hK, hA, hlk, hB, hST, hR1, hR2, hR3, hR4⟩ := hO
  exact lv_irem hx hb d hc (kk r M' hf hO' hkn H locs la hP hD hS hl)

theorem zx_ldiv {x y : Int64} (d : decode (zcc Y) pc = .ok (.ldiv, 1)) (kk : zX C Y Q k n f (pc + 1) ls (.long (x / y) :: st) ad T R M) : zX C Y Q k n (zchk (¬ y = 0) f) pc ls (.long y :: .long x :: st) ad T R M := by
  obtain ⟨p, l, e, Rm, s, m, args, below, meth, c, D, cs, A, K⟩ := C
  intro r M' hf hO hkn H locs la hP hD hS hl
  have hO' := hO
  obtain ⟨hx, hb, hml, hr, hown, hts, hK, hA, hlk, hB, hST, hR1, hR2, hR3, hR4⟩ := hO
  obtain ⟨hc, hf⟩ := zchk_some hf
  exact lv_ldiv hx hb d hc (kk r M' hf hO' hkn H locs la hP hD hS hl)

theorem zx_ldivN {x y : Int64} (d : decode (zcc Y) pc = .ok (.ldiv, 1)) (hc : ¬ y = 0) (kk : zX C Y Q k n f (pc + 1) ls (.long (x / y) :: st) ad T R M) : zX C Y Q k n f pc ls (.long y :: .long x :: st) ad T R M := by
  obtain ⟨p, l, e, Rm, s, m, args, below, meth, c, D, cs, A, K⟩ := C
  intro r M' hf hO hkn H locs la hP hD hS hl
  have hO' := hO
  obtain ⟨hx, hb, hml, hr, hown, hts, hK, hA, hlk, hB, hST, hR1, hR2, hR3, hR4⟩ := hO
  exact lv_ldiv hx hb d hc (kk r M' hf hO' hkn H locs la hP hD hS hl)

theorem zx_lrem {x y : Int64} (d : decode (zcc Y) pc = .ok (.lrem, 1)) (kk : zX C Y Q k n f (pc + 1) ls (.long (x - x / y * y) :: st) ad T R M) : zX C Y Q k n (zchk (¬ y = 0) f) pc ls (.long y :: .long x :: st) ad T R M := by
  obtain ⟨p, l, e, Rm, s, m, args, below, meth, c, D, cs, A, K⟩ := C
  intro r M' hf hO hkn H locs la hP hD hS hl
  have hO' := hO
  obtain ⟨hx, hb, hml, hr, hown, hts, hK, hA, hlk, hB, hST, hR1, hR2, hR3, hR4⟩ := hO
  obtain ⟨hc, hf⟩ := zchk_some hf
  exact lv_lrem hx hb d hc (kk r M' hf hO' hkn H locs la hP hD hS hl)

theorem zx_lremN {x y : Int64} (d : decode (zcc Y) pc = .ok (.lrem, 1)) (hc : ¬ y = 0) (kk : zX C Y Q k n f (pc + 1) ls (.long (x - x / y * y) :: st) ad T R M) : zX C Y Q k n f pc ls (.long y :: .long x :: st) ad T R M := by
  obtain ⟨p, l, e, Rm, s, m, args, below, meth, c, D, cs, A, K⟩ := C
  intro r M' hf hO hkn H locs la hP hD hS hl
  have hO' := hO
  obtain ⟨hx, hb, hml, hr, hown, hts, hK, hA, hlk, hB, hST, hR1, hR2, hR3, hR4⟩ := hO
  exact lv_lrem hx hb d hc (kk r M' hf hO' hkn H locs la hP hD hS hl)

theorem zx_dup {v : Value} (d : decode (zcc Y) pc = .ok (.dup, 1)) (hv : v.category = 1) (kk : zX C Y Q k n f (pc + 1) ls (v :: v :: st) ad T R M) : zX C Y Q k n f pc ls (v :: st) ad T R M := by
  obtain ⟨p, l, e, Rm, s, m, args, below, meth, c, D, cs, A, K⟩ := C
  intro r M' hf hO hkn H locs la hP hD hS hl
  have hO' := hO
  obtain ⟨hx, hb, hml, hr, hown, hts, hK, hA, hlk, hB, hST, hR1, hR2, hR3, hR4⟩ := hO
  exact lv_dup hx hb d ((zcv_cat ad v).trans hv) (kk r M' hf hO' hkn H locs la hP hD hS hl)

theorem zx_pop {v : Value} (d : decode (zcc Y) pc = .ok (.pop, 1)) (hv : v.category = 1) (kk : zX C Y Q k n f (pc + 1) ls st ad T R M) : zX C Y Q k n f pc ls (v :: st) ad T R M := by
  obtain ⟨p, l, e, Rm, s, m, args, below, meth, c, D, cs, A, K⟩ := C
  intro r M' hf hO hkn H locs la hP hD hS hl
  have hO' := hO
  obtain ⟨hx, hb, hml, hr, hown, hts, hK, hA, hlk, hB, hST, hR1, hR2, hR3, hR4⟩ := hO
  exact lv_pop hx hb d ((zcv_cat ad v).trans hv) (kk r M' hf hO' hkn H locs la hP hD hS hl)

theorem zx_dup_x1 {v w : Value} (d : decode (zcc Y) pc = .ok (.dup_x1, 1)) (hv : v.category = 1) (hw : w.category = 1) (kk : zX C Y Q k n f (pc + 1) ls (v :: w :: v :: st) ad T R M) : zX C Y Q k n f pc ls (v :: w :: st) ad T R M := by
  obtain ⟨p, l, e, Rm, s, m, args, below, meth, c, D, cs, A, K⟩ := C
  intro r M' hf hO hkn H locs la hP hD hS hl
  have hO' := hO
  obtain ⟨hx, hb, hml, hr, hown, hts, hK, hA, hlk, hB, hST, hR1, hR2, hR3, hR4⟩ := hO
  exact lv_dup_x1 hx hb d ((zcv_cat ad v).trans hv) ((zcv_cat ad w).trans hw) (kk r M' hf hO' hkn H locs la hP hD hS hl)

theorem zx_dup2 {v w : Value} (d : decode (zcc Y) pc = .ok (.dup2, 1)) (hv : v.category = 1) (hw : w.category = 1) (kk : zX C Y Q k n f (pc + 1) ls (v :: w :: v :: w :: st) ad T R M) : zX C Y Q k n f pc ls (v :: w :: st) ad T R M := by
  obtain ⟨p, l, e, Rm, s, m, args, below, meth, c, D, cs, A, K⟩ := C
  intro r M' hf hO hkn H locs la hP hD hS hl
  have hO' := hO
  obtain ⟨hx, hb, hml, hr, hown, hts, hK, hA, hlk, hB, hST, hR1, hR2, hR3, hR4⟩ := hO
  exact lv_dup2_11 hx hb d ((zcv_cat ad v).trans hv) ((zcv_cat ad w).trans hw) (kk r M' hf hO' hkn H locs la hP hD hS hl)

theorem zx_if_eq {x : Int32} {off : Int} {tgt : Nat} (d : decode (zcc Y) pc = .ok (.ifCond .eq off, 3)) (ht : (pc : Int) + off = (tgt : Int)) (kt : x = 0 → zX C Y Q k n f1 tgt ls st ad T R M) (kf : ¬ x = 0 → zX C Y Q k n f2 (pc + 3) ls st ad T R M) : zX C Y Q k n (if x = 0 then f1 else f2) pc ls (.int x :: st) ad T R M := by
  obtain ⟨p, l, e, Rm, s, m, args, below, meth, c, D, cs, A, K⟩ := C
  intro r M' hf hO hkn H locs la hP hD hS hl
  have hO' := hO
  obtain ⟨hx, hb, hml, hr, hown, hts, hK, hA, hlk, hB, hST, hR1, hR2, hR3, hR4⟩ := hO
  exact lv_if_eq hx hb d ht (fun h => kt h r M' (by rw [if_pos h] at hf; exact hf) hO' hkn H locs la hP hD hS hl) (fun h => kf h r M' (by rw [if_neg h] at hf; exact hf) hO' hkn H locs la hP hD hS hl)

theorem zx_icmp_eq {x y : Int32} {off : Int} {tgt : Nat} (d : decode (zcc Y) pc = .ok (.if_icmp .eq off, 3)) (ht : (pc : Int) + off = (tgt : Int)) (kt : x = y → zX C Y Q k n f1 tgt ls st ad T R M) (kf : ¬ x = y → zX C Y Q k n f2 (pc + 3) ls st ad T R M) : zX C Y Q k n (if x = y then f1 else f2) pc ls (.int y :: .int x :: st) ad T R M := by
  obtain ⟨p, l, e, Rm, s, m, args, below, meth, c, D, cs, A, K⟩ := C
  intro r M' hf hO hkn H locs la hP hD hS hl
  have hO' := hO
  obtain ⟨hx, hb, hml, hr, hown, hts, hK, hA, hlk, hB, hST, hR1, hR2, hR3, hR4⟩ := hO
  exact lv_icmp_eq hx hb d ht (fun h => kt h r M' (by rw [if_pos h] at hf; exact hf) hO' hkn H locs la hP hD hS hl) (fun h => kf h r M' (by rw [if_neg h] at hf; exact hf) hO' hkn H locs la hP hD hS hl)

theorem zx_if_ne {x : Int32} {off : Int} {tgt : Nat} (d : decode (zcc Y) pc = .ok (.ifCond .ne off, 3)) (ht : (pc : Int) + off = (tgt : Int)) (kt : ¬ x = 0 → zX C Y Q k n f2 tgt ls st ad T R M) (kf : x = 0 → zX C Y Q k n f1 (pc + 3) ls st ad T R M) : zX C Y Q k n (if x = 0 then f1 else f2) pc ls (.int x :: st) ad T R M := by
  obtain ⟨p, l, e, Rm, s, m, args, below, meth, c, D, cs, A, K⟩ := C
  intro r M' hf hO hkn H locs la hP hD hS hl
  have hO' := hO
  obtain ⟨hx, hb, hml, hr, hown, hts, hK, hA, hlk, hB, hST, hR1, hR2, hR3, hR4⟩ := hO
  exact lv_if_ne hx hb d ht (fun h => kt h r M' (by rw [if_neg h] at hf; exact hf) hO' hkn H locs la hP hD hS hl) (fun h => kf h r M' (by rw [if_pos h] at hf; exact hf) hO' hkn H locs la hP hD hS hl)

theorem zx_icmp_ne {x y : Int32} {off : Int} {tgt : Nat} (d : decode (zcc Y) pc = .ok (.if_icmp .ne off, 3)) (ht : (pc : Int) + off = (tgt : Int)) (kt : ¬ x = y → zX C Y Q k n f2 tgt ls st ad T R M) (kf : x = y → zX C Y Q k n f1 (pc + 3) ls st ad T R M) : zX C Y Q k n (if x = y then f1 else f2) pc ls (.int y :: .int x :: st) ad T R M := by
  obtain ⟨p, l, e, Rm, s, m, args, below, meth, c, D, cs, A, K⟩ := C
  intro r M' hf hO hkn H locs la hP hD hS hl
  have hO' := hO
  obtain ⟨hx, hb, hml, hr, hown, hts, hK, hA, hlk, hB, hST, hR1, hR2, hR3, hR4⟩ := hO
  exact lv_icmp_ne hx hb d ht (fun h => kt h r M' (by rw [if_neg h] at hf; exact hf) hO' hkn H locs la hP hD hS hl) (fun h => kf h r M' (by rw [if_pos h] at hf; exact hf) hO' hkn H locs la hP hD hS hl)

theorem zx_if_lt {x : Int32} {off : Int} {tgt : Nat} (d : decode (zcc Y) pc = .ok (.ifCond .lt off, 3)) (ht : (pc : Int) + off = (tgt : Int)) (kt : x < 0 → zX C Y Q k n f1 tgt ls st ad T R M) (kf : ¬ x < 0 → zX C Y Q k n f2 (pc + 3) ls st ad T R M) : zX C Y Q k n (if x < 0 then f1 else f2) pc ls (.int x :: st) ad T R M := by
  obtain ⟨p, l, e, Rm, s, m, args, below, meth, c, D, cs, A, K⟩ := C
  intro r M' hf hO hkn H locs la hP hD hS hl
  have hO' := hO
  obtain ⟨hx, hb, hml, hr, hown, hts, hK, hA, hlk, hB, hST, hR1, hR2, hR3, hR4⟩ := hO
  exact lv_if_lt hx hb d ht (fun h => kt h r M' (by rw [if_pos h] at hf; exact hf) hO' hkn H locs la hP hD hS hl) (fun h => kf h r M' (by rw [if_neg h] at hf; exact hf) hO' hkn H locs la hP hD hS hl)

theorem zx_icmp_lt {x y : Int32} {off : Int} {tgt : Nat} (d : decode (zcc Y) pc = .ok (.if_icmp .lt off, 3)) (ht : (pc : Int) + off = (tgt : Int)) (kt : x < y → zX C Y Q k n f1 tgt ls st ad T R M) (kf : ¬ x < y → zX C Y Q k n f2 (pc + 3) ls st ad T R M) : zX C Y Q k n (if x < y then f1 else f2) pc ls (.int y :: .int x :: st) ad T R M := by
  obtain ⟨p, l, e, Rm, s, m, args, below, meth, c, D, cs, A, K⟩ := C
  intro r M' hf hO hkn H locs la hP hD hS hl
  have hO' := hO
  obtain ⟨hx, hb, hml, hr, hown, hts, hK, hA, hlk, hB, hST, hR1, hR2, hR3, hR4⟩ := hO
  exact lv_icmp_lt hx hb d ht (fun h => kt h r M' (by rw [if_pos h] at hf; exact hf) hO' hkn H locs la hP hD hS hl) (fun h => kf h r M' (by rw [if_neg h] at hf; exact hf) hO' hkn H locs la hP hD hS hl)

theorem zx_if_ge {x : Int32} {off : Int} {tgt : Nat} (d : decode (zcc Y) pc = .ok (.ifCond .ge off, 3)) (ht : (pc : Int) + off = (tgt : Int)) (kt : 0 ≤ x → zX C Y Q k n f1 tgt ls st ad T R M) (kf : ¬ 0 ≤ x → zX C Y Q k n f2 (pc + 3) ls st ad T R M) : zX C Y Q k n (if 0 ≤ x then f1 else f2) pc ls (.int x :: st) ad T R M := by
  obtain ⟨p, l, e, Rm, s, m, args, below, meth, c, D, cs, A, K⟩ := C
  intro r M' hf hO hkn H locs la hP hD hS hl
  have hO' := hO
  obtain ⟨hx, hb, hml, hr, hown, hts, hK, hA, hlk, hB, hST, hR1, hR2, hR3, hR4⟩ := hO
  exact lv_if_ge hx hb d ht (fun h => kt h r M' (by rw [if_pos h] at hf; exact hf) hO' hkn H locs la hP hD hS hl) (fun h => kf h r M' (by rw [if_neg h] at hf; exact hf) hO' hkn H locs la hP hD hS hl)

theorem zx_icmp_ge {x y : Int32} {off : Int} {tgt : Nat} (d : decode (zcc Y) pc = .ok (.if_icmp .ge off, 3)) (ht : (pc : Int) + off = (tgt : Int)) (kt : y ≤ x → zX C Y Q k n f1 tgt ls st ad T R M) (kf : ¬ y ≤ x → zX C Y Q k n f2 (pc + 3) ls st ad T R M) : zX C Y Q k n (if y ≤ x then f1 else f2) pc ls (.int y :: .int x :: st) ad T R M := by
  obtain ⟨p, l, e, Rm, s, m, args, below, meth, c, D, cs, A, K⟩ := C
  intro r M' hf hO hkn H locs la hP hD hS hl
  have hO' := hO
  obtain ⟨hx, hb, hml, hr, hown, hts, hK, hA, hlk, hB, hST, hR1, hR2, hR3, hR4⟩ := hO
  exact lv_icmp_ge hx hb d ht (fun h => kt h r M' (by rw [if_pos h] at hf; exact hf) hO' hkn H locs la hP hD hS hl) (fun h => kf h r M' (by rw [if_neg h] at hf; exact hf) hO' hkn H locs la hP hD hS hl)

theorem zx_if_gt {x : Int32} {off : Int} {tgt : Nat} (d : decode (zcc Y) pc = .ok (.ifCond .gt off, 3)) (ht : (pc : Int) + off = (tgt : Int)) (kt : 0 < x → zX C Y Q k n f1 tgt ls st ad T R M) (kf : ¬ 0 < x → zX C Y Q k n f2 (pc + 3) ls st ad T R M) : zX C Y Q k n (if 0 < x then f1 else f2) pc ls (.int x :: st) ad T R M := by
  obtain ⟨p, l, e, Rm, s, m, args, below, meth, c, D, cs, A, K⟩ := C
  intro r M' hf hO hkn H locs la hP hD hS hl
  have hO' := hO
  obtain ⟨hx, hb, hml, hr, hown, hts, hK, hA, hlk, hB, hST, hR1, hR2, hR3, hR4⟩ := hO
  exact lv_if_gt hx hb d ht (fun h => kt h r M' (by rw [if_pos h] at hf; exact hf) hO' hkn H locs la hP hD hS hl) (fun h => kf h r M' (by rw [if_neg h] at hf; exact hf) hO' hkn H locs la hP hD hS hl)

theorem zx_icmp_gt {x y : Int32} {off : Int} {tgt : Nat} (d : decode (zcc Y) pc = .ok (.if_icmp .gt off, 3)) (ht : (pc : Int) + off = (tgt : Int)) (kt : y < x → zX C Y Q k n f1 tgt ls st ad T R M) (kf : ¬ y < x → zX C Y Q k n f2 (pc + 3) ls st ad T R M) : zX C Y Q k n (if y < x then f1 else f2) pc ls (.int y :: .int x :: st) ad T R M := by
  obtain ⟨p, l, e, Rm, s, m, args, below, meth, c, D, cs, A, K⟩ := C
  intro r M' hf hO hkn H locs la hP hD hS hl
  have hO' := hO
  obtain ⟨hx, hb, hml, hr, hown, hts, hK, hA, hlk, hB, hST, hR1, hR2, hR3, hR4⟩ := hO
  exact lv_icmp_gt hx hb d ht (fun h => kt h r M' (by rw [if_pos h] at hf; exact hf) hO' hkn H locs la hP hD hS hl) (fun h => kf h r M' (by rw [if_neg h] at hf; exact hf) hO' hkn H locs la hP hD hS hl)

theorem zx_if_le {x : Int32} {off : Int} {tgt : Nat} (d : decode (zcc Y) pc = .ok (.ifCond .le off, 3)) (ht : (pc : Int) + off = (tgt : Int)) (kt : x ≤ 0 → zX C Y Q k n f1 tgt ls st ad T R M) (kf : ¬ x ≤ 0 → zX C Y Q k n f2 (pc + 3) ls st ad T R M) : zX C Y Q k n (if x ≤ 0 then f1 else f2) pc ls (.int x :: st) ad T R M := by
  obtain ⟨p, l, e, Rm, s, m, args, below, meth, c, D, cs, A, K⟩ := C
  intro r M' hf hO hkn H locs la hP hD hS hl
  have hO' := hO
  obtain ⟨hx, hb, hml, hr, hown, hts, hK, hA, hlk, hB, hST, hR1, hR2, hR3, hR4⟩ := hO
  exact lv_if_le hx hb d ht (fun h => kt h r M' (by rw [if_pos h] at hf; exact hf) hO' hkn H locs la hP hD hS hl) (fun h => kf h r M' (by rw [if_neg h] at hf; exact hf) hO' hkn H locs la hP hD hS hl)

theorem zx_icmp_le {x y : Int32} {off : Int} {tgt : Nat} (d : decode (zcc Y) pc = .ok (.if_icmp .le off, 3)) (ht : (pc : Int) + off = (tgt : Int)) (kt : x ≤ y → zX C Y Q k n f1 tgt ls st ad T R M) (kf : ¬ x ≤ y → zX C Y Q k n f2 (pc + 3) ls st ad T R M) : zX C Y Q k n (if x ≤ y then f1 else f2) pc ls (.int y :: .int x :: st) ad T R M := by
  obtain ⟨p, l, e, Rm, s, m, args, below, meth, c, D, cs, A, K⟩ := C
  intro r M' hf hO hkn H locs la hP hD hS hl
  have hO' := hO
  obtain ⟨hx, hb, hml, hr, hown, hts, hK, hA, hlk, hB, hST, hR1, hR2, hR3, hR4⟩ := hO
  exact lv_icmp_le hx hb d ht (fun h => kt h r M' (by rw [if_pos h] at hf; exact hf) hO' hkn H locs la hP hD hS hl) (fun h => kf h r M' (by rw [if_neg h] at hf; exact hf) hO' hkn H locs la hP hD hS hl)

theorem zx_goto {off : Int} {tgt : Nat} (d : decode (zcc Y) pc = .ok (.goto off, 3)) (ht : (pc : Int) + off = (tgt : Int)) (kk : zX C Y Q k n f tgt ls st ad T R M) : zX C Y Q k n f pc ls st ad T R M := by
  obtain ⟨p, l, e, Rm, s, m, args, below, meth, c, D, cs, A, K⟩ := C
  intro r M' hf hO hkn H locs la hP hD hS hl
  have hO' := hO
  obtain ⟨hx, hb, hml, hr, hown, hts, hK, hA, hlk, hB, hST, hR1, hR2, hR3, hR4⟩ := hO
  exact lv_goto hx hb d ht (kk r M' hf hO' hkn H locs la hP hD hS hl)

/-- a choice that no instruction makes -/
theorem zx_ite {cnd : Prop} [Decidable cnd] (kt : cnd → zX C Y Q k n f1 pc ls st ad T R M) (kf : ¬ cnd → zX C Y Q k n f2 pc ls st ad T R M) : zX C Y Q k n (if cnd then f1 else f2) pc ls st ad T R M := by
  by_cases h : cnd
  · rw [if_pos h]; exact kt h
  · rw [if_neg h]; exact kf h
theorem zx_tin {dflt lo hi : Int} {offs : Array Int} {len : Nat} {x : Int32} {off : Int} {tgt : Nat} (d : decode (zcc Y) pc = .ok (.tableswitch dflt lo hi offs, len)) (h1 : ¬ x.toInt < lo) (h2 : ¬ hi < x.toInt) (ho : offs[(x.toInt - lo).toNat]? = some off) (ht : (pc : Int) + off = (tgt : Int)) (kk : zX C Y Q k n f tgt ls st ad T R M) : zX C Y Q k n f pc ls (.int x :: st) ad T R M := by
  obtain ⟨p, l, e, Rm, s, m, args, below, meth, c, D, cs, A, K⟩ := C
  intro r M' hf hO hkn H locs la hP hD hS hl
  have hO' := hO
  obtain ⟨hx, hb, hml, hr, hown, hts, hK, hA, hlk, hB, hST, hR1, hR2, hR3, hR4⟩ := hO
  exact lv_tableIn hx hb d h1 h2 ho ht (kk r M' hf hO' hkn H locs la hP hD hS hl)

theorem zx_tout {dflt lo hi : Int} {offs : Array Int} {len : Nat} {x : Int32} {tgt : Nat} (d : decode (zcc Y) pc = .ok (.tableswitch dflt lo hi offs, len)) (h : x.toInt < lo ∨ hi < x.toInt) (ht : (pc : Int) + dflt = (tgt : Int)) (kk : zX C Y Q k n f tgt ls st ad T R M) : zX C Y Q k n f pc ls (.int x :: st) ad T R M := by
  obtain ⟨p, l, e, Rm, s, m, args, below, meth, c, D, cs, A, K⟩ := C
  intro r M' hf hO hkn H locs la hP hD hS hl
  have hO' := hO
  obtain ⟨hx, hb, hml, hr, hown, hts, hK, hA, hlk, hB, hST, hR1, hR2, hR3, hR4⟩ := hO
  exact lv_tableOut hx hb d h ht (kk r M' hf hO' hkn H locs la hP hD hS hl)

theorem zx_lsw {dflt : Int} {ps : Array (Int × Int)} {len : Nat} {x : Int32} {off : Int} {tgt : Nat} (d : decode (zcc Y) pc = .ok (.lookupswitch dflt ps, len)) (hp : (ps.toList.zip (ps.toList.drop 1)).all (fun (a, next) => a.1 < next.1) = true) (ho : Op.lookupswitch.offset ps.toList dflt x.toInt = off) (ht : (pc : Int) + off = (tgt : Int)) (kk : zX C Y Q k n f tgt ls st ad T R M) : zX C Y Q k n f pc ls (.int x :: st) ad T R M := by
  obtain ⟨p, l, e, Rm, s, m, args, below, meth, c, D, cs, A, K⟩ := C
  intro r M' hf hO hkn H locs la hP hD hS hl
  have hO' := hO
  obtain ⟨hx, hb, hml, hr, hown, hts, hK, hA, hlk, hB, hST, hR1, hR2, hR3, hR4⟩ := hO
  exact lv_lookup hx hb d hp ho ht (kk r M' hf hO' hkn H locs la hP hD hS hl)

theorem zx_loc (ps : List Nat) (hp : lv_pick ls ps = ls') (kk : zX C Y Q k n f pc ls' st ad T R M) : zX C Y Q k n f pc ls st ad T R M := by
  obtain ⟨p, l, e, Rm, s, m, args, below, meth, c, D, cs, A, K⟩ := C
  intro r M' hf hO hkn H locs la hP hD hS hl
  have hO' := hO
  obtain ⟨hx, hb, hml, hr, hown, hts, hK, hA, hlk, hB, hST, hR1, hR2, hR3, hR4⟩ := hO
  refine kk r M' hf hO' hkn H locs la hP hD hS (lv_sub hl ps ?_)
  subst hp
  unfold lv_pick zlm
  rw [List.map_filterMap]
  congr 1
  funext a
  rw [List.getElem?_map]

def zlet {α β : Type} (x : α) (K : α → Option β) : Option β := K x
theorem zx_let {α : Type} {x : α} {K : α → Option (ρ × zMem)} (kk : ∀ y, y = x → zX C Y Q k n (K y) pc ls st ad T R M) : zX C Y Q k n (zlet x K) pc ls st ad T R M := kk x rfl
theorem zx_leti {x : Int32} {K : Int32 → Option (ρ × zMem)} (kk : ∀ y : Int32, zX C Y Q k n (K y) pc ls (.int y :: st) ad T R M) : zX C Y Q k n (zlet x K) pc ls (.int x :: st) ad T R M := kk x
theorem zx_letl {x : Int64} {K : Int64 → Option (ρ × zMem)} (kk : ∀ y : Int64, zX C Y Q k n (K y) pc ls (.long y :: st) ad T R M) : zX C Y Q k n (zlet x K) pc ls (.long x :: st) ad T R M := kk x
end ZX
