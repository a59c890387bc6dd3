/-- every reference stays among the first N cells -/
def zRok (N : Nat) (R : zRR) : Prop := ∀ o k b, R o k = some b → o < N ∧ b < N
theorem zRok.mono {N N' : Nat} {R : zRR} (h : zRok N R) (hN : N ≤ N') : zRok N' R := fun o k b q => ⟨Nat.lt_of_lt_of_le (h o k b q).1 hN, Nat.lt_of_lt_of_le (h o k b q).2 hN⟩
def zwR (R : zRR) (o k b : Nat) : zRR := fun a => if a = o then va_up (R o) k (some b) else R a
theorem zRok.w {N : Nat} {R : zRR} {o k b : Nat} (h : zRok N R) (ho : o < N) (hb : b < N) : zRok N (zwR R o k b) := fun a j c q => by
  unfold zwR at q
  by_cases ha : a = o
  · subst ha
    rw [if_pos rfl] at q
    unfold va_up at q
    by_cases hj : j = k
    · rw [if_pos hj] at q
      cases q
      exact ⟨ho, hb⟩
    · rw [if_neg hj] at q
      exact h a j c q
  · rw [if_neg ha] at q
    exact h a j c q
def zrow0 (M : zMem) (o : Nat) : zMem := (fun a => if a = o then (fun _ => 0) else M.1 a, fun a => if a = o then (fun _ => 0) else M.2 a)
theorem zcell_up {cs : Nat → ClassId} {ad ad' : Nat → Nat} {R R' : zRR} {M M' : zMem} {o : Nat} {t : Nat × Nat} (h1 : M.1 o = M'.1 o) (h2 : M.2 o = M'.2 o) (h3 : ∀ k, (R o k).map ad = (R' o k).map ad') : zcell cs ad R M o t = zcell cs ad' R' M' o t := by
  have e : ∀ k kind, zfv ad R M o k kind = zfv ad' R' M' o k kind := fun k kind => by
    match kind with
    | 0 => simp [zfv, h1]
    | 1 => simp [zfv, h2]
    | kind + 2 => simp [zfv, h3]
  have e2 : (fun j => (R o j).map ad) = (fun j => (R' o j).map ad') := funext h3
  unfold zcell
  simp only [h1, h2, e2, e]
/-- one more cell -/
theorem zworld_push {cs : Nat → ClassId} {ad : Nat → Nat} {T : zTT} {R : zRR} {M : zMem} {N q : Nat} {t : Nat × Nat} {e : va_E} (hN : T.length = N) (hR : zRok N R) (he : zcell cs (va_up ad N q) R (zrow0 M N) N t = e) : zworld cs ad T R M ++ [(q, e)] = zworld cs (va_up ad N q) (T ++ [t]) R (zrow0 M N) := by
  apply List.ext_getElem?
  intro j
  unfold zworld
  by_cases hj : j < T.length
  · rw [List.getElem?_append_left (by rw [List.length_mapIdx]; exact hj), List.getElem?_mapIdx, List.getElem?_mapIdx, List.getElem?_append_left hj]
    obtain ⟨t2, ht2⟩ : ∃ t2, T[j]? = some t2 := ⟨T[j], List.getElem?_eq_getElem hj⟩
    rw [ht2]
    have hjN : j ≠ N := by omega
    show some (ad j, zcell cs ad R M j t2) = some (va_up ad N q j, zcell cs (va_up ad N q) R (zrow0 M N) j t2)
    rw [va_up_ne ad q hjN]
    rw [zcell_up (ad' := va_up ad N q) (R' := R) (M' := zrow0 M N) (by simp [zrow0, hjN]) (by simp [zrow0, hjN]) (fun k => by
      cases hk : R j k with
      | none => rfl
      | some b =>
        have := (hR j k b hk).2
        show some (ad b) = some (va_up ad N q b)
        rw [va_up_ne ad q (by omega)])]
  · rw [List.getElem?_append_right (by rw [List.length_mapIdx]; omega), List.getElem?_mapIdx, List.getElem?_append_right (by omega), List.length_mapIdx]
    by_cases hj2 : j = T.length
    · subst hj2
      rw [Nat.sub_self]
      show some (q, e) = some (va_up ad N q T.length, zcell cs (va_up ad N q) R (zrow0 M N) T.length t)
      rw [hN, va_up_self, he]
    · have h1 : 1 ≤ j - T.length := by omega
      rw [List.getElem?_eq_none (by simpa using h1), List.getElem?_eq_none (by simpa using h1)]
      rfl
def zrefs (N : Nat) (vs : List Value) : Prop := ∀ b : Nat, Value.ref b ∈ vs → b < N ∨ zBIG ≤ b
theorem zcv_up {ad : Nat → Nat} {N q : Nat} {v : Value} (h : ∀ b : Nat, v = .ref b → b < N ∨ zBIG ≤ b) (hN : N < zBIG) : zcv (va_up ad N q) v = zcv ad v := by
  cases v with
  | ref b =>
    have h1 := h b rfl
    show Value.ref (va_up ad N q b) = Value.ref (ad b)
    rw [va_up_ne ad q (h1.elim Nat.ne_of_lt (fun h2 => (Nat.ne_of_lt (Nat.lt_of_lt_of_le hN h2)).symm))]
  | _ => rfl
theorem zcv_eq {ad ad' : Nat → Nat} {N : Nat} {v : Value} (ha : ∀ o, o < N ∨ zBIG ≤ o → ad' o = ad o) (h : ∀ b : Nat, v = .ref b → b < N ∨ zBIG ≤ b) : zcv ad' v = zcv ad v := by
  cases v with
  | ref b => exact congrArg Value.ref (ha b (h b rfl))
  | _ => rfl
theorem zmap_eq {ad ad' : Nat → Nat} {N : Nat} {vs : List Value} (ha : ∀ o, o < N ∨ zBIG ≤ o → ad' o = ad o) (h : zrefs N vs) : vs.map (zcv ad') = vs.map (zcv ad) := by
  apply List.map_congr_left
  intro v hv
  exact zcv_eq ha (fun b e => h b (by rw [← e]; exact hv))
theorem zlm_eq {ad ad' : Nat → Nat} {N : Nat} {ls : List (Nat × Value)} (ha : ∀ o, o < N ∨ zBIG ≤ o → ad' o = ad o) (h : zrefs N (ls.map (fun q => q.2))) : zlm ad' ls = zlm ad ls := by
  unfold zlm
  apply List.map_congr_left
  intro q hq
  rw [zcv_eq ha (fun b e => h b (by rw [← e]; exact List.mem_map.mpr ⟨q, hq, rfl⟩))]
theorem zup_ag {ad : Nat → Nat} {N q : Nat} (hN : N < zBIG) : ∀ o, o < N ∨ zBIG ≤ o → va_up ad N q o = ad o := fun o h => va_up_ne ad q (by omega)
theorem zSA.up {K : (Nat → Nat) × (Nat → Nat)} {ad : Nat → Nat} {N q : Nat} (h : zSA K ad) (hN : N < zBIG) : zSA K (va_up ad N q) := ⟨fun i hi => by rw [va_up_ne ad q (by omega)]; exact h.1 i hi, fun i hi => by rw [va_up_ne ad q (by omega)]; exact h.2 i hi⟩
theorem zSA.ag {K : (Nat → Nat) × (Nat → Nat)} {ad ad' : Nat → Nat} {N : Nat} (h : zSA K ad) (ha : ∀ o, o < N ∨ zBIG ≤ o → ad' o = ad o) : zSA K ad' := ⟨fun i hi => by rw [ha _ (Or.inr (by omega))]; exact h.1 i hi, fun i hi => by rw [ha _ (Or.inr (by omega))]; exact h.2 i hi⟩
/-- the end of a method that makes cells -/
def zQC (D : va_G) (cs : Nat → ClassId) (ad : Nat → Nat) (N : Nat) (T' : zTT) (R' : zRR) (A : Nat → Prop) (M' : zMem) : Array Value → State → Outcome → State → Prop := fun _ st oc t => (∃ ad' : Nat → Nat, (∀ o, o < N ∨ zBIG ≤ o → ad' o = ad o) ∧ oc = .returned none ∧ va_P D zClasses (zworld cs ad' T' R' M') t.heap ∧ va_D A (zworld cs ad' T' R' M')) ∧ va_F A st t
def zMC (l : Launch) (y : MethodName) (Y : zMI) (fc : Option (Unit × zMem)) (as : List Value) (N : Nat) (T : zTT) (R : zRR) (M : zMem) (T' : zTT) (R' : zRR) : Prop := ∀ (M1 : zMem), fc = some ((), M1) → ∀ (D : va_G) (cs : Nat → ClassId) (ad : Nat → Nat) (K : (Nat → Nat) × (Nat → Nat)) (sz : Nat), Met l y (zwsM y Y) (zrm Y) (va_Pc (as.map (zcv ad)) (zPre D cs ad K sz T R M)) (zQC D cs ad N T' R' (va_A (zworld cs ad T R M) sz) M1) (zmc Y) (zms Y) (va_A (zworld cs ad T R M) sz)
def zFinC (C : zCx) (Y : zMI) (ad : Nat → Nat) (N : Nat) (T' : zTT) (R' : zRR) (_ : Unit) (M' : zMem) : State → Prop := match C with
  | (_, _, _, _, s, _, args, below, _, _, D, cs, A, _) => MQ below (zQC D cs ad N T' R' A M') args s (zmc Y) (zms Y) A
def zmn (C : zCx) : String := C.2.2.2.2.2.2.2.2.1.name
theorem zMC.of {l : Launch} {y : MethodName} {Y : zMI} {f : Option (Unit × zMem)} {as : List Value} {N : Nat} {T : zTT} {R : zRR} {M : zMem} {T' : zTT} {R' : zRR} (hy : plainName y.cls = true) (hown : zown Y = y.cls) (hl : (lg_sl as).length ≤ znL Y)
    (h : ∀ (C : zCx) (ad : Nat → Nat), zl C = l → zmn C = y.name → zX C Y (zFinC C Y ad N T' R') 0 0 f 0 (lv_args 0 as) [] ad T R M) : zMC l y Y f as N T R M T' R' := by
  intro M1 hf D cs ad K sz
  refine Met.ofW (cc := zcc Y) (maxL := znL Y) (ret := zret Y) hy rfl ?_
  intro p e s m args below meth c s₁ B hml hv
  obtain ⟨rfl, rfl, hP, hK, hD, hB, hST, hSA⟩ := hv
  have hts := atoms_spec (ws := zwsM y Y) B.pre
  have hS : va_S (va_A (zworld cs ad T R M) s.heap.size) s.heap s.heap [] := va_S.rf
  have hle := lv_entry (as.map (zcv ad)) (n := znL Y) (by rw [zlg_sl]; exact hl)
  rw [lg_entry_eq]
  generalize (lg_sl (as.map (zcv ad)) ++ List.replicate (znL Y - (lg_sl (as.map (zcv ad))).length) Slot.unset).toArray = la at hle ⊢
  rw [zlv_args] at hle
  have hfc : s.vm.findClass y.cls = some m.cls := findClass_of_methodNamed B.named
  rw [← hown] at hfc
  exact h (p, l, e, zrm Y, s, m, (as.map (zcv ad)).toArray, below, meth, c, D, cs, va_A (zworld cs ad T R M) s.heap.size, K) ad rfl (name_of_methodNamed B.named B.method).1 () M1 hf
    ⟨B.exec, B.bytes, hml, B.returns, hfc, fun w hw => hts w (List.mem_cons_of_mem _ hw), hK, fun q hq => Or.inr hq, B.notSynchronized, hB, hST, Nat.le_refl _, Nat.le_refl _, Nat.le_refl _, Nat.le_refl _⟩ ⟨Nat.zero_le _, Nat.zero_le _, hSA⟩ s.heap [] la hP hD.self hS hle
section ZX
variable {ρ : Type} {C : zCx} {Y : zMI} {Q : ρ → zMem → State → Prop} {k n : Nat} {f f1 f2 : Option (ρ × zMem)} {pc : Nat} {ls ls' : List (Nat × Value)} {st : List Value} {ad : Nat → Nat} {T : zTT} {R : zRR} {M : zMem} {N : Nat}
theorem zx_new {idx ci : Nat} {qc : vw_C} (d : decode (zcc Y) pc = .ok (.new idx, 3)) (hq : zClasses[ci]? = some qc) (hcl : Cond.classLink (zown Y) idx qc.1 ∈ zgtbl) (hins : Cond.instantiable qc.1 qc.2.2 ∈ zgtbl) (hini : Cond.initialized qc.1 ∈ zgtbl) (hdef : ∀ j, j < qc.2.2 → defaultValue (ztyT ci j) = vp_V ((zkinds ci).map (fun a => match a with | 0 => Value.int 0 | 1 => Value.long 0 | _ => Value.null)) j) (hcs : k + 1 ≤ zmc Y ∧ n + qc.2.2 ≤ zms Y) (hN : T.length = N) (hR : zRok N R) (hNB : N < zBIG) (hrs : zrefs N st) (hrl : zrefs N (ls.map (fun q => q.2))) (kk : ∀ q : Nat, zX C Y Q (k + 1) (n + qc.2.2) f (pc + 3) ls (.ref N :: st) (va_up ad N q) (T ++ [(0, ci)]) R (zrow0 M N)) : zX C Y Q k n f pc ls st ad T R M := by
  obtain ⟨p, l, e, Rm, s, m, args, below, meth, c, D, cs, A, K⟩ := C
  intro r M' hf hO hkn H locs la hP hD hS hl
  have hO' := hO
  obtain ⟨hx, hb, hml, hr, hown, hts, hK, hA, hlk, hB, hST, hR1, hR2, hR3, hR4⟩ := hO
  refine va_new hx hb hts (zin ci _ hq) (ztyT ci) (ztyT_ok ci _ hq).1 hown (hts _ hcl) (hts _ hins) (hts _ hini) hK hP hD hS hA hq hdef (Nat.le_trans hcs.1 hR3) (Nat.le_trans hcs.2 hR4) d (fun q H1 hP1 hD1 hS1 => ?_)
  have hcell : zcell cs (va_up ad N q) R (zrow0 M N) N (0, ci) = .inr (ci, (zkinds ci).map (fun a => match a with | 0 => Value.int 0 | 1 => Value.long 0 | _ => Value.null)) := by
    show Sum.inr (ci, (zkinds ci).mapIdx (fun k a => zfv (va_up ad N q) R (zrow0 M N) N k a)) = _
    congr 2
    apply List.ext_getElem?
    intro j
    rw [List.getElem?_mapIdx, List.getElem?_map]
    cases hj : (zkinds ci)[j]? with
    | none => rfl
    | some a =>
      have hrn : R N j = none := by
        cases h : R N j with
        | none => rfl
        | some b => exact absurd (hR N j b h).1 (Nat.lt_irrefl N)
      match a with
      | 0 => simp [zfv, zrow0]
      | 1 => simp [zfv, zrow0]
      | a + 2 => simp [zfv, hrn, va_rf]
  have hP2 : va_P D zClasses (zworld cs (va_up ad N q) (T ++ [(0, ci)]) R (zrow0 M N)) H1 := by rw [← zworld_push hN hR hcell]; exact hP1
  have hD2 : va_D A (zworld cs (va_up ad N q) (T ++ [(0, ci)]) R (zrow0 M N)) := by rw [← zworld_push hN hR hcell]; exact hD1
  have h9 := kk q r M' hf hO' ⟨Nat.le_trans hcs.1 hR3, Nat.le_trans hcs.2 hR4, hkn.2.2.up hNB⟩ H1 locs la hP2 hD2 hS1 (by rw [zlm_eq (zup_ag hNB) hrl]; exact hl)
  rw [List.map_cons, zmap_eq (zup_ag hNB) hrs] at h9
  have e9 : zcv (va_up ad N q) (.ref N) = .ref q := by show Value.ref (va_up ad N q N) = _; rw [va_up_self]
  rw [e9] at h9
  exact h9

theorem zx_newaI {x : Int32} {NN : Nat} (d : decode (zcc Y) pc = .ok (.newarray .int, 2)) (harr : Cond.arrayClass .int ∈ zgtbl) (hn0 : ¬ x < 0) (hNN : x.toNatClampNeg = NN) (hby : NN ≤ 10000) (hcs : k + 1 ≤ zmc Y ∧ n + NN ≤ zms Y) (hN : T.length = N) (hR : zRok N R) (hNB : N < zBIG) (hrs : zrefs N st) (hrl : zrefs N (ls.map (fun q => q.2))) (kk : ∀ q : Nat, zX C Y Q (k + 1) (n + NN) f (pc + 2) ls (.ref N :: st) (va_up ad N q) (T ++ [(1, NN)]) R (zrow0 M N)) : zX C Y Q k n f pc ls (.int x :: st) ad T R M := by
  obtain ⟨p, l, e, Rm, s, m, args, below, meth, c, D, cs, A, K⟩ := C
  intro r M' hf hO hkn H locs la hP hD hS hl
  have hO' := hO
  obtain ⟨hx, hb, hml, hr, hown, hts, hK, hA, hlk, hB, hST, hR1, hR2, hR3, hR4⟩ := hO
  refine va_newa (atype := .int) (ty := .int) (N' := NN) (a0 := (NN, .inl (fun _ => 0))) hx hb (hts _ harr) rfl hK hP hD hS hA (fun cA => rfl) hn0 hNN (by have := hby; simp only [componentBytes] at *; omega) (Nat.le_trans hcs.1 hR3) (Nat.le_trans hcs.2 hR4) d (fun q cA H1 hK1 hP1 hD1 hS1 => ?_)
  have hcA : cA = cs 0 := by
    have h1 := (hK1.2 5 (cA, .int) rfl).2
    have h2 := (hK.2 0 (cs 0, .int) rfl).2
    exact Option.some.inj (h1.symm.trans h2)
  subst hcA
  have hcell : zcell cs (va_up ad N q) R (zrow0 M N) N (1, NN) = .inl (cs 0, NN, .inl (fun _ => 0)) := by simp [zcell, zrow0]
  have hP2 : va_P D zClasses (zworld cs (va_up ad N q) (T ++ [(1, NN)]) R (zrow0 M N)) H1 := by rw [← zworld_push hN hR hcell]; exact hP1
  have hD2 : va_D A (zworld cs (va_up ad N q) (T ++ [(1, NN)]) R (zrow0 M N)) := by rw [← zworld_push hN hR hcell]; exact hD1
  have h9 := kk q r M' hf hO' ⟨Nat.le_trans hcs.1 hR3, Nat.le_trans hcs.2 hR4, hkn.2.2.up hNB⟩ H1 locs la hP2 hD2 hS1 (by rw [zlm_eq (zup_ag hNB) hrl]; exact hl)
  rw [List.map_cons, zmap_eq (zup_ag hNB) hrs] at h9
  have e9 : zcv (va_up ad N q) (.ref N) = .ref q := by show Value.ref (va_up ad N q N) = _; rw [va_up_self]
  rw [e9] at h9
  exact h9

theorem zx_newaL {x : Int32} {NN : Nat} (d : decode (zcc Y) pc = .ok (.newarray .long, 2)) (harr : Cond.arrayClass .long ∈ zgtbl) (hn0 : ¬ x < 0) (hNN : x.toNatClampNeg = NN) (hby : NN ≤ 10000) (hcs : k + 1 ≤ zmc Y ∧ n + NN ≤ zms Y) (hN : T.length = N) (hR : zRok N R) (hNB : N < zBIG) (hrs : zrefs N st) (hrl : zrefs N (ls.map (fun q => q.2))) (kk : ∀ q : Nat, zX C Y Q (k + 1) (n + NN) f (pc + 2) ls (.ref N :: st) (va_up ad N q) (T ++ [(2, NN)]) R (zrow0 M N)) : zX C Y Q k n f pc ls (.int x :: st) ad T R M := by
  obtain ⟨p, l, e, Rm, s, m, args, below, meth, c, D, cs, A, K⟩ := C
  intro r M' hf hO hkn H locs la hP hD hS hl
  have hO' := hO
  obtain ⟨hx, hb, hml, hr, hown, hts, hK, hA, hlk, hB, hST, hR1, hR2, hR3, hR4⟩ := hO
  refine va_newa (atype := .long) (ty := .long) (N' := NN) (a0 := (NN, .inr (.inl (fun _ => 0)))) hx hb (hts _ harr) rfl hK hP hD hS hA (fun cA => rfl) hn0 hNN (by have := hby; simp only [componentBytes] at *; omega) (Nat.le_trans hcs.1 hR3) (Nat.le_trans hcs.2 hR4) d (fun q cA H1 hK1 hP1 hD1 hS1 => ?_)
  have hcA : cA = cs 1 := by
    have h1 := (hK1.2 5 (cA, .long) rfl).2
    have h2 := (hK.2 1 (cs 1, .long) rfl).2
    exact Option.some.inj (h1.symm.trans h2)
  subst hcA
  have hcell : zcell cs (va_up ad N q) R (zrow0 M N) N (2, NN) = .inl (cs 1, NN, .inr (.inl (fun _ => 0))) := by simp [zcell, zrow0]
  have hP2 : va_P D zClasses (zworld cs (va_up ad N q) (T ++ [(2, NN)]) R (zrow0 M N)) H1 := by rw [← zworld_push hN hR hcell]; exact hP1
  have hD2 : va_D A (zworld cs (va_up ad N q) (T ++ [(2, NN)]) R (zrow0 M N)) := by rw [← zworld_push hN hR hcell]; exact hD1
  have h9 := kk q r M' hf hO' ⟨Nat.le_trans hcs.1 hR3, Nat.le_trans hcs.2 hR4, hkn.2.2.up hNB⟩ H1 locs la hP2 hD2 hS1 (by rw [zlm_eq (zup_ag hNB) hrl]; exact hl)
  rw [List.map_cons, zmap_eq (zup_ag hNB) hrs] at h9
  have e9 : zcv (va_up ad N q) (.ref N) = .ref q := by show Value.ref (va_up ad N q N) = _; rw [va_up_self]
  rw [e9] at h9
  exact h9

theorem zx_newaZ {x : Int32} {NN : Nat} (d : decode (zcc Y) pc = .ok (.newarray .boolean, 2)) (harr : Cond.arrayClass .boolean ∈ zgtbl) (hn0 : ¬ x < 0) (hNN : x.toNatClampNeg = NN) (hby : NN ≤ 10000) (hcs : k + 1 ≤ zmc Y ∧ n + NN ≤ zms Y) (hN : T.length = N) (hR : zRok N R) (hNB : N < zBIG) (hrs : zrefs N st) (hrl : zrefs N (ls.map (fun q => q.2))) (kk : ∀ q : Nat, zX C Y Q (k + 1) (n + NN) f (pc + 2) ls (.ref N :: st) (va_up ad N q) (T ++ [(3, NN)]) R (zrow0 M N)) : zX C Y Q k n f pc ls (.int x :: st) ad T R M := by
  obtain ⟨p, l, e, Rm, s, m, args, below, meth, c, D, cs, A, K⟩ := C
  intro r M' hf hO hkn H locs la hP hD hS hl
  have hO' := hO
  obtain ⟨hx, hb, hml, hr, hown, hts, hK, hA, hlk, hB, hST, hR1, hR2, hR3, hR4⟩ := hO
  refine va_newa (atype := .boolean) (ty := .boolean) (N' := NN) (a0 := (NN, .inl (fun _ => 0))) hx hb (hts _ harr) rfl hK hP hD hS hA (fun cA => rfl) hn0 hNN (by have := hby; simp only [componentBytes] at *; omega) (Nat.le_trans hcs.1 hR3) (Nat.le_trans hcs.2 hR4) d (fun q cA H1 hK1 hP1 hD1 hS1 => ?_)
  have hcA : cA = cs 2 := by
    have h1 := (hK1.2 5 (cA, .boolean) rfl).2
    have h2 := (hK.2 2 (cs 2, .boolean) rfl).2
    exact Option.some.inj (h1.symm.trans h2)
  subst hcA
  have hcell : zcell cs (va_up ad N q) R (zrow0 M N) N (3, NN) = .inl (cs 2, NN, .inl (fun _ => 0)) := by simp [zcell, zrow0]
  have hP2 : va_P D zClasses (zworld cs (va_up ad N q) (T ++ [(3, NN)]) R (zrow0 M N)) H1 := by rw [← zworld_push hN hR hcell]; exact hP1
  have hD2 : va_D A (zworld cs (va_up ad N q) (T ++ [(3, NN)]) R (zrow0 M N)) := by rw [← zworld_push hN hR hcell]; exact hD1
  have h9 := kk q r M' hf hO' ⟨Nat.le_trans hcs.1 hR3, Nat.le_trans hcs.2 hR4, hkn.2.2.up hNB⟩ H1 locs la hP2 hD2 hS1 (by rw [zlm_eq (zup_ag hNB) hrl]; exact hl)
  rw [List.map_cons, zmap_eq (zup_ag hNB) hrs] at h9
  have e9 : zcv (va_up ad N q) (.ref N) = .ref q := by show Value.ref (va_up ad N q N) = _; rw [va_up_self]
  rw [e9] at h9
  exact h9

theorem zx_newq {x : Int32} {NN idx : Nat} (d : decode (zcc Y) pc = .ok (.anewarray idx, 3)) (hcl : Cond.classLink (zown Y) idx "BathMinutes$Image" ∈ zgtbl) (hn0 : ¬ x < 0) (hNN : x.toNatClampNeg = NN) (hby : NN ≤ 10000) (hcs : k + 1 ≤ zmc Y ∧ n + NN ≤ zms Y) (hN : T.length = N) (hR : zRok N R) (hNB : N < zBIG) (hrs : zrefs N st) (hrl : zrefs N (ls.map (fun q => q.2))) (kk : ∀ q : Nat, zX C Y Q (k + 1) (n + NN) f (pc + 3) ls (.ref N :: st) (va_up ad N q) (T ++ [(4, NN)]) R (zrow0 M N)) : zX C Y Q k n f pc ls (.int x :: st) ad T R M := by
  obtain ⟨p, l, e, Rm, s, m, args, below, meth, c, D, cs, A, K⟩ := C
  intro r M' hf hO hkn H locs la hP hD hS hl
  have hO' := hO
  obtain ⟨hx, hb, hml, hr, hown, hts, hK, hA, hlk, hB, hST, hR1, hR2, hR3, hR4⟩ := hO
  refine va_newq (N' := NN) hx hb hown (hts _ hcl) hST.2.2.2.1 hK hP hD hS hA hn0 hNN (by omega) (Nat.le_trans hcs.1 hR3) (Nat.le_trans hcs.2 hR4) d (fun q cA H1 hK1 hP1 hD1 hS1 => ?_)
  have hcA : cA = cs 3 := by
    obtain ⟨-, -, -, -, -, h1⟩ := (hK1.2 5 (cA, .object "BathMinutes$Image") rfl).2
    obtain ⟨-, -, -, -, -, h2⟩ := (hK.2 3 (cs 3, .object "BathMinutes$Image") rfl).2
    exact Option.some.inj (h1.symm.trans h2)
  subst hcA
  have hrn : ∀ j, R N j = none := fun j => by
    cases h : R N j with
    | none => rfl
    | some b => exact absurd (hR N j b h).1 (Nat.lt_irrefl N)
  have hcell : zcell cs (va_up ad N q) R (zrow0 M N) N (4, NN) = .inl (cs 3, NN, .inr (.inr (.inr (.inr (fun _ => none))))) := by simp [zcell, hrn]
  have hP2 : va_P D zClasses (zworld cs (va_up ad N q) (T ++ [(4, NN)]) R (zrow0 M N)) H1 := by rw [← zworld_push hN hR hcell]; exact hP1
  have hD2 : va_D A (zworld cs (va_up ad N q) (T ++ [(4, NN)]) R (zrow0 M N)) := by rw [← zworld_push hN hR hcell]; exact hD1
  have h9 := kk q r M' hf hO' ⟨Nat.le_trans hcs.1 hR3, Nat.le_trans hcs.2 hR4, hkn.2.2.up hNB⟩ H1 locs la hP2 hD2 hS1 (by rw [zlm_eq (zup_ag hNB) hrl]; exact hl)
  rw [List.map_cons, zmap_eq (zup_ag hNB) hrs] at h9
  have e9 : zcv (va_up ad N q) (.ref N) = .ref q := by show Value.ref (va_up ad N q N) = _; rw [va_up_self]
  rw [e9] at h9
  exact h9

def zFR (own : String) (idx ci k : Nat) (ty : FieldType) : Prop := ∃ q, zClasses[ci]? = some q ∧ k < q.2.2 ∧ (q.2.1 k).1 = q.1 ∧ q.1 = own ∧ Cond.fieldLink own idx q.1 (q.2.1 k).2.1 (q.2.1 k).2.2.1 ∈ zgtbl ∧ (q.2.1 k).2.2.2 = true ∧ parseFieldDescriptor (q.2.1 k).2.2.1 = some ty
theorem zx_putR {o ci kf idx b : Nat} {ty : FieldType} (d : decode (zcc Y) pc = .ok (.putfield idx, 3)) (hF : zFR (zown Y) idx ci kf ty) (hnm : zmn C = "<init>") (ht : T[o]? = some (0, ci)) (hk : (zkinds ci)[kf]? = some 2) (hnar : ∀ a, narrow ty (.ref a) = .ref a ∧ fits ty (.ref a) = true) (kk : zX C Y Q k n f (pc + 3) ls st ad T (zwR R o kf b) M) : zX C Y Q k n f pc ls (.ref b :: .ref o :: st) ad T R M := by
  obtain ⟨p, l, e, Rm, s, m, args, below, meth, c, D, cs, A, K⟩ := C
  intro r M' hf hO hkn H locs la hP hD hS hl
  have hO' := hO
  obtain ⟨hx, hb, hml, hr, hown, hts, hK, hA, hlk, hB, hST, hR1, hR2, hR3, hR4⟩ := hO
  obtain ⟨⟨qC, qT, qN⟩, hc, hkN, hd, hqo, hlink, hfin, hpd⟩ := hF
  have hsame : ∀ x, s.fieldFound? (qT kf).1 (qT kf).2.1 (qT kf).2.2.1 = some x → s.fieldFound? qC (qT kf).2.1 (qT kf).2.2.1 = some x := fun x h => by
    have e : (qT kf).1 = qC := hd
    rw [← e]
    exact h
  obtain ⟨hty, hnm2⟩ := ztyT_ok ci _ hc
  have hset : (zworld cs ad T R M).set o (ad o, .inr (ci, ((zkinds ci).mapIdx (fun k a => zfv ad R M o k a)).set kf (.ref (ad b)))) = zworld cs ad T (zwR R o kf b) M := by
    refine zworld_set ht ?_ ?_
    · rw [zflds_set (R' := zwR R o kf b) (M' := M) hk (by simp [zfv, zwR, va_up, va_rf]) (fun j kd hj => ?_)]
      · rfl
      · match kd with
        | 0 => rfl
        | 1 => rfl
        | kd + 2 => simp [zfv, zwR, va_up, hj]
    · intro q hq
      exact ⟨rfl, rfl, by simp [zwR, hq]⟩
  refine va_putF hx hb hts (zin ci _ hc) (ztyT ci) hty hnm2 hown hK hP hD hS o (zworld_get ht) hc kf hkN (hts _ hlink) hsame hfin hnm (hd.trans hqo) hpd (hnar (ad b)).1 (hnar (ad b)).2 ?_ d (fun H1 locs1 hP1 hD1 hS1 => ?_)
  · rw [List.length_mapIdx]; exact (List.getElem?_eq_some_iff.mp hk).1
  · exact kk r M' hf hO' hkn H1 locs1 la (by rw [← hset]; exact hP1) (by rw [← hset]; exact hD1) hS1 hl

theorem zx_astq {a b NN : Nat} {i : Int32} (d : decode (zcc Y) pc = .ok (.aastore, 1)) (ht : T[a]? = some (4, NN)) (hb0 : T[b]? = some (0, 2)) (hin : vp_in i NN) (kk : zX C Y Q k n f (pc + 1) ls st ad T (zwR R a i.toNatClampNeg b) M) : zX C Y Q k n f pc ls (.ref b :: .int i :: .ref a :: st) ad T R M := by
  obtain ⟨p, l, e, Rm, s, m, args, below, meth, c, D, cs, A, K⟩ := C
  intro r M' hf hO hkn H locs la hP hD hS hl
  have hO' := hO
  obtain ⟨hx, hb, hml, hr, hown, hts, hK, hA, hlk, hB, hST, hR1, hR2, hR3, hR4⟩ := hO
  have hset : (zworld cs ad T R M).set a (ad a, .inl (cs 3, NN, .inr (.inr (.inr (.inr (va_up (fun j => (R a j).map ad) i.toNatClampNeg (some (ad b)))))))) = zworld cs ad T (zwR R a i.toNatClampNeg b) M := by
    refine zworld_set ht ?_ (fun q hq => ⟨rfl, rfl, by simp [zwR, hq]⟩)
    show _ = Sum.inl (cs 3, NN, Sum.inr (Sum.inr (Sum.inr (Sum.inr (fun j => (zwR R a i.toNatClampNeg b a j).map ad)))))
    refine congrArg (fun g => (Sum.inl (cs 3, NN, Sum.inr (Sum.inr (Sum.inr (Sum.inr g)))) : va_E)) (funext fun j => ?_)
    by_cases hj : j = i.toNatClampNeg <;> simp [zwR, va_up, hj]
  refine va_astq (r := (RX2, TX2, 4)) hx hb hK hP hD hS a 3 b 2 (zworld_get ht) rfl (zworld_get hb0) rfl hin d (fun H1 locs1 hP1 hD1 hS1 => ?_)
  exact kk r M' hf hO' hkn H1 locs1 la (by rw [← hset]; exact hP1) (by rw [← hset]; exact hD1) hS1 hl

theorem zx_objInit {o idx : Nat} (d : decode (zcc Y) pc = .ok (.invokespecial idx, 3)) (hlk0 : Cond.methodLink (zown Y) idx Lib.objectInit ∈ zgtbl ∧ Cond.instanceMethod Lib.objectInit ∈ zgtbl ∧ Cond.code Lib.objectInit ⟨#[0xb1]⟩ 1 none ∈ zgtbl) (hroom : 1 ≤ zfr Y ∧ (st.map fun v => v.category).sum + 12 ≤ zlo Y) (kk : zX C Y Q k n f (pc + 3) ls st ad T R M) : zX C Y Q k n f pc ls (.ref o :: st) ad T R M := by
  obtain ⟨p, l, e, Rm, s, m, args, below, meth, c, D, cs, A, K⟩ := C
  intro r M' hf hO hkn H locs la hP hD hS hl
  have hO' := hO
  obtain ⟨hx, hb, hml, hr, hown, hts, hK, hA, hlk, hB, hST, hR1, hR2, hR3, hR4⟩ := hO
  refine W.objInit (rest := st.map (zcv ad)) (a := ad o) hx hb hown (hts _ hlk0.1) (hts _ hlk0.2.1) (hts _ hlk0.2.2) rfl (by rw [hml]; exact hl.1) rfl d (Nat.le_trans hroom.1 hR1) ?_ (kk r M' hf hO' hkn H locs la hP hD hS hl)
  have h9 := zcats ad st
  show 2 * 0 + ((st.map (zcv ad)).map fun v => v.category).sum + 12 ≤ Rm.locals
  rw [h9, Nat.mul_zero, Nat.zero_add]
  exact Nat.le_trans hroom.2 hR2

theorem zx_vretC {T' : zTT} {R' : zRR} {N0 : Nat} {ad0 : Nat → Nat} (d : decode (zcc Y) pc = .ok (.return_, 1)) (h0 : zret Y = none) (hT : T = T') (hR9 : R = R') (hcs : k ≤ zmc Y ∧ n ≤ zms Y) (hag : ∀ o, o < N0 ∨ zBIG ≤ o → ad o = ad0 o) : zX C Y (zFinC C Y ad0 N0 T' R') k n (some ((), M)) pc ls [] ad T R M := by
  subst hT
  subst hR9
  obtain ⟨p, l, e, Rm, s, m, args, below, meth, c, D, cs, A, K⟩ := C
  intro r M' hf hO hkn H locs la hP hD hS hl
  have hO' := hO
  obtain ⟨hx, hb, hml, hr, hown, hts, hK, hA, hlk, hB, hST, hR1, hR2, hR3, hR4⟩ := hO
  cases hf
  refine W.widen hcs.1 hcs.2 ?_
  exact W.vret hx hb (hr.trans h0) (fun t ht hW => ⟨⟨ad, hag, rfl, by rw [ht]; exact hP, hD⟩, hS.F ht⟩) (fun q hq => hS.2.2 q hq) d hlk

def zLI (own : String) (idx : Nat) (y : MethodName) (Y : zMI) (n : Nat) : Prop := zLK own idx y Y n ∧ y.name = "<init>" ∧ Cond.instanceMethod y ∈ zgtbl
theorem zx_callI {y : MethodName} {Yc : zMI} {idx na o N0 : Nat} {fc : Option (Unit × zMem)} {Kf : Unit → zMem → Option (ρ × zMem)} {as : List Value} {T1 : zTT} {R1 : zRR} (d : decode (zcc Y) pc = .ok (.invokespecial idx, 3)) (hm : zMC (zl C) y Yc fc (.ref o :: as) N0 T R M T1 R1) (hlk0 : zLI (zown Y) idx y Yc na) (hret : zret Yc = none) (hroom : zfr Yc + 1 ≤ zfr Y ∧ 8 + (znL Yc + 11) + zlo Yc ≤ zlo Y) (hst : (st.map fun v => v.category).sum ≤ 8) (hna : as.length = na) (hcs : k + zmc Yc ≤ zmc Y ∧ n + zms Yc ≤ zms Y) (hrs : zrefs N0 st) (hrl : zrefs N0 (ls.map (fun q => q.2))) {stk : List Value} (hstk : as.reverse ++ .ref o :: st = stk) (kk : ∀ (M1 : zMem) (ad1 : Nat → Nat), fc = some ((), M1) → (∀ o, o < N0 ∨ zBIG ≤ o → ad1 o = ad o) → zX C Y Q (k + zmc Yc) (n + zms Yc) (Kf () M1) (pc + 3) ls st ad1 T1 R1 M1) : zX C Y Q k n (zcl fc Kf) pc ls stk ad T R M := by
  obtain ⟨p, l, e, Rm, s, m, args, below, meth, c, D, cs, A, K⟩ := C
  intro r M' hf hO hkn H locs la hP hD hS hl
  have hO' := hO
  obtain ⟨hx, hb, hml, hr, hown, hts, hK, hA, hlk, hB, hST, hR1, hR2, hR3, hR4⟩ := hO
  obtain ⟨r1, M1, hfc, hf⟩ := zcl_some hf
  have hM := hm M1 hfc D cs ad K H.size
  have hfree : ∀ q, va_A (zworld cs ad T R M) H.size q → A q := fun q hq => by
    rcases hq with ⟨i, e0, hq⟩ | hq
    · exact hD.2 i (q, e0) hq
    · exact hA q (Nat.le_trans hS.1 hq)
  obtain ⟨⟨hlink, hini, hcode, hmh, hpar⟩, hnm, hin⟩ := hlk0
  have hws : ∀ w ∈ zwsM y Yc, ∀ (a' : Array Value) (U : State), s.WarmedH U.vm → w.before a' U = true := pay_in hts (fun w hw => (List.mem_cons.mp hw).elim (fun h => by rw [h]; exact zg_in _ hcode) (fun h => zg_in w h))
  have hstc : ((st.map (zcv ad)).map fun v => v.category).sum ≤ 8 := by rw [zcats]; exact hst
  have hfr : zfr Yc + 1 ≤ Rm.frames := Nat.le_trans hroom.1 hR1
  have hlo : 8 + (znL Yc + 11) + zlo Yc ≤ Rm.locals := Nat.le_trans hroom.2 hR2
  have hcs2 : k + zmc Yc ≤ Rm.cells ∧ n + zms Yc ≤ Rm.slots := ⟨Nat.le_trans hcs.1 hR3, Nat.le_trans hcs.2 hR4⟩
  have hps : (F0 m pc la (stk.map (zcv ad))).stack = (as.map (zcv ad)).reverse ++ .ref (ad o) :: st.map (zcv ad) := by
    subst hstk
    simp [List.map_append, List.map_reverse, zcv]
  have hPc : ∀ U : State, U.heap = H → s.WarmedH U.vm → va_Pc ((.ref o :: as).map (zcv ad)) (zPre D cs ad K H.size T R M) (Value.ref (ad o) :: as.map (zcv ad)).toArray U := (fun U hU hW => ⟨rfl, by rw [hU], by rw [hU]; exact hP, va_K.moved hW.alike hK, hD.weaken (fun _ _ _ _ => trivial), ((by rw [hU]; exact (hB.kept hS.2.1).moved hW.alike : zBG K zlenJS zbytJS A U U.heap)).narrow hfree, hST.warm hW, hkn.2.2⟩)
  rw [hret] at hcode
  have hrun : va_Run p l e Rm s m args below meth c H locs k n (zmc Yc) (zms Yc) (F0 m pc la (stk.map (zcv ad))) (st.map (zcv ad)) (zQC D cs ad N0 T1 R1 (va_A (zworld cs ad T R M) H.size) M1 (Value.ref (ad o) :: as.map (zcv ad)).toArray) (va_A (zworld cs ad T R M) H.size) := by
    rcases hlink with hlink | ⟨host, hlink⟩
    · exact va_runI (n := na) (bytes := zcc Yc) (maxL := znL Yc) ⟨hx, hb, hml, hown, hts⟩ hM ⟨⟨rfl, rfl, hfr, hlo, hws, by unfold zwsM; rw [hret]; exact List.mem_cons_self, hts _ hcode, hts _ hini, hmh, zparam hpar, hts _ hlink⟩, hnm, hts _ hin⟩ ⟨zpre_blind, hPc⟩ rfl (by rw [List.length_map]; exact hna) hl.1 hps (lv_room hstc) d hcs2
    · exact va_runIN (n := na) (bytes := zcc Yc) (maxL := znL Yc) ⟨hx, hb, hml, hown, hts⟩ hM ⟨⟨⟨rfl, rfl, hfr, hlo, hws, by unfold zwsM; rw [hret]; exact List.mem_cons_self⟩, hts _ hcode, hts _ hini, hmh, zparam hpar, va_Nw.use (znw_onT rfl) (hST.2.1 _ hlink)⟩, hnm, hts _ hin⟩ ⟨zpre_blind, hPc⟩ rfl (by rw [List.length_map]; exact hna) hl.1 hps (lv_room hstc) d hcs2
  intro T0 hT0 X0
  obtain ⟨v, st₀, t, T', L, h0, X', hL, e1, e2, ⟨⟨ad1, hag, hv, hP1, hD1⟩, hz, hk⟩, stp⟩ := hrun T0 hT0 X0
  rw [h0] at hz hk
  cases hv
  have h2 : va_P D zClasses (zworld cs ad1 T1 R1 M1) T'.heap := by rw [e1]; exact hP1
  have h3 : va_D A (zworld cs ad1 T1 R1 M1) := hD1.weaken (fun _ _ _ h => hfree _ h)
  have h4 : va_S A s.heap T'.heap (locs ++ L) := ⟨Nat.le_trans hS.1 (by rw [e1]; exact hz), fun q q1 q2 => by rw [e1, hk q (Nat.lt_of_lt_of_le q1 hS.1) (fun z => q2 (hfree q z))]; exact hS.2.1 q q1 q2, fun q hq => by
      rcases List.mem_append.mp hq with h | h
      · exact hS.2.2 q h
      · exact hfree _ (hL q h)⟩
  obtain ⟨t2, a1, b1⟩ := kk M1 ad1 hfc hag r M' hf hO' ⟨hcs2.1, hcs2.2, hkn.2.2.ag hag⟩ T'.heap (locs ++ L) la h2 h3 h4 (by rw [zlm_eq hag hrl]; exact hl) T' rfl X'
  refine ⟨t2, stp t2 ?_, b1⟩
  rw [zmap_eq hag hrs] at a1
  exact a1

end ZX
