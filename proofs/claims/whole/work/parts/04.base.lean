/-! A WHOLE WORLD: the cells are numbered; T says of what sort each is, R where its references go, M what its numbers are. -/
abbrev zMem : Type := (Nat → Nat → Int32) × (Nat → Nat → Int64)
abbrev zTT : Type := List (Nat × Nat)
abbrev zRR : Type := Nat → Nat → Option Nat
abbrev zClasses : List vw_C := [(RX0, TX0, 8), (RX1, TX1, 1), (RX2, TX2, 4), (RX3, TX3, 2), (RX4, TX4, 6), (RX5, TX5, 3), (RX6, TX6, 11), (RX7, TX7, 12), (RX8, TX8, 6), (RX9, TX9, 2), (RX10, TX10, 12), (RX11, TX11, 14), (RX12, TX12, 52)]
/-- a reference to the cell of number a, at its address -/
def zcv (ad : Nat → Nat) : Value → Value
  | .ref a => .ref (ad a)
  | v => v
/-- of what kind a class's fields are: 0 a number or truth value, 1 a long, 2 a reference -/
def zkinds (ci : Nat) : List Nat := match ci with
  | 0 => [2, 2, 0, 0, 0, 0, 0, 0]
  | 1 => [0]
  | 2 => [2, 2, 2, 0]
  | 3 => [2, 2]
  | 4 => [2, 2, 2, 2, 0, 0]
  | 5 => [2, 0, 0]
  | 6 => [2, 2, 2, 2, 2, 2, 2, 0, 2, 2, 0]
  | 7 => [0, 0, 0, 0, 0, 0, 2, 2, 2, 2, 2, 0]
  | 8 => [0, 0, 2, 2, 2, 2]
  | 9 => [2, 0]
  | 10 => [2, 0, 0, 0, 0, 0, 0, 1, 0, 0, 0, 2]
  | 11 => [2, 2, 2, 2, 2, 2, 2, 2, 2, 2, 2, 2, 2, 2]
  | _ => [0, 2, 0, 0, 0, 0, 0, 0, 0, 0, 0, 0, 1, 0, 2, 2, 2, 2, 2, 2, 2, 2, 2, 2, 2, 0, 0, 2, 2, 2, 2, 0, 0, 2, 2, 0, 2, 2, 0, 0, 2, 0, 0, 2, 2, 0, 0, 2, 0, 0, 0, 0]
def zfv (ad : Nat → Nat) (R : zRR) (M : zMem) (o k kind : Nat) : Value := match kind with
  | 0 => .int (M.1 o k)
  | 1 => .long (M.2 o k)
  | _ => va_rf ((R o k).map ad)
def zcell (cs : Nat → ClassId) (ad : Nat → Nat) (R : zRR) (M : zMem) (o : Nat) (t : Nat × Nat) : va_E := match t.1 with
  | 0 => .inr (t.2, (zkinds t.2).mapIdx (fun k a => zfv ad R M o k a))
  | 1 => .inl (cs 0, t.2, .inl (M.1 o))
  | 2 => .inl (cs 1, t.2, .inr (.inl (M.2 o)))
  | 3 => .inl (cs 2, t.2, .inl (M.1 o))
  | 4 => .inl (cs 3, t.2, .inr (.inr (.inr (.inr (fun j => (R o j).map ad)))))
  | _ => .inl (cs 4, t.2, .inr (.inr (.inr (.inr (fun j => (R o j).map ad)))))
def ztys (cs : Nat → ClassId) : List (ClassId × FieldType) := [(cs 0, .int), (cs 1, .long), (cs 2, .boolean), (cs 3, .object "BathMinutes$Image"), (cs 4, .array .int)]
def zworld (cs : Nat → ClassId) (ad : Nat → Nat) (T : zTT) (R : zRR) (M : zMem) : va_W := T.mapIdx (fun o t => (ad o, zcell cs ad R M o t))
theorem zworld_get {cs : Nat → ClassId} {ad : Nat → Nat} {T : zTT} {R : zRR} {M : zMem} {o : Nat} {t : Nat × Nat} (h : T[o]? = some t) : (zworld cs ad T R M)[o]? = some (ad o, zcell cs ad R M o t) := by
  unfold zworld
  rw [List.getElem?_mapIdx, h]
  rfl
theorem zworld_len {cs : Nat → ClassId} {ad : Nat → Nat} {T : zTT} {R : zRR} {M : zMem} : (zworld cs ad T R M).length = T.length := by
  unfold zworld
  rw [List.length_mapIdx]
theorem zcell_congr {cs : Nat → ClassId} {ad : Nat → Nat} {R R' : zRR} {M M' : zMem} {o : Nat} {t : Nat × Nat} (h1 : M.1 o = M'.1 o) (h2 : M.2 o = M'.2 o) (h3 : R o = R' o) : zcell cs ad R M o t = zcell cs ad R' M' o t := by
  unfold zcell zfv
  rw [h1, h2, h3]
theorem zworld_set {cs : Nat → ClassId} {ad : Nat → Nat} {T : zTT} {R R' : zRR} {M M' : zMem} {o : Nat} {t : Nat × Nat} {e : va_E} (ht : T[o]? = some t) (he : e = zcell cs ad R' M' o t) (h : ∀ q, q ≠ o → M.1 q = M'.1 q ∧ M.2 q = M'.2 q ∧ R q = R' q) : (zworld cs ad T R M).set o (ad o, e) = zworld cs ad T R' M' := by
  apply List.ext_getElem?
  intro j
  by_cases hj : o = j
  · subst hj
    have hl : o < (zworld cs ad T R M).length := by rw [zworld_len]; exact (List.getElem?_eq_some_iff.mp ht).1
    rw [List.getElem?_set_self hl, zworld_get ht, he]
  · rw [List.getElem?_set_ne hj]
    unfold zworld
    rw [List.getElem?_mapIdx, List.getElem?_mapIdx]
    cases hT : T[j]? with
    | none => rfl
    | some t2 =>
      obtain ⟨a, b, c⟩ := h j (fun e => hj e.symm)
      show some (ad j, zcell cs ad R M j t2) = some (ad j, zcell cs ad R' M' j t2)
      rw [zcell_congr a b c]
/-- what is written -/
def zrowI (M : zMem) (o : Nat) (g : Nat → Int32) : zMem := (fun a => if a = o then g else M.1 a, M.2)
def zrowL (M : zMem) (o : Nat) (g : Nat → Int64) : zMem := (M.1, fun a => if a = o then g else M.2 a)
def zwI (M : zMem) (o k : Nat) (v : Int32) : zMem := zrowI M o (upd (M.1 o) k v)
def zwL (M : zMem) (o k : Nat) (v : Int64) : zMem := zrowL M o (vp_updL (M.2 o) k v)
def zrf (R : zRR) (o k : Nat) : Nat := (R o k).getD 0
theorem zrowI_ne {M : zMem} {o : Nat} {g : Nat → Int32} : ∀ q, q ≠ o → M.1 q = (zrowI M o g).1 q := fun q h => by simp [zrowI, h]
theorem zrowL_ne {M : zMem} {o : Nat} {g : Nat → Int64} : ∀ q, q ≠ o → M.2 q = (zrowL M o g).2 q := fun q h => by simp [zrowL, h]
theorem zrowI_self {M : zMem} {o : Nat} {g : Nat → Int32} : (zrowI M o g).1 o = g := by simp [zrowI]
theorem zrowL_self {M : zMem} {o : Nat} {g : Nat → Int64} : (zrowL M o g).2 o = g := by simp [zrowL]
/-- what lies behind the world and stays: the texts, and what exceptions need of statics -/
def zZq (K : (Nat → Nat) × (Nat → Nat)) (A : Nat → Prop) (U : State) (H : Heap) : Prop := va_Z "jdk/internal/util/Preconditions" "SIOOBE_FORMATTER" "Ljava/util/function/BiFunction;" .null A U H ∨ va_Z "jdk/internal/util/Preconditions" "SIOOBE_FORMATTER" "Ljava/util/function/BiFunction;" (.ref (K.2 5)) A U H
def zBG (K : (Nat → Nat) × (Nat → Nat)) (len : List Nat) (byt : List (List Int32)) (A : Nat → Prop) (U : State) (H : Heap) : Prop := vk_S 5 len byt K.1 K.2 A U H ∧ vx_Zq Bundle.tN "UNASSIGNED_STACK" Bundle.steD A U H ∧ vx_Zq Bundle.tN "SUPPRESSED_SENTINEL" Bundle.listD A U H ∧ va_Z "java/lang/String" "COMPACT_STRINGS" "Z" (.int 1) A U H ∧ zZq K A U H
theorem zBG.moved {K : (Nat → Nat) × (Nat → Nat)} {len : List Nat} {byt : List (List Int32)} {A : Nat → Prop} {u U : State} {H : Heap} (hvm : u.vm.Alike U.vm) (h : zBG K len byt A u H) : zBG K len byt A U H := ⟨h.1.moved hvm, h.2.1.moved hvm, h.2.2.1.moved hvm, h.2.2.2.1.moved hvm, h.2.2.2.2.elim (fun q => Or.inl (q.moved hvm)) (fun q => Or.inr (q.moved hvm))⟩
theorem zBG.kept {K : (Nat → Nat) × (Nat → Nat)} {len : List Nat} {byt : List (List Int32)} {A : Nat → Prop} {U : State} {H H1 : Heap} (h : zBG K len byt A U H) (hq : ∀ a : Nat, a < H.size → ¬ A a → H1[a]? = H[a]?) : zBG K len byt A U H1 := ⟨h.1.kept hq, h.2.1.kept hq, h.2.2.1.kept hq, h.2.2.2.1.kept hq, h.2.2.2.2.elim (fun q => Or.inl (q.kept hq)) (fun q => Or.inr (q.kept hq))⟩
theorem zBG.narrow {K : (Nat → Nat) × (Nat → Nat)} {len : List Nat} {byt : List (List Int32)} {A B : Nat → Prop} {U : State} {H : Heap} (h : zBG K len byt A U H) (hAB : ∀ q, B q → A q) : zBG K len byt B U H := ⟨h.1.narrow hAB, h.2.1.narrow hAB, h.2.2.1.narrow hAB, h.2.2.2.1.narrow hAB, h.2.2.2.2.elim (fun q => Or.inl (q.narrow hAB)) (fun q => Or.inr (q.narrow hAB))⟩
/-- the tables' words that bear a call -/
def zgtbl : List Cond := lw_tbl.filter goodWord
theorem zg_mem {w : Cond} (h : w ∈ lw_tbl) (hg : goodWord w = true) : w ∈ zgtbl := List.mem_filter.mpr ⟨h, hg⟩
theorem zg_in : GoodIn zgtbl zgtbl := fun w h => ⟨h, good_of_word (List.mem_filter.mp h).2⟩
/-- a method: its class, its bytes, its locals, what it returns, the room that it asks: frames, locals, cells, slots -/
abbrev zMI : Type := String × ByteArray × Nat × Option FieldType × Nat × Nat × Nat × Nat
/-- where a method stands -/
abbrev zCx : Type := Program × Launch × Env × Room × State × MethodId × Array Value × List Frame × Method × Code × va_G × (Nat → ClassId) × (Nat → Prop) × ((Nat → Nat) × (Nat → Nat))
def zlm (ad : Nat → Nat) (ls : List (Nat × Value)) : List (Nat × Value) := ls.map (fun q => (q.1, zcv ad q.2))
