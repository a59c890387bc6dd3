/-! THE CLAIM OUT OF ONE WALK OF THE LAW'S BODY. Your part is whole_start (and what it stands on); all else here is the same for every law, but numbers. -/
def R_law : String := "BathMinutesLaw"
def lw_P (b : Addr) (xs : List Int32) (args : Array Value) (s : State) : Prop := args = #[.ref b] ∧ s.IntsAt b xs ∧ xs.length ≤ 3072 ∧ (Jvm.Cond.and given_1 narrow_1).before args s = true
def lw_Q (_ : Array Value) (s : State) (o : Outcome) (t : State) : Prop := o = .returned (some (.int 1)) ∧ Framed s o t [] 601024 7293034
def lw_Z (below : List Frame) (a : Array Value) (s : State) : State → Prop := fun t => ∃ o, t.status = .running ∧ Ended t below o ∧ lw_Q a s o t
/-- the law's own end, with 1 on the stack, nothing written that was there before, its room as the claim has it -/
theorem lw_ret {p : Program} {l : Launch} {e : Env} {s : State} {m : MethodId} {below : List Frame} {meth : Method} {c : Code} {b : Nat} (hx : p.tables.exec = Jvm.exec) (hb : c.code = code) (hr : meth.sig.returnType = ret) (hlocks : meth.locks = false) {pc : Nat} {H : Heap} {ls : Array Slot} (hdg : decode code pc = .ok (.ireturn, 1)) : W p l e room_1 s m #[Value.ref b] below meth c H [] 601024 7293034 (lw_Z below #[Value.ref b] s) (F0 m pc ls [.int 1]) := by
  intro T hT X
  obtain ⟨fs, hret, hrun, hended, hW, hframe⟩ := X.leave (v := some (.int 1)) (hlocks := hlocks) (fun h => by rw [hr] at h; cases h)
  have hmeth' : T.vm.method? m = some meth := X.method'
  refine ⟨T.setFrames fs, ?_, .returned (some (.int 1)), hrun, hended, rfl, ⟨_, rfl⟩, hW, hframe⟩
  jvm_step X.here [X.here.top, hx, hb, hdg, hmeth', hr, ret, narrow_b1]
  (try refine ⟨rfl, ?_⟩); (try refine ⟨rfl, ?_⟩)
  first | (intro acts; rw [hret _ acts rfl rfl rfl]) | rw [hret _ _ rfl rfl rfl]
  exact Steps.refl _
/-- what holds at the law's entry: the machine, the code, the tables' words (any of lw_tbl by 'hts w (by decide +kernel)'), the script of L ints xs at the cell b, what the Statement gives of the start (any of its parts by flat_of_before) -/
def lw_At (p : Program) (s : State) (m : MethodId) (meth : Method) (c : Code) (b L : Nat) (xs : Nat → Int32) : Prop :=
  p.tables.exec = Jvm.exec ∧ c.code = code ∧ meth.sig.returnType = ret ∧ c.maxLocals = 7 ∧ s.vm.findClass R_law = some m.cls ∧ (∀ w ∈ lw_tbl, w.before #[Value.ref b] s = true) ∧ va_X b L xs s s.heap ∧ b < s.heap.size ∧ meth.locks = false ∧ (Jvm.Cond.and given_1 narrow_1).before #[Value.ref b] s = true
-- ===== YOUR PART BEGINS =====
theorem zInst : ∀ (ci : Nat) (r : vw_C), zClasses[ci]? = some r → Cond.instantiable r.1 r.2.2 ∈ zgtbl := by
  intro ci q h
  have hm : q ∈ zClasses := List.mem_of_getElem? h
  have key : ∀ q ∈ zClasses, Cond.instantiable q.1 q.2.2 ∈ lw_tbl ∧ goodWord (Cond.instantiable q.1 q.2.2) = true := by decide +kernel
  exact zg_mem (key q hm).1 (key q hm).2
theorem zK_start {s : State} {args : Array Value} (hts : ∀ w ∈ zgtbl, w.before args s = true) (hAO : va_AO "BathMinutes$Image" s) (hAOA : va_AOA .int s) : ∃ (D : va_G) (cs : Nat → ClassId), va_K D zClasses (ztys cs) s := by
  have h0 : ∀ ci : Nat, ∃ q : ClassId × (Nat → Nat), ∀ r, zClasses[ci]? = some r → u_Kn s r.1 r.2.1 r.2.2 q.1 q.2 := by
    intro ci
    cases hr : zClasses[ci]? with
    | none => exact ⟨((0 : Nat), fun _ => 0), fun r h => by cases h⟩
    | some r =>
      obtain ⟨cC, iS, h⟩ := u_known hts (zin ci r hr) (hts _ (zInst ci r hr))
      exact ⟨(cC, iS), fun r' h' => by cases h'; exact h⟩
  obtain ⟨g, hg⟩ := Classical.axiomOfChoice h0
  obtain ⟨c0, k0, p0, a0, b0, d0⟩ := Cond.arrayClass_spec (hts _ la9_I)
  obtain ⟨c1, k1, p1, a1, b1, d1⟩ := Cond.arrayClass_spec (hts _ la9_L)
  obtain ⟨c2, k2, p2, a2, b2, d2⟩ := Cond.arrayClass_spec (hts _ la9_Z)
  obtain ⟨p3, c3, k3, e3, _, b3, d3, a3⟩ := Cond.arrayOver_spec (show (Cond.arrayOver (.object "BathMinutes$Image")).holds #[] s none s [] = true from hAO)
  obtain ⟨p4, c4, k4, _, _, b4, d4, a4⟩ := zoverA_spec (show (Cond.arrayOver (.array .int)).holds #[] s none s [] = true from hAOA)
  refine ⟨(fun i => (g i).1, fun i => (g i).2), fun i => match i with | 0 => c0 | 1 => c1 | 2 => c2 | 3 => c3 | _ => c4, fun ci r hr => hg ci r hr, fun k q hq => ?_⟩
  match k, hq with
  | 0, hq => cases hq; exact ⟨fun n z => ⟨(fun k h => by cases h), k0, b0, p0, d0⟩, a0⟩
  | 1, hq => cases hq; exact ⟨fun n z => ⟨(fun k h => by cases h), k1, b1, p1, d1⟩, a1⟩
  | 2, hq => cases hq; exact ⟨fun n z => ⟨(fun k h => by cases h), k2, b2, p2, d2⟩, a2⟩
  | 3, hq => cases hq; exact ⟨fun n z => ⟨(fun k h => by cases h), k3, b3, p3, d3⟩, ⟨k3, p3, b3, d3, e3, a3⟩⟩
  | 4, hq => cases hq; exact ⟨fun n z => ⟨(fun k h => by cases h), k4, b4, p4, d4⟩, a4⟩
  | k + 5, hq => simp [ztys] at hq
abbrev ztm (i : Nat) : Term := Term.string (zsO i) (zsK i)
abbrev zFl : List Cond := flatC (Jvm.Cond.and given_1 narrow_1)
theorem zfl_1 : ∀ i, i < 5 → Cond.exactly (ztm i) "java/lang/String" ∈ zFl := by decide +kernel
theorem zfl_2 : ∀ i, i < 5 → Cond.eq (.field (ztm i) "java/lang/String" "coder" "B") (.int 0) ∈ zFl := by decide +kernel
theorem zfl_3 : ∀ i, i < 5 → Cond.arrayOf (.field (ztm i) "java/lang/String" "value" "[B") .byte ∈ zFl := by decide +kernel
theorem zfl_4 : ∀ i, i < 5 → Cond.eq (.length (.field (ztm i) "java/lang/String" "value" "[B")) (.int (Int32.ofNat (zlenJS.getD i 0))) ∈ zFl := by decide +kernel
def zwd (i j : Nat) : Cond := Cond.eq (.elem (.field (ztm i) "java/lang/String" "value" "[B") (.int (Int32.ofNat j))) (.int ((zbytJS.getD i []).getD j 0))
def zst9 (i : Nat) : Nat := match i with | 0 => 28 | 1 => 160 | 2 => 171 | 3 => 182 | _ => 196
theorem zfl_5_0 : (zFl.drop (zst9 0)).take (zlenJS.getD 0 0) = (List.range (zlenJS.getD 0 0)).map (zwd 0) := by decide +kernel
theorem zfl_5_1 : (zFl.drop (zst9 1)).take (zlenJS.getD 1 0) = (List.range (zlenJS.getD 1 0)).map (zwd 1) := by decide +kernel
theorem zfl_5_2 : (zFl.drop (zst9 2)).take (zlenJS.getD 2 0) = (List.range (zlenJS.getD 2 0)).map (zwd 2) := by decide +kernel
theorem zfl_5_3 : (zFl.drop (zst9 3)).take (zlenJS.getD 3 0) = (List.range (zlenJS.getD 3 0)).map (zwd 3) := by decide +kernel
theorem zfl_5_4 : (zFl.drop (zst9 4)).take (zlenJS.getD 4 0) = (List.range (zlenJS.getD 4 0)).map (zwd 4) := by decide +kernel
theorem zfl_5 : ∀ i, i < 5 → ∀ j, j < zlenJS.getD i 0 → Cond.eq (.elem (.field (ztm i) "java/lang/String" "value" "[B") (.int (Int32.ofNat j))) (.int ((zbytJS.getD i []).getD j 0)) ∈ zFl := by
  intro i hi j hj
  have h : (zFl.drop (zst9 i)).take (zlenJS.getD i 0) = (List.range (zlenJS.getD i 0)).map (zwd i) := by
    match i, hi with
    | 0, _ => exact zfl_5_0
    | 1, _ => exact zfl_5_1
    | 2, _ => exact zfl_5_2
    | 3, _ => exact zfl_5_3
    | 4, _ => exact zfl_5_4
  have h2 : zwd i j ∈ (zFl.drop (zst9 i)).take (zlenJS.getD i 0) := by
    rw [h]
    exact List.mem_map.mpr ⟨j, List.mem_range.mpr hj, rfl⟩
  exact List.mem_of_mem_drop (List.mem_of_mem_take h2)
theorem zfl_6 : ∀ i, i < 5 → ∀ j, j < 5 → i ≠ j → (Cond.not (Cond.eq (ztm i) (ztm j)) ∈ zFl ∨ Cond.not (Cond.eq (ztm j) (ztm i)) ∈ zFl) := by decide +kernel
theorem zfl_7 : Cond.eq (.static "java/lang/String" "COMPACT_STRINGS" "Z") (.int 1) ∈ zFl ∧ Cond.isRef (.static "jdk/internal/util/Preconditions" "SIOOBE_FORMATTER" "Ljava/util/function/BiFunction;") ∈ zFl ∧ Cond.isRef (.static Bundle.tN "UNASSIGNED_STACK" Bundle.steD) ∈ zFl ∧ Cond.isRef (.static Bundle.tN "SUPPRESSED_SENTINEL" Bundle.listD) ∈ zFl := by decide +kernel
theorem zfl_8 : ∀ i, i < 5 → Cond.stringRef (zsO i) (zsK i) (zsT i) ∈ lw_tbl := by decide +kernel
theorem zfl_9 : (∀ w ∈ zNest, w ∈ lw_tbl) ∧ ∀ w ∈ zXW, w ∈ lw_tbl := by decide +kernel
theorem zfl_10 : Cond.laysStatic "java/lang/String" "COMPACT_STRINGS" "Z" ∈ lw_tbl ∧ Cond.initialized "java/lang/String" ∈ lw_tbl ∧ Cond.laysStatic "jdk/internal/util/Preconditions" "SIOOBE_FORMATTER" "Ljava/util/function/BiFunction;" ∈ lw_tbl ∧ Cond.initialized "jdk/internal/util/Preconditions" ∈ lw_tbl ∧ Cond.laysStatic Bundle.tN "UNASSIGNED_STACK" Bundle.steD ∈ lw_tbl ∧ Cond.laysStatic Bundle.tN "SUPPRESSED_SENTINEL" Bundle.listD ∈ lw_tbl ∧ Cond.initialized Bundle.tN ∈ lw_tbl ∧ Cond.arrayOver (.object "BathMinutes$Image") ∈ lw_tbl ∧ Cond.arrayOver (.array .int) ∈ lw_tbl := by decide +kernel
/-- what lies behind the world, at the start -/
theorem zBG_start {s : State} {args : Array Value} (hts : ∀ w ∈ lw_tbl, w.before args s = true) (hfl : ∀ w ∈ zFl, w.before args s = true) : ∃ K : (Nat → Nat) × (Nat → Nat), zBG K zlenJS zbytJS (fun q => s.heap.size ≤ q) s s.heap ∧ zST K s := by
  have hA : ∀ a : Nat, a < s.heap.size → ¬ (s.heap.size ≤ a) := fun a h => by omega
  obtain ⟨y1, y2, y3, y4, y5, y6, y7, y8, y9⟩ := zfl_10
  obtain ⟨x1, x2, x3, x4⟩ := zfl_7
  obtain ⟨adK, adV, hS, hev⟩ := vk_Sof (args := args) (s := s) (N := 5) (tm := ztm) (len := zlenJS) (byt := zbytJS) (A := fun q => s.heap.size ≤ q) (by decide) (fun i hi => hfl _ (zfl_1 i hi)) (fun i hi => hfl _ (zfl_2 i hi)) (fun i hi => hfl _ (zfl_3 i hi)) (fun i hi => hfl _ (zfl_4 i hi)) (fun i hi j hj => hfl _ (zfl_5 i hi j hj)) (fun i j hi hj hij => (zfl_6 i hi j hj hij).imp (hfl _) (hfl _)) hA
  have hq := va_Zqof (A := fun q => s.heap.size ≤ q) (hts _ y3) (hts _ y4) (hfl _ x2) hA
  obtain ⟨t, ht⟩ : ∃ t : Nat, va_Z "jdk/internal/util/Preconditions" "SIOOBE_FORMATTER" "Ljava/util/function/BiFunction;" .null (fun q => s.heap.size ≤ q) s s.heap ∨ va_Z "jdk/internal/util/Preconditions" "SIOOBE_FORMATTER" "Ljava/util/function/BiFunction;" (.ref t) (fun q => s.heap.size ≤ q) s s.heap := by
    rcases hq with h | ⟨t, h⟩
    · exact ⟨0, Or.inl h⟩
    · exact ⟨t, Or.inr h⟩
  obtain ⟨va, h5, hlt⟩ : ∃ va : Nat → Nat, va 5 = t ∧ ∀ i, i < 5 → va i = adV i := ⟨fun i => if i = 5 then t else adV i, by simp, fun i hi => by
    show (if i = 5 then t else adV i) = adV i
    rw [if_neg (by omega)]⟩
  refine ⟨(adK, va), ⟨⟨fun i hi => ?_, hS.2⟩, vx_Zqof (hts _ y5) (hts _ y7) (hfl _ x3) hA, vx_Zqof (hts _ y6) (hts _ y7) (hfl _ x4) hA, va_Zof (hts _ y1) (hts _ y2) (va_eqi (hfl _ x1)) hA, ?_⟩, fun i hi => vk_R.of (hts _ (zfl_8 i hi)) (hev i hi), fun w hw => va_Nw.of (znw_onT (List.all_eq_true.mp zNest_all w hw)) (hts w (zfl_9.1 w hw)), fun w hw => va_Nw.of (zxw_onT hw).2 (hts w (zfl_9.2 w hw)), va_AO.of (hts _ y8), va_AOA.of (hts _ y9)⟩
  · have h := hS.1 i hi
    rw [← hlt i hi] at h
    exact h
  · unfold zZq
    show _ ∨ va_Z _ _ _ (.ref (va 5)) _ _ _
    rw [h5]
    exact ht
/-- from the entry, for every script, the law comes to its end with true -/
theorem whole_start {p : Program} {e : Env} {s : State} {m : MethodId} {below : List Frame} {meth : Method} {c : Code} (l : Launch) (hflags : l.flags = flags0) {b L : Nat} {xs : Nat → Int32} (hL : L ≤ 3072) (C0 : lw_At p s m meth c b L xs) : W p l e room_1 s m #[Value.ref b] below meth c s.heap [] 0 0 (lw_Z below #[Value.ref b] s) (entryFrame m ([Value.ref b] : List Value).toArray 7) := by
  obtain ⟨hx, hb, hret, hml, hown, hts, hX, hbl, hlk, hgv⟩ := C0
  have hgt : ∀ w ∈ zgtbl, w.before #[.ref b] s = true := fun w hw => hts w (List.mem_filter.mp hw).1
  obtain ⟨K, hB, hST⟩ := zBG_start hts (flat_of_before _ hgv)
  obtain ⟨D, cs, hK⟩ := zK_start hgt hST.2.2.2.1 hST.2.2.2.2
  obtain ⟨M9, hpure⟩ := law_pure L xs hL
  have hst : l.stackTraces = false := by
    show (!l.flags.contains noTraceFlag) = false
    rw [hflags]
    decide +kernel
  obtain ⟨ad, ha0, ha1, ha2⟩ : ∃ ad : Nat → Nat, ad (zBIG + 60) = b ∧ (∀ i, i < 5 → ad (zBIG + i) = K.1 i) ∧ ∀ i, i < 6 → ad (zBIG + 10 + i) = K.2 i := by
    refine ⟨fun o => if o = zBIG + 60 then b else if zBIG + 10 ≤ o then K.2 (o - (zBIG + 10)) else K.1 (o - zBIG), by simp, fun i hi => ?_, fun i hi => ?_⟩
    · show (if zBIG + i = zBIG + 60 then b else if zBIG + 10 ≤ zBIG + i then K.2 (zBIG + i - (zBIG + 10)) else K.1 (zBIG + i - zBIG)) = _
      rw [if_neg (by omega), if_neg (by omega), Nat.add_sub_cancel_left]
    · show (if zBIG + 10 + i = zBIG + 60 then b else if zBIG + 10 ≤ zBIG + 10 + i then K.2 (zBIG + 10 + i - (zBIG + 10)) else K.1 (zBIG + 10 + i - zBIG)) = _
      rw [if_neg (by omega), if_pos (by omega), Nat.add_sub_cancel_left]
  have hw := zlaw_walk (C := (p, l, e, room_1, s, m, #[Value.ref b], below, meth, c, D, cs, (fun q => s.heap.size ≤ q), K)) (ad := ad) (Q := fun _ _ => lw_Z below #[Value.ref b] s) (L := L) (xs := xs) hst ⟨by rw [ha0]; exact hX, by rw [ha0]; exact hbl, by rw [ha0]; omega⟩ (fun ad k n T R M h1 h2 r M' hf hO hkn H locs la hP hD hS hl => W.widen h1 h2 (va_forget (fun q hq => hS.2.2 q hq) (lw_ret (b := b) hx hb hret hlk (zd me_L_law_21 3 rfl))))
  have hle := lv_entry ([Value.ref b] : List Value) (n := 7) (show 1 ≤ 7 by omega)
  rw [lg_entry_eq]
  generalize (lg_sl ([Value.ref b] : List Value) ++ List.replicate (7 - (lg_sl ([Value.ref b] : List Value)).length) Slot.unset).toArray = la at hle ⊢
  refine hw 1 M9 hpure ⟨hx, hb, hml, hret, hown, hgt, hK, fun q h => h, hlk, hB, hST, Nat.le_of_ble_eq_true rfl, Nat.le_of_ble_eq_true rfl, Nat.le_of_ble_eq_true rfl, Nat.le_of_ble_eq_true rfl⟩ ⟨Nat.zero_le _, Nat.zero_le _, ha1, ha2⟩ s.heap [] la ?_ ?_ va_S.rf ?_
  · intro k q hk
    simp [zworld] at hk
  · exact ⟨fun i j p q h => by simp [zworld] at h, fun k q h => by simp [zworld] at h⟩
  · show lv_has la 7 [(0, .ref (ad (zBIG + 60)))]
    rw [ha0]
    exact hle
-- ===== YOUR PART ENDS =====
set_option maxHeartbeats 4000000 in
theorem lw_walk (l : Launch) (hflags : l.flags = flags0) (b : Addr) (xs : List Int32) : MetFree l x (headSpec (Jvm.Cond.code x code maxLocals ret :: tables_1) room_1) (lw_P b xs) (fun _ _ _ _ _ => True) lw_Q := by
  refine MetFree.of_bodyS (code := code) (maxLocals := maxLocals) (ret := ret) (by decide) ?_ ?_
  · intro args s m h hn
    obtain ⟨meth, c, h1, h2, h3, h4, h5, h6, -, -⟩ := Cond.code_spec hn (atoms_spec (ws := Jvm.Cond.code x code maxLocals ret :: tables_1) h _ List.mem_cons_self)
    exact ⟨meth, c, h1, h2, h3, h4, h5, h6⟩
  · intro p e s m args below meth c s₁ B hml0 hP _
    obtain ⟨rfl, hx, hbd, hgv⟩ := hP
    obtain ⟨scr, harrAt, hlist, hof, hsmall⟩ := hx
    obtain ⟨hcb, hkn, -, -⟩ := State.arrayAt?_spec harrAt
    have hown : s.vm.findClass R_law = some m.cls := findClass_of_methodNamed B.named
    have hts0 : ∀ c ∈ (Jvm.Cond.code x code maxLocals ret :: tables_1), c.before #[Value.ref b] s = true := atoms_spec (ws := Jvm.Cond.code x code maxLocals ret :: tables_1) B.pre
    have hts : ∀ w ∈ lw_tbl, w.before #[Value.ref b] s = true := k2_hts_sels lw_privs (fun w hw => hts0 w (List.mem_cons_of_mem _ hw)) lw_privs_ok
    have hml : c.maxLocals = 7 := B.maxLocals_eq (hts0 _ List.mem_cons_self)
    have X₀ : Stand p l e room_1 s m #[Value.ref b] below meth c s₁ [] 0 0 := Stand.of_body B
    have hh0 : s₁.heap = s.heap := by rw [B.state]; rfl
    have hsz : scr.slots.size = xs.length := by rw [← Array.length_toList, hlist, List.length_map]
    have hval : ∀ j : Nat, j < xs.length → scr.slots[j]? = some (.int (xs.getD j 0)) := fun j hj => by
      rw [← Array.getElem?_toList, hlist]
      simp [hj]
    have hbl : b < s.heap.size := (Array.getElem?_eq_some_iff.mp hcb).1
    have hX : va_X b xs.length (fun j => xs.getD j 0) s s.heap := ⟨scr, hcb, hof, hkn, hsz, hval⟩
    have K : W p l e room_1 s m #[Value.ref b] below meth c s₁.heap [] 0 0 (lw_Z below #[Value.ref b] s) (entryFrame m ([Value.ref b] : List Value).toArray 7) := by
      rw [hh0]
      exact whole_start l hflags hbd ⟨B.exec, B.bytes, B.returns, hml, hown, hts, hX, hbl, B.notSynchronized, hgv⟩
    obtain ⟨t, a1, o, b1, b2, b3⟩ := K s₁ rfl X₀
    exact ⟨t, o, a1, b1, b2, b3⟩
theorem lw_pre_spec {args : Array Value} {s : State} (h : (Jvm.Cond.and given_1 narrow_1).before args s = true) (hr : rest_1_c.before args s = true) : ∃ (b : Addr) (xs : List Int32), lw_P b xs args s := by
  have hs := flat_of_before _ h
  have hq := flat_of_before _ hr
  have hc : (Cond.count 1).before args s = true := hs _ (by decide +kernel)
  have harr : (Cond.arrayOf (.arg 0) .int).before args s = true := hs _ (by decide +kernel)
  have hle : (Cond.le (.length (.arg 0)) (.int 3072)).before args s = true := hs _ (by decide +kernel)
  have hlen : (Cond.isInt (.length (.arg 0))).before args s = true := hq _ (by decide +kernel)
  have hall : (Cond.all (.arg 0) (.isInt (.elem (.arg 0) (.index 0)))).before args s = true := hq _ (by decide +kernel)
  obtain ⟨b, xs, hb, hx⟩ := State.ints_of_pre rfl harr hlen hall
  have hsm : xs.length < 2 ^ 31 := hx.choose_spec.2.2.2
  have hev : (Term.length (.arg 0)).eval args s none [] s = some (.int xs.length.toInt32) := hx.length_eval hb
  have hv := Cond.le_ints hev (show (Term.int 3072).eval args s none [] s = some (.int 3072) from rfl)
  have hd : xs.length.toInt32 ≤ 3072 := by
    simpa [Cond.before, Cond.holds, hv] using hle
  have hN : xs.length ≤ 3072 := (Int32.ofNat_le_ofNat hsm (by decide)).mp (show Int32.ofNat xs.length ≤ Int32.ofNat 3072 from hd)
  exact ⟨b, xs, Cond.one_arg hc (show args[0]? = some (.ref b) from hb), hx, hN, h⟩
theorem lw_comes (l : Launch) (hflags : l.flags = flags0) : Comes l x (Jvm.Cond.code x code maxLocals ret :: tables_1) room_1 (fun tb e args s => Calls_1 tb e args s ∧ rest_1 tb e args s ∧ Pre_1 tb e args s)
    (fun _ _ args s o t => lw_Q args s o t) := by
  intro p e ha hc hk s m args below hf hfit hheap happ hpre
  obtain ⟨b, xs, hP⟩ := lw_pre_spec hpre.2.2 hpre.2.1
  obtain ⟨k, o, h1, h2, h3, hQ⟩ := lw_walk l hflags b xs p e ha hc hk s m args below hf ((Spec.applies_iff_loose hf).mp happ).1 hP trivial
  exact ⟨k, o, h1, h2, h3, hQ⟩
theorem lw_frame {s t : State} {o : Outcome} {args : Array Value} (h : Framed s o t [] 601024 7293034) :
    Framed s o t (fieldLocs frame_1_writes args s ++ arrayLocs frame_1_arrays args s ++ staticLocs frame_1_statics s) 601024 7293034 := h
theorem lw_limb (L : Cond) (hL : ∀ (args : Array Value) (s t : State), L.after args s (.returned (some (.int 1))) t = true) :
    ArmFor flags0 classFile x code maxLocals ret World_1 tables_1 room_1 Calls_1 rest_1 Pre_1
      (fun tb e a s o t => postC L tb e a s o t ∧ Framed s o t (fieldLocs frame_1_writes a s ++ arrayLocs frame_1_arrays a s ++ staticLocs frame_1_statics s) 601024 7293034) := by
  intro l hflags _ _ p e ha hc hk s m args below hf hfit hheap happ hpre
  obtain ⟨k, o, h1, h2, h3, rfl, hF⟩ := lw_comes l hflags p e ha hc hk s m args below hf hfit hheap happ hpre
  exact ⟨k, _, h1, h2, h3, hL args s _, lw_frame hF⟩
theorem i_vc : Claimed_1_1 ∧ Claimed_1_2 := ⟨lw_limb limb_1_1 (fun args s t => by simp [limb_1_1, Cond.after, Cond.holds, Cond.value]), lw_limb limb_1_2 (fun args s t => Cond.after_iff.mpr (by
  first | (rw [show limb_1_2 = Cond.eq .result (.int 1) from rfl, Cond.eq_ints (x := 1) (y := 1) rfl rfl]; simp; done) | (simp [limb_1_2, Cond.value, Term.eval]; done)))⟩
