theorem zin : ∀ (ci : Nat) (q : vw_C), zClasses[ci]? = some q → ∀ w ∈ u_ws q.1 q.2.1 q.2.2, w ∈ zgtbl := by
  intro ci q h w hw
  have hm : q ∈ zClasses := List.mem_of_getElem? h
  have key : ∀ q ∈ zClasses, ∀ w ∈ u_ws q.1 q.2.1 q.2.2, w ∈ lw_tbl ∧ goodWord w = true := by decide +kernel
  exact zg_mem (key q hm w hw).1 (key q hm w hw).2
def zty (d : String) : FieldType := if d = "I" then .int else if d = "Z" then .boolean else .long
/-- a field instruction's entry: field k of class ci -/
def zFL (own : String) (idx ci k : Nat) : Prop := ∃ q, zClasses[ci]? = some q ∧ k < q.2.2 ∧ (q.2.1 k).1 = q.1 ∧ (Cond.fieldLink own idx q.1 (q.2.1 k).2.1 (q.2.1 k).2.2.1 ∈ zgtbl ∨ ∃ host, Cond.fieldLinkNest own idx q.1 (q.2.1 k).2.1 (q.2.1 k).2.2.1 host ∈ zNest)
/-- the same, to be written: not final, its descriptor -/
def zFP (own : String) (idx ci k : Nat) (ty : FieldType) : Prop := ∃ q, zClasses[ci]? = some q ∧ k < q.2.2 ∧ (q.2.1 k).1 = q.1 ∧ Cond.fieldLink own idx q.1 (q.2.1 k).2.1 (q.2.1 k).2.2.1 ∈ zgtbl ∧ (q.2.1 k).2.2.2 = false ∧ parseFieldDescriptor (q.2.1 k).2.2.1 = some ty
def ztyT (ci : Nat) : Nat → FieldType := match ci with
  | 0 => tyX0 | 1 => tyX1 | 2 => tyX2 | 3 => tyX3 | 4 => tyX4 | 5 => tyX5 | 6 => tyX6 | 7 => tyX7 | 8 => tyX8 | 9 => tyX9 | 10 => tyX10 | 11 => tyX11 | _ => tyX12
theorem ztyT_ok : ∀ (ci : Nat) (q : vw_C), zClasses[ci]? = some q → (∀ k, k < q.2.2 → parseFieldDescriptor (q.2.1 k).2.2.1 = some (ztyT ci k)) ∧ (∀ a, a < q.2.2 → ∀ b, b < q.2.2 → a ≠ b → (q.2.1 a).2.1 ≠ (q.2.1 b).2.1) := by
  intro ci q h
  match ci, h with
  | 0, h => cases h; exact ⟨tyX0_ok, nmX0⟩
  | 1, h => cases h; exact ⟨tyX1_ok, nmX1⟩
  | 2, h => cases h; exact ⟨tyX2_ok, nmX2⟩
  | 3, h => cases h; exact ⟨tyX3_ok, nmX3⟩
  | 4, h => cases h; exact ⟨tyX4_ok, nmX4⟩
  | 5, h => cases h; exact ⟨tyX5_ok, nmX5⟩
  | 6, h => cases h; exact ⟨tyX6_ok, nmX6⟩
  | 7, h => cases h; exact ⟨tyX7_ok, nmX7⟩
  | 8, h => cases h; exact ⟨tyX8_ok, nmX8⟩
  | 9, h => cases h; exact ⟨tyX9_ok, nmX9⟩
  | 10, h => cases h; exact ⟨tyX10_ok, nmX10⟩
  | 11, h => cases h; exact ⟨tyX11_ok, nmX11⟩
  | 12, h => cases h; exact ⟨tyX12_ok, nmX12⟩
  | ci + 13, h => simp [zClasses] at h
theorem zflds_get {ad : Nat → Nat} {R : zRR} {M : zMem} {o ci k kind : Nat} (h : (zkinds ci)[k]? = some kind) : ((zkinds ci).mapIdx (fun k a => zfv ad R M o k a))[k]? = some (zfv ad R M o k kind) := by
  rw [List.getElem?_mapIdx, h]
  rfl
theorem zflds_set {ad : Nat → Nat} {R R' : zRR} {M M' : zMem} {o ci k kind : Nat} {v : Value} (h : (zkinds ci)[k]? = some kind) (hv : zfv ad R' M' o k kind = v) (hne : ∀ j kd, j ≠ k → zfv ad R M o j kd = zfv ad R' M' o j kd) : ((zkinds ci).mapIdx (fun k a => zfv ad R M o k a)).set k v = (zkinds ci).mapIdx (fun k a => zfv ad R' M' o k a) := by
  apply List.ext_getElem?
  intro j
  by_cases hj : k = j
  · subst hj
    have hl : k < ((zkinds ci).mapIdx (fun k a => zfv ad R M o k a)).length := by rw [List.length_mapIdx]; exact (List.getElem?_eq_some_iff.mp h).1
    rw [List.getElem?_set_self hl, zflds_get h, hv]
  · rw [List.getElem?_set_ne hj, List.getElem?_mapIdx, List.getElem?_mapIdx]
    cases (zkinds ci)[j]? with
    | none => rfl
    | some kd => exact congrArg some (hne j kd (fun e => hj e.symm))
section ZX
variable {ρ : Type} {C : zCx} {Y : zMI} {Q : ρ → zMem → State → Prop} {k n : Nat} {f f1 f2 : Option (ρ × zMem)} {pc : Nat} {ls ls' : List (Nat × Value)} {st : List Value} {ad : Nat → Nat} {T : zTT} {R : zRR} {M : zMem}
theorem zx_getI {o ci kf idx : Nat} (d : decode (zcc Y) pc = .ok (.getfield idx, 3)) (hF : zFL (zown Y) idx ci kf) (ht : T[o]? = some (0, ci)) (hk : (zkinds ci)[kf]? = some 0) (kk : zX C Y Q k n f (pc + 3) ls (.int (M.1 o kf) :: st) ad T R M) : zX C Y Q k n f pc ls (.ref o :: st) ad T R M := by
  obtain ⟨p, l, e, Rm, s, m, args, below, meth, c, D, cs, A, K⟩ := C
  intro r M' hf hO hkn H locs la hP hD hS hl
  have hO' := hO
  obtain ⟨hx, hb, hml, hr, hown, hts, hK, hA, hlk, hB, hST, hR1, hR2, hR3, hR4⟩ := hO
  obtain ⟨⟨qC, qT, qN⟩, hc, hkN, hd, hlink⟩ := hF
  have hv : ((zkinds ci).mapIdx (fun k a => zfv ad R M o k a))[kf]? = some (zcv ad (.int (M.1 o kf))) := by
    rw [zflds_get hk]
    rfl
  have hsame : ∀ x, s.fieldFound? (qT kf).1 (qT kf).2.1 (qT kf).2.2.1 = some x → s.fieldFound? qC (qT kf).2.1 (qT kf).2.2.1 = some x := fun x h => by
    have e : (qT kf).1 = qC := hd
    rw [← e]
    exact h
  rcases hlink with hlink | ⟨host, hlink⟩
  · exact va_get hx hb hts (zin ci _ hc) hown hK hP o (zworld_get ht) hc kf hkN (hts _ hlink) hsame hv d (kk r M' hf hO' hkn H locs la hP hD hS hl)
  · exact va_getN hx hb hts (zin ci _ hc) hown hK hP o (zworld_get ht) hc kf hkN (va_Nw.use (znw_onT rfl) (hST.2.1 _ hlink)) hsame hv d (kk r M' hf hO' hkn H locs la hP hD hS hl)

theorem zx_getL {o ci kf idx : Nat} (d : decode (zcc Y) pc = .ok (.getfield idx, 3)) (hF : zFL (zown Y) idx ci kf) (ht : T[o]? = some (0, ci)) (hk : (zkinds ci)[kf]? = some 1) (kk : zX C Y Q k n f (pc + 3) ls (.long (M.2 o kf) :: st) ad T R M) : zX C Y Q k n f pc ls (.ref o :: st) ad T R M := by
  obtain ⟨p, l, e, Rm, s, m, args, below, meth, c, D, cs, A, K⟩ := C
  intro r M' hf hO hkn H locs la hP hD hS hl
  have hO' := hO
  obtain ⟨hx, hb, hml, hr, hown, hts, hK, hA, hlk, hB, hST, hR1, hR2, hR3, hR4⟩ := hO
  obtain ⟨⟨qC, qT, qN⟩, hc, hkN, hd, hlink⟩ := hF
  have hv : ((zkinds ci).mapIdx (fun k a => zfv ad R M o k a))[kf]? = some (zcv ad (.long (M.2 o kf))) := by
    rw [zflds_get hk]
    rfl
  have hsame : ∀ x, s.fieldFound? (qT kf).1 (qT kf).2.1 (qT kf).2.2.1 = some x → s.fieldFound? qC (qT kf).2.1 (qT kf).2.2.1 = some x := fun x h => by
    have e : (qT kf).1 = qC := hd
    rw [← e]
    exact h
  rcases hlink with hlink | ⟨host, hlink⟩
  · exact va_get hx hb hts (zin ci _ hc) hown hK hP o (zworld_get ht) hc kf hkN (hts _ hlink) hsame hv d (kk r M' hf hO' hkn H locs la hP hD hS hl)
  · exact va_getN hx hb hts (zin ci _ hc) hown hK hP o (zworld_get ht) hc kf hkN (va_Nw.use (znw_onT rfl) (hST.2.1 _ hlink)) hsame hv d (kk r M' hf hO' hkn H locs la hP hD hS hl)

theorem zx_getR {o ci kf idx : Nat} (d : decode (zcc Y) pc = .ok (.getfield idx, 3)) (hF : zFL (zown Y) idx ci kf) (ht : T[o]? = some (0, ci)) (hk : (zkinds ci)[kf]? = some 2) {b : Nat} (hr0 : R o kf = some b) (kk : zX C Y Q k n f (pc + 3) ls (.ref b :: st) ad T R M) : zX C Y Q k n f pc ls (.ref o :: st) ad T R M := by
  obtain ⟨p, l, e, Rm, s, m, args, below, meth, c, D, cs, A, K⟩ := C
  intro r M' hf hO hkn H locs la hP hD hS hl
  have hO' := hO
  obtain ⟨hx, hb, hml, hr, hown, hts, hK, hA, hlk, hB, hST, hR1, hR2, hR3, hR4⟩ := hO
  obtain ⟨⟨qC, qT, qN⟩, hc, hkN, hd, hlink⟩ := hF
  have hv : ((zkinds ci).mapIdx (fun k a => zfv ad R M o k a))[kf]? = some (zcv ad (.ref b)) := by
    rw [zflds_get hk]
    show some (va_rf ((R o kf).map ad)) = _
    rw [hr0]
    rfl
  have hsame : ∀ x, s.fieldFound? (qT kf).1 (qT kf).2.1 (qT kf).2.2.1 = some x → s.fieldFound? qC (qT kf).2.1 (qT kf).2.2.1 = some x := fun x h => by
    have e : (qT kf).1 = qC := hd
    rw [← e]
    exact h
  rcases hlink with hlink | ⟨host, hlink⟩
  · exact va_get hx hb hts (zin ci _ hc) hown hK hP o (zworld_get ht) hc kf hkN (hts _ hlink) hsame hv d (kk r M' hf hO' hkn H locs la hP hD hS hl)
  · exact va_getN hx hb hts (zin ci _ hc) hown hK hP o (zworld_get ht) hc kf hkN (va_Nw.use (znw_onT rfl) (hST.2.1 _ hlink)) hsame hv d (kk r M' hf hO' hkn H locs la hP hD hS hl)

theorem zx_putI {o ci kf idx : Nat} {x : Int32} {Kf : zMem → Option (ρ × zMem)} (d : decode (zcc Y) pc = .ok (.putfield idx, 3)) (hF : zFP (zown Y) idx ci kf .int) (ht : T[o]? = some (0, ci)) (hk : (zkinds ci)[kf]? = some 0) (kk : ∀ M1 : zMem, M1 = (zwI M o kf x) → zX C Y Q k n (Kf M1) (pc + 3) ls st ad T R M1) : zX C Y Q k n (zlet (zwI M o kf x) Kf) pc ls (.int x :: .ref o :: st) ad T R M := by
  obtain ⟨p, l, e, Rm, s, m, args, below, meth, c, D, cs, A, K⟩ := C
  intro r M' hf hO hkn H locs la hP hD hS hl
  have hO' := hO
  obtain ⟨hx, hb, hml, hr, hown, hts, hK, hA, hlk, hB, hST, hR1, hR2, hR3, hR4⟩ := hO
  obtain ⟨⟨qC, qT, qN⟩, hc, hkN, hd, hlink, hfin, hpd⟩ := hF
  have hsame : ∀ x, s.fieldFound? (qT kf).1 (qT kf).2.1 (qT kf).2.2.1 = some x → s.fieldFound? qC (qT kf).2.1 (qT kf).2.2.1 = some x := fun x h => by
    have e : (qT kf).1 = qC := hd
    rw [← e]
    exact h
  obtain ⟨hty, hnm⟩ := ztyT_ok ci _ hc
  have hset : (zworld cs ad T R M).set o (ad o, .inr (ci, ((zkinds ci).mapIdx (fun k a => zfv ad R M o k a)).set kf (.int x))) = zworld cs ad T R (zwI M o kf x) := by
    refine zworld_set ht ?_ ?_
    · rw [zflds_set (R' := R) (M' := (zwI M o kf x)) hk (by simp [zfv, zwI, zrowI, upd]) (fun j kd hj => ?_)]
      · rfl
      · match kd with
        | 0 => simp [zfv, zwI, zrowI, upd, hj]
        | 1 => simp [zfv, zwI, zrowI, hj]
        | kd + 2 => rfl
    · intro q hq
      refine ⟨zrowI_ne q hq, rfl, rfl⟩
  refine va_put hx hb hts (zin ci _ hc) (ztyT ci) hty hnm hown hK hP hD hS o (zworld_get ht) hc kf hkN (hts _ hlink) hsame hfin hpd rfl rfl ?_ d (fun H1 locs1 hP1 hD1 hS1 => ?_)
  · rw [List.length_mapIdx]; exact (List.getElem?_eq_some_iff.mp hk).1
  · exact kk _ rfl r M' hf hO' hkn H1 locs1 la (by rw [← hset]; exact hP1) (by rw [← hset]; exact hD1) hS1 hl

theorem zx_putZ {o ci kf idx : Nat} {x : Int32} {Kf : zMem → Option (ρ × zMem)} (d : decode (zcc Y) pc = .ok (.putfield idx, 3)) (hF : zFP (zown Y) idx ci kf .boolean) (ht : T[o]? = some (0, ci)) (hk : (zkinds ci)[kf]? = some 0) (hz : x = 0 ∨ x = 1) (kk : ∀ M1 : zMem, M1 = (zwI M o kf x) → zX C Y Q k n (Kf M1) (pc + 3) ls st ad T R M1) : zX C Y Q k n (zlet (zwI M o kf x) Kf) pc ls (.int x :: .ref o :: st) ad T R M := by
  obtain ⟨p, l, e, Rm, s, m, args, below, meth, c, D, cs, A, K⟩ := C
  intro r M' hf hO hkn H locs la hP hD hS hl
  have hO' := hO
  obtain ⟨hx, hb, hml, hr, hown, hts, hK, hA, hlk, hB, hST, hR1, hR2, hR3, hR4⟩ := hO
  obtain ⟨⟨qC, qT, qN⟩, hc, hkN, hd, hlink, hfin, hpd⟩ := hF
  have hsame : ∀ x, s.fieldFound? (qT kf).1 (qT kf).2.1 (qT kf).2.2.1 = some x → s.fieldFound? qC (qT kf).2.1 (qT kf).2.2.1 = some x := fun x h => by
    have e : (qT kf).1 = qC := hd
    rw [← e]
    exact h
  obtain ⟨hty, hnm⟩ := ztyT_ok ci _ hc
  have hset : (zworld cs ad T R M).set o (ad o, .inr (ci, ((zkinds ci).mapIdx (fun k a => zfv ad R M o k a)).set kf (.int x))) = zworld cs ad T R (zwI M o kf x) := by
    refine zworld_set ht ?_ ?_
    · rw [zflds_set (R' := R) (M' := (zwI M o kf x)) hk (by simp [zfv, zwI, zrowI, upd]) (fun j kd hj => ?_)]
      · rfl
      · match kd with
        | 0 => simp [zfv, zwI, zrowI, upd, hj]
        | 1 => simp [zfv, zwI, zrowI, hj]
        | kd + 2 => rfl
    · intro q hq
      refine ⟨zrowI_ne q hq, rfl, rfl⟩
  refine va_put hx hb hts (zin ci _ hc) (ztyT ci) hty hnm hown hK hP hD hS o (zworld_get ht) hc kf hkN (hts _ hlink) hsame hfin hpd (by rcases hz with rfl | rfl <;> rfl) (by rcases hz with rfl | rfl <;> rfl) ?_ d (fun H1 locs1 hP1 hD1 hS1 => ?_)
  · rw [List.length_mapIdx]; exact (List.getElem?_eq_some_iff.mp hk).1
  · exact kk _ rfl r M' hf hO' hkn H1 locs1 la (by rw [← hset]; exact hP1) (by rw [← hset]; exact hD1) hS1 hl

theorem zx_putL {o ci kf idx : Nat} {x : Int64} {Kf : zMem → Option (ρ × zMem)} (d : decode (zcc Y) pc = .ok (.putfield idx, 3)) (hF : zFP (zown Y) idx ci kf .long) (ht : T[o]? = some (0, ci)) (hk : (zkinds ci)[kf]? = some 1) (kk : ∀ M1 : zMem, M1 = (zwL M o kf x) → zX C Y Q k n (Kf M1) (pc + 3) ls st ad T R M1) : zX C Y Q k n (zlet (zwL M o kf x) Kf) pc ls (.long x :: .ref o :: st) ad T R M := by
  obtain ⟨p, l, e, Rm, s, m, args, below, meth, c, D, cs, A, K⟩ := C
  intro r M' hf hO hkn H locs la hP hD hS hl
  have hO' := hO
  obtain ⟨hx, hb, hml, hr, hown, hts, hK, hA, hlk, hB, hST, hR1, hR2, hR3, hR4⟩ := hO
  obtain ⟨⟨qC, qT, qN⟩, hc, hkN, hd, hlink, hfin, hpd⟩ := hF
  have hsame : ∀ x, s.fieldFound? (qT kf).1 (qT kf).2.1 (qT kf).2.2.1 = some x → s.fieldFound? qC (qT kf).2.1 (qT kf).2.2.1 = some x := fun x h => by
    have e : (qT kf).1 = qC := hd
    rw [← e]
    exact h
  obtain ⟨hty, hnm⟩ := ztyT_ok ci _ hc
  have hset : (zworld cs ad T R M).set o (ad o, .inr (ci, ((zkinds ci).mapIdx (fun k a => zfv ad R M o k a)).set kf (.long x))) = zworld cs ad T R (zwL M o kf x) := by
    refine zworld_set ht ?_ ?_
    · rw [zflds_set (R' := R) (M' := (zwL M o kf x)) hk (by simp [zfv, zwL, zrowL, vp_updL]) (fun j kd hj => ?_)]
      · rfl
      · match kd with
        | 0 => simp [zfv, zwL, zrowL, hj]
        | 1 => simp [zfv, zwL, zrowL, vp_updL, hj]
        | kd + 2 => rfl
    · intro q hq
      refine ⟨rfl, zrowL_ne q hq, rfl⟩
  refine va_put hx hb hts (zin ci _ hc) (ztyT ci) hty hnm hown hK hP hD hS o (zworld_get ht) hc kf hkN (hts _ hlink) hsame hfin hpd rfl rfl ?_ d (fun H1 locs1 hP1 hD1 hS1 => ?_)
  · rw [List.length_mapIdx]; exact (List.getElem?_eq_some_iff.mp hk).1
  · exact kk _ rfl r M' hf hO' hkn H1 locs1 la (by rw [← hset]; exact hP1) (by rw [← hset]; exact hD1) hS1 hl

def zald {α : Type} (n : Nat) (i : Int32) (K : Nat → Option α) : Option α := if i < 0 ∨ n ≤ i.toNatClampNeg then none else K i.toNatClampNeg
theorem zald_some {α : Type} {n : Nat} {i : Int32} {K : Nat → Option α} {x : α} (h : zald n i K = some x) : vp_in i n ∧ K i.toNatClampNeg = some x := by
  unfold zald at h
  by_cases hc : i < 0 ∨ n ≤ i.toNatClampNeg
  · rw [if_pos hc] at h
    cases h
  · rw [if_neg hc] at h
    exact ⟨hc, h⟩
theorem zald_in {α : Type} {n : Nat} {i : Int32} {K : Nat → Option α} (h : vp_in i n) : zald n i K = K i.toNatClampNeg := if_neg h
theorem zald_nI {α : Type} {n j : Nat} {K : Nat → Option α} (h : j < n) (hn : n < 2 ^ 31) : zald n (nI j) K = K j := by
  rw [zald_in (vp_in_nI h hn), nI_clamp (Nat.lt_trans h hn)]
theorem zx_iald {a N : Nat} {i : Int32} {Kf : Nat → Option (ρ × zMem)} (d : decode (zcc Y) pc = .ok (.iaload, 1)) (ht : T[a]? = some (1, N)) (kk : ∀ j : Nat, j < N → zX C Y Q k n (Kf j) (pc + 1) ls (.int (M.1 a j) :: st) ad T R M) : zX C Y Q k n (zald N i Kf) pc ls (.int i :: .ref a :: st) ad T R M := by
  obtain ⟨p, l, e, Rm, s, m, args, below, meth, c, D, cs, A, K⟩ := C
  intro r M' hf hO hkn H locs la hP hD hS hl
  have hO' := hO
  obtain ⟨hx, hb, hml, hr, hown, hts, hK, hA, hlk, hB, hST, hR1, hR2, hR3, hR4⟩ := hO
  obtain ⟨hin, hf⟩ := zald_some hf
  exact va_iald hx hb hK hP a 0 (zworld_get ht) rfl hin d (kk i.toNatClampNeg (Nat.not_le.mp fun q => hin (Or.inr q)) r M' hf hO' hkn H locs la hP hD hS hl)

theorem zx_lald {a N : Nat} {i : Int32} {Kf : Nat → Option (ρ × zMem)} (d : decode (zcc Y) pc = .ok (.laload, 1)) (ht : T[a]? = some (2, N)) (kk : ∀ j : Nat, j < N → zX C Y Q k n (Kf j) (pc + 1) ls (.long (M.2 a j) :: st) ad T R M) : zX C Y Q k n (zald N i Kf) pc ls (.int i :: .ref a :: st) ad T R M := by
  obtain ⟨p, l, e, Rm, s, m, args, below, meth, c, D, cs, A, K⟩ := C
  intro r M' hf hO hkn H locs la hP hD hS hl
  have hO' := hO
  obtain ⟨hx, hb, hml, hr, hown, hts, hK, hA, hlk, hB, hST, hR1, hR2, hR3, hR4⟩ := hO
  obtain ⟨hin, hf⟩ := zald_some hf
  exact va_lald hx hb hK hP a 1 (zworld_get ht) rfl hin d (kk i.toNatClampNeg (Nat.not_le.mp fun q => hin (Or.inr q)) r M' hf hO' hkn H locs la hP hD hS hl)

theorem zx_bald {a N : Nat} {i : Int32} {Kf : Nat → Option (ρ × zMem)} (d : decode (zcc Y) pc = .ok (.baload, 1)) (ht : T[a]? = some (3, N)) (kk : ∀ j : Nat, j < N → zX C Y Q k n (Kf j) (pc + 1) ls (.int (M.1 a j) :: st) ad T R M) : zX C Y Q k n (zald N i Kf) pc ls (.int i :: .ref a :: st) ad T R M := by
  obtain ⟨p, l, e, Rm, s, m, args, below, meth, c, D, cs, A, K⟩ := C
  intro r M' hf hO hkn H locs la hP hD hS hl
  have hO' := hO
  obtain ⟨hx, hb, hml, hr, hown, hts, hK, hA, hlk, hB, hST, hR1, hR2, hR3, hR4⟩ := hO
  obtain ⟨hin, hf⟩ := zald_some hf
  exact va_zald hx hb hK hP a 2 (zworld_get ht) rfl hin d (kk i.toNatClampNeg (Nat.not_le.mp fun q => hin (Or.inr q)) r M' hf hO' hkn H locs la hP hD hS hl)

theorem zx_aald {a N : Nat} {i : Int32} {Kf : Nat → Option (ρ × zMem)} (d : decode (zcc Y) pc = .ok (.aaload, 1)) (ht : T[a]? = some (4, N)) (hr0 : ∀ j, j < N → R a j = some (zrf R a j)) (kk : ∀ j : Nat, j < N → zX C Y Q k n (Kf j) (pc + 1) ls (.ref (zrf R a j) :: st) ad T R M) : zX C Y Q k n (zald N i Kf) pc ls (.int i :: .ref a :: st) ad T R M := by
  obtain ⟨p, l, e, Rm, s, m, args, below, meth, c, D, cs, A, K⟩ := C
  intro r M' hf hO hkn H locs la hP hD hS hl
  have hO' := hO
  obtain ⟨hx, hb, hml, hr, hown, hts, hK, hA, hlk, hB, hST, hR1, hR2, hR3, hR4⟩ := hO
  obtain ⟨hin, hf⟩ := zald_some hf
  have hlt : i.toNatClampNeg < N := Nat.not_le.mp fun q => hin (Or.inr q)
  have h1 := kk i.toNatClampNeg hlt r M' hf hO' hkn H locs la hP hD hS hl
  refine va_aldq hx hb hK hP a 3 (zworld_get ht) rfl hin d ?_
  rw [show (R a i.toNatClampNeg).map ad = some (ad (zrf R a i.toNatClampNeg)) by rw [hr0 _ hlt]; rfl]
  exact h1

theorem zx_aald5 {a N : Nat} {i : Int32} {Kf : Nat → Option (ρ × zMem)} (d : decode (zcc Y) pc = .ok (.aaload, 1)) (ht : T[a]? = some (5, N)) (hr0 : ∀ j, j < N → R a j = some (zrf R a j)) (kk : ∀ j : Nat, j < N → zX C Y Q k n (Kf j) (pc + 1) ls (.ref (zrf R a j) :: st) ad T R M) : zX C Y Q k n (zald N i Kf) pc ls (.int i :: .ref a :: st) ad T R M := by
  obtain ⟨p, l, e, Rm, s, m, args, below, meth, c, D, cs, A, K⟩ := C
  intro r M' hf hO hkn H locs la hP hD hS hl
  have hO' := hO
  obtain ⟨hx, hb, hml, hr, hown, hts, hK, hA, hlk, hB, hST, hR1, hR2, hR3, hR4⟩ := hO
  obtain ⟨hin, hf⟩ := zald_some hf
  have hlt : i.toNatClampNeg < N := Nat.not_le.mp fun q => hin (Or.inr q)
  have h1 := kk i.toNatClampNeg hlt r M' hf hO' hkn H locs la hP hD hS hl
  refine W.aald (v := va_rf ((R a i.toNatClampNeg).map ad)) (ty := .array .int) hx hb (hP a _ (zworld_get ht)) ((hK.2 4 _ rfl).1 N (fun j => va_rf ((R a j).map ad))) rfl (fun q => by cases q) (by show ¬ (i < 0 ∨ (arrV _ _ _).slots.size ≤ _); rw [arrV_size]; exact hin) (by show (arrV _ _ _).slots[_]? = _; rw [arrV_read _ _ hlt]) rfl rfl d ?_
  rw [show (R a i.toNatClampNeg).map ad = some (ad (zrf R a i.toNatClampNeg)) by rw [hr0 _ hlt]; rfl]
  exact h1

theorem zx_iast {a N : Nat} {i : Int32} {x : Int32} {Kf : zMem → Option (ρ × zMem)} (d : decode (zcc Y) pc = .ok (.iastore, 1)) (ht : T[a]? = some (1, N)) (kk : ∀ M1 : zMem, zX C Y Q k n (Kf M1) (pc + 1) ls st ad T R M1) : zX C Y Q k n (zald N i (fun j => zlet (zwI M a j x) Kf)) pc ls (.int x :: .int i :: .ref a :: st) ad T R M := by
  obtain ⟨p, l, e, Rm, s, m, args, below, meth, c, D, cs, A, K⟩ := C
  intro r M' hf hO hkn H locs la hP hD hS hl
  have hO' := hO
  obtain ⟨hx, hb, hml, hr, hown, hts, hK, hA, hlk, hB, hST, hR1, hR2, hR3, hR4⟩ := hO
  obtain ⟨hin, hf⟩ := zald_some hf
  refine va_iast hx hb hK hP hD hS a 0 (zworld_get ht) rfl hin d (fun H1 locs1 hP1 hD1 hS1 => ?_)
  have he := zworld_set (cs := cs) (ad := ad) (T := T) (R := R) (R' := R) (M := M) (M' := (zwI M a i.toNatClampNeg x)) (e := .inl (cs 0, N, .inl (upd (M.1 a) i.toNatClampNeg x))) ht (by simp [zcell, zwI, zrowI]) (fun q hq => ⟨zrowI_ne q hq, rfl, rfl⟩)
  exact kk _ r M' hf hO' hkn H1 locs1 la (by rw [← he]; exact hP1) (by rw [← he]; exact hD1) hS1 hl

theorem zx_last {a N : Nat} {i : Int32} {x : Int64} {Kf : zMem → Option (ρ × zMem)} (d : decode (zcc Y) pc = .ok (.lastore, 1)) (ht : T[a]? = some (2, N)) (kk : ∀ M1 : zMem, zX C Y Q k n (Kf M1) (pc + 1) ls st ad T R M1) : zX C Y Q k n (zald N i (fun j => zlet (zwL M a j x) Kf)) pc ls (.long x :: .int i :: .ref a :: st) ad T R M := by
  obtain ⟨p, l, e, Rm, s, m, args, below, meth, c, D, cs, A, K⟩ := C
  intro r M' hf hO hkn H locs la hP hD hS hl
  have hO' := hO
  obtain ⟨hx, hb, hml, hr, hown, hts, hK, hA, hlk, hB, hST, hR1, hR2, hR3, hR4⟩ := hO
  obtain ⟨hin, hf⟩ := zald_some hf
  refine va_last hx hb hK hP hD hS a 1 (zworld_get ht) rfl hin d (fun H1 locs1 hP1 hD1 hS1 => ?_)
  have he := zworld_set (cs := cs) (ad := ad) (T := T) (R := R) (R' := R) (M := M) (M' := (zwL M a i.toNatClampNeg x)) (e := .inl (cs 1, N, .inr (.inl (vp_updL (M.2 a) i.toNatClampNeg x)))) ht (by simp [zcell, zwL, zrowL]) (fun q hq => ⟨rfl, zrowL_ne q hq, rfl⟩)
  exact kk _ r M' hf hO' hkn H1 locs1 la (by rw [← he]; exact hP1) (by rw [← he]; exact hD1) hS1 hl

theorem zx_bast {a N : Nat} {i : Int32} {x : Int32} {Kf : zMem → Option (ρ × zMem)} (d : decode (zcc Y) pc = .ok (.bastore, 1)) (ht : T[a]? = some (3, N)) (hz : vp_nar .boolean x = x) (kk : ∀ M1 : zMem, zX C Y Q k n (Kf M1) (pc + 1) ls st ad T R M1) : zX C Y Q k n (zald N i (fun j => zlet (zwI M a j x) Kf)) pc ls (.int x :: .int i :: .ref a :: st) ad T R M := by
  obtain ⟨p, l, e, Rm, s, m, args, below, meth, c, D, cs, A, K⟩ := C
  intro r M' hf hO hkn H locs la hP hD hS hl
  have hO' := hO
  obtain ⟨hx, hb, hml, hr, hown, hts, hK, hA, hlk, hB, hST, hR1, hR2, hR3, hR4⟩ := hO
  obtain ⟨hin, hf⟩ := zald_some hf
  refine va_zast hx hb hK hP hD hS a 2 (zworld_get ht) rfl hin d (fun H1 locs1 hP1 hD1 hS1 => ?_)
  rw [hz] at hP1 hD1
  have he := zworld_set (cs := cs) (ad := ad) (T := T) (R := R) (R' := R) (M := M) (M' := (zwI M a i.toNatClampNeg x)) (e := .inl (cs 2, N, .inl (upd (M.1 a) i.toNatClampNeg x))) ht (by simp [zcell, zwI, zrowI]) (fun q hq => ⟨zrowI_ne q hq, rfl, rfl⟩)
  exact kk _ r M' hf hO' hkn H1 locs1 la (by rw [← he]; exact hP1) (by rw [← he]; exact hD1) hS1 hl

theorem zx_alen {a tn N : Nat} {v : Int32} (d : decode (zcc Y) pc = .ok (.arraylength, 1)) (ht : T[a]? = some (tn + 1, N)) (hv : Int32.ofNat N = v) (kk : zX C Y Q k n f (pc + 1) ls (.int v :: st) ad T R M) : zX C Y Q k n f pc ls (.ref a :: st) ad T R M := by
  obtain ⟨p, l, e, Rm, s, m, args, below, meth, c, D, cs, A, K⟩ := C
  intro r M' hf hO hkn H locs la hP hD hS hl
  have hO' := hO
  obtain ⟨hx, hb, hml, hr, hown, hts, hK, hA, hlk, hB, hST, hR1, hR2, hR3, hR4⟩ := hO
  have h := zworld_get (cs := cs) (ad := ad) (R := R) (M := M) ht
  match tn, h with
  | 0, h => exact va_alen hx hb hK hP a 0 h rfl hv d (kk r M' hf hO' hkn H locs la hP hD hS hl)
  | 1, h => exact va_alen hx hb hK hP a 1 h rfl hv d (kk r M' hf hO' hkn H locs la hP hD hS hl)
  | 2, h => exact va_alen hx hb hK hP a 2 h rfl hv d (kk r M' hf hO' hkn H locs la hP hD hS hl)
  | 3, h => exact va_alen hx hb hK hP a 3 h rfl hv d (kk r M' hf hO' hkn H locs la hP hD hS hl)
  | tn + 4, h => exact va_alen hx hb hK hP a 4 h rfl hv d (kk r M' hf hO' hkn H locs la hP hD hS hl)

end ZX
