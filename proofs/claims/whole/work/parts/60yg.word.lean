/-! WORDS: packed by 32 and by 27; the text of a TAG -/
theorem zL_lit (n : Nat) : (OfNat.ofNat n : Int64) = lN (OfNat.ofNat n) := id rfl
theorem lN_div {a b : Nat} (ha : a < 2 ^ 63) (hb : b < 2 ^ 63) : lN a / lN b = lN (a / b) := (Int64.ofNat_div ha hb).symm
theorem lN_32 {a : Nat} : (lN a).toInt32 = nI a := Int64.toInt32_ofNat'
theorem lN_64 {a : Nat} (h : a < 2 ^ 31) : (nI a).toInt64 = lN a := Int32.toInt64_ofNat' (by rw [Int32.toInt_maxValue]; omega)
theorem lN_inj {a b : Nat} (ha : a < 2 ^ 63) (hb : b < 2 ^ 63) : (lN a = lN b) = (a = b) := propext ⟨fun e => by
  have := congrArg Int64.toInt e
  unfold lN at this
  rw [Int64.toInt_ofNat_of_lt ha, Int64.toInt_ofNat_of_lt hb] at this
  omega, fun e => by rw [e]⟩
theorem lN_cmp {a b : Nat} (ha : a < 2 ^ 63) (hb : b < 2 ^ 63) : (lg_cmp (lN a) (lN b) < nI 0) = (a < b) := propext ((lg_cmp_lt _ _).trans (Int64.ofNat_lt_iff_lt ha hb))
theorem lN_cmp0 {a b : Nat} (ha : a < 2 ^ 63) (hb : b < 2 ^ 63) : (lg_cmp (lN a) (lN b) = nI 0) = (a = b) := by
  rw [← lN_inj ha hb]
  exact propext (lg_cmp_eq _ _)
theorem lN_m63 : ∀ s, s < 63 → (nI s).toInt64 &&& lN 63 = lN s := by decide +kernel
theorem lN_sm : ∀ s, s < 63 → (lN s).toBitVec.smod 64 = BitVec.ofNat 64 s := by decide +kernel
theorem lN_shr {v s : Nat} (hv : v < 2 ^ 63) (hs : s < 63) : lN v >>> lN s = lN (v / 2 ^ s) := by
  apply Int64.toBitVec_inj.1
  rw [Int64.toBitVec_shiftRight, lN_sm s hs]
  apply BitVec.eq_of_toInt_eq
  have h1 : v / 2 ^ s < 2 ^ 63 := Nat.lt_of_le_of_lt (Nat.div_le_self _ _) hv
  unfold lN
  rw [BitVec.sshiftRight_eq', BitVec.toInt_sshiftRight, Int64.toInt_toBitVec, Int64.toInt_toBitVec, Int64.toInt_ofNat_of_lt hv, Int64.toInt_ofNat_of_lt h1, BitVec.toNat_ofNat, Nat.mod_eq_of_lt (by omega), Int.shiftRight_eq_div_pow]
  push_cast
  try rfl
theorem lN_m31 {u : Nat} : (lN u &&& lN 31).toInt32 = nI (u % 32) := by
  rw [Int64.toInt32_and, lN_32, lN_32, nI_and]
  exact congrArg nI (Nat.and_two_pow_sub_one_eq_mod u 5)
/-- letters packed by k -/
def gPk (k : Nat) : List Nat → Nat → Nat
  | [], v => v
  | c :: w, v => gPk k w (v * k + c)
def gLz (k : Nat) (w : List Nat) : Prop := ∀ c, c ∈ w → c < k
theorem gPk_v {k : Nat} : ∀ {w : List Nat} {v : Nat}, gPk k w v = v * k ^ w.length + gPk k w 0
  | [], v => by
    show v = v * k ^ 0 + 0
    rw [Nat.pow_zero, Nat.mul_one, Nat.add_zero]
  | c :: w, v => by
    show gPk k w (v * k + c) = v * k ^ (w.length + 1) + gPk k w (0 * k + c)
    rw [gPk_v (w := w) (v := v * k + c), gPk_v (w := w) (v := 0 * k + c), Nat.zero_mul, Nat.zero_add, Nat.add_mul, Nat.pow_succ, Nat.mul_assoc, Nat.mul_comm k, Nat.add_assoc]
theorem gPk_lt {k : Nat} : ∀ {w : List Nat}, gLz k w → gPk k w 0 < k ^ w.length
  | [], _ => by show 0 < k ^ 0; rw [Nat.pow_zero]; omega
  | c :: w, h => by
    have ih := gPk_lt (k := k) (w := w) (fun x hx => h x (List.mem_cons_of_mem _ hx))
    have hc : c < k := h c List.mem_cons_self
    show gPk k w (0 * k + c) < k ^ (w.length + 1)
    rw [gPk_v, Nat.zero_mul, Nat.zero_add, Nat.pow_succ]
    have : (c + 1) * k ^ w.length ≤ k * k ^ w.length := Nat.mul_le_mul_right _ hc
    rw [Nat.add_mul, Nat.one_mul] at this
    rw [Nat.mul_comm (k ^ w.length) k]
    omega
theorem gPk_d {c v : Nat} {w : List Nat} (h : gLz 32 (c :: w)) : gPk 32 (c :: w) v / 2 ^ (5 * w.length) % 32 = c := by
  have hc : c < 32 := h c List.mem_cons_self
  have hl := gPk_lt (k := 32) (w := w) (fun x hx => h x (List.mem_cons_of_mem _ hx))
  show gPk 32 w (v * 32 + c) / 2 ^ (5 * w.length) % 32 = c
  rw [gPk_v, Nat.pow_mul, show 2 ^ 5 = 32 from rfl]
  have hp : 0 < 32 ^ w.length := Nat.pow_pos (by omega)
  rw [Nat.mul_comm, Nat.mul_add_div hp, Nat.div_eq_of_lt hl]
  omega
theorem gPk_app {k : Nat} : ∀ {w x : List Nat} {v : Nat}, gPk k (w ++ x) v = gPk k x (gPk k w v)
  | [], _, _ => rfl
  | c :: w, x, v => gPk_app (w := w) (x := x) (v := v * k + c)
theorem gPk_0 {k : Nat} : ∀ n, gPk k (List.replicate n 0) 0 = 0
  | 0 => rfl
  | n + 1 => by
    rw [List.replicate_succ]
    show gPk k (List.replicate n 0) (0 * k + 0) = 0
    rw [Nat.zero_mul]
    exact gPk_0 n
def gWd (w : List Nat) : Prop := 1 ≤ w.length ∧ w.length ≤ 7 ∧ ∀ c, c ∈ w → 1 ≤ c ∧ c ≤ 26
/-- the text: of the class, of the reference -/
def gLC (T : List Nat) (M : zMem) : Prop := M.1 60 1 = nI T.length ∧ ∀ j, j < T.length → M.1 61 j = nI (T.getD j 0)
def gLM (T : List Nat) (M : zMem) : Prop := M.1 89 41 = nI T.length ∧ ∀ j, j < T.length → M.1 110 j = nI (T.getD j 0)
theorem gTx_D {T : List Nat} {c j : Nat} (h : j < T.length + 1) : (T ++ [c]).getD j 0 = if j = T.length then c else T.getD j 0 := by
  rw [List.getD_eq_getElem?_getD, List.getD_eq_getElem?_getD]
  by_cases e : j = T.length
  · rw [if_pos e, e, List.getElem?_append_right (Nat.le_refl _), Nat.sub_self]
    try rfl
  · rw [if_neg e, List.getElem?_append_left (by omega)]
theorem gTx_l {T : List Nat} {c : Nat} : (T ++ [c]).length = T.length + 1 := by rw [List.length_append]; rfl
theorem c_addB {T : List Nat} {M : zMem} {c : Nat} (hT : T.length < 24) (L : gLC T M) : ∃ M1, mf_X9_add gR 60 (nI c) M = some ((), M1) ∧ gLC (T ++ [c]) M1 ∧ gF [60, 61] [] M M1 := by
  obtain ⟨l1, l2⟩ := L
  have e1 : (zwI M 61 T.length (nI c)).1 60 1 = nI T.length := by rw [zwI_n (by decide)]; exact l1
  refine ⟨zwI (zwI M 61 T.length (nI c)) 60 1 (nI (T.length + 1)), ?_, ⟨?_, fun j hj => ?_⟩, gF.wI (gF.wI gF.r (by decide) (by decide)) (by decide) (by decide)⟩
  · unfold mf_X9_add
    simp only [zl_lit, zlet_ok]
    rw [l1, if_neg (by rw [nI_leI (by omega) (by omega)]; omega), zald_nI (by omega) (by omega), r60_0, e1, nI_add]
  · rw [zwI_s, upd_s, gTx_l]
  · rw [gTx_l] at hj
    rw [zwI_n (by decide), zwI_s, gTx_D hj]
    unfold upd
    by_cases e : j = T.length
    · rw [if_pos e, if_pos e]
    · rw [if_neg e, if_neg e]; exact l2 j (by omega)
theorem m_writeB {T : List Nat} {M : zMem} {c : Nat} (hT : T.length < 48) (L : gLM T M) : ∃ M1, mf_X12_write gR 89 (nI c) M = some ((), M1) ∧ gLM (T ++ [c]) M1 ∧ gF [110] [41] M M1 := by
  obtain ⟨l1, l2⟩ := L
  have e1 : (zwI M 110 T.length (nI c)).1 89 41 = nI T.length := by rw [zwI_n (by decide)]; exact l1
  refine ⟨zwI (zwI M 110 T.length (nI c)) 89 41 (nI (T.length + 1)), ?_, ⟨?_, fun j hj => ?_⟩, gF.w9 (gF.wI gF.r (by decide) (by decide)) (by decide)⟩
  · unfold mf_X12_write
    simp only [zl_lit, zlet_ok]
    rw [l1, zald_nI (by omega) (by omega), r89_40, e1, nI_add]
  · rw [zwI_s, upd_s, gTx_l]
  · rw [gTx_l] at hj
    rw [zwI_n (by decide), zwI_s, gTx_D hj]
    unfold upd
    by_cases e : j = T.length
    · rw [if_pos e, if_pos e]
    · rw [if_neg e, if_neg e]; exact l2 j (by omega)
def gSh5 : Nat → Int32
  | 0 => nI 0 + -(nI 5)
  | k + 1 => nI (5 * k)
theorem gSh5_s {k : Nat} : gSh5 (k + 1) + -(nI 5) = gSh5 k := by
  cases k with
  | zero => rfl
  | succ k =>
    show nI (5 * (k + 1)) + -(nI 5) = nI (5 * k)
    rw [← Int32.sub_eq_add_neg, nI_subE (by omega), show 5 * (k + 1) - 5 = 5 * k by omega]
theorem gSh5_0 : gSh5 0 < nI 0 := by decide +kernel
def gNz : List Nat → List Nat
  | [] => []
  | c :: w => if c = 0 then gNz w else (96 + c) :: gNz w
theorem c_nameL : ∀ (w : List Nat) (u f : Nat) (T : List Nat) (M : zMem), gLz 32 w → gPk 32 w u < 2 ^ 35 → w.length < f → w.length ≤ 7 → gLC T M → T.length + w.length ≤ 24 → ∃ M1, mf_X9_addName_l3 gR 60 f (lN (gPk 32 w u)) (gSh5 w.length) M = some ((), M1) ∧ gLC (T ++ gNz w) M1 ∧ gF [60, 61] [] M M1
  | [], u, f + 1, T, M, hw, hp, hf, h7, L, hT => by
    refine ⟨M, ?_, ?_, gF.r⟩
    · rw [mf_X9_addName_l3]
      simp only [zl_lit]
      rw [if_pos (show gSh5 ([] : List Nat).length < nI 0 from gSh5_0)]
    · rw [show gNz [] = [] from rfl, List.append_nil]; exact L
  | c :: w, u, f + 1, T, M, hw, hp, hf, h7, L, hT => by
    have hw2 : gLz 32 w := fun x hx => hw x (List.mem_cons_of_mem _ hx)
    have hd := gPk_d (v := u) hw
    have hl : (c :: w).length = w.length + 1 := rfl
    rw [hl] at hf hT h7 ⊢
    have hv : (((lN (gPk 32 (c :: w) u) >>> ((gSh5 (w.length + 1)).toInt64 &&& lN 63)) &&& lN 31).toInt32) = nI c := by
      rw [show gSh5 (w.length + 1) = nI (5 * w.length) from rfl, lN_m63 _ (by omega), lN_shr (by omega) (by omega), lN_m31, hd]
    have hs : ¬ gSh5 (w.length + 1) < nI 0 := by
      rw [show gSh5 (w.length + 1) = nI (5 * w.length) from rfl, nI_ltI (by omega) (by omega)]; omega
    by_cases e : c = 0
    · obtain ⟨M1, a1, L1, f1⟩ := c_nameL w (u * 32 + c) f T M hw2 hp (by omega) (by omega) L (by omega)
      refine ⟨M1, ?_, ?_, f1⟩
      · rw [mf_X9_addName_l3]
        simp only [zl_lit, zL_lit, zlet_ok]
        rw [if_neg hs, hv, e, if_pos rfl]
        unfold mf_X9_addName_b31
        simp only [zl_lit]
        rw [gSh5_s, ← e]
        exact a1
      · rw [show gNz (c :: w) = gNz w from if_pos e]; exact L1
    · obtain ⟨M1, a1, L1, f1⟩ := c_addB (c := 96 + c) (by omega) L
      obtain ⟨M2, a2, L2, f2⟩ := c_nameL w (u * 32 + c) f (T ++ [96 + c]) M1 hw2 hp (by omega) (by omega) L1 (by rw [gTx_l]; omega)
      have hc : c < 32 := hw c List.mem_cons_self
      refine ⟨M2, ?_, ?_, f1.trans f2⟩
      · rw [mf_X9_addName_l3]
        simp only [zl_lit, zL_lit, zlet_ok]
        rw [if_neg hs, hv, if_neg (by rw [nI_eq (by omega) (by omega)]; exact e), nI_add, a1, zcl_ok]
        unfold mf_X9_addName_b31
        simp only [zl_lit]
        rw [gSh5_s]
        exact a2
      · rw [show gNz (c :: w) = (96 + c) :: gNz w from if_neg e]
        rw [List.append_assoc] at L2
        exact L2
theorem gNz_pad {w : List Nat} (hw : ∀ c, c ∈ w → 1 ≤ c ∧ c ≤ 26) : ∀ n, gNz (List.replicate n 0 ++ w) = w.map (fun c => 96 + c)
  | 0 => by
    show gNz w = _
    induction w with
    | nil => rfl
    | cons c w ih =>
      have := hw c List.mem_cons_self
      rw [show gNz (c :: w) = (96 + c) :: gNz w from if_neg (by omega), ih (fun x hx => hw x (List.mem_cons_of_mem _ hx))]
      try rfl
  | n + 1 => by
    rw [List.replicate_succ, List.cons_append, show gNz (0 :: (List.replicate n 0 ++ w)) = gNz (List.replicate n 0 ++ w) from if_pos rfl]
    exact gNz_pad hw n
theorem c_addName {w T : List Nat} {M : zMem} (hw : gWd w) (L : gLC T M) (hT : T.length + 7 ≤ 24) : ∃ M1, mf_X9_addName gR 60 (lN (gPk 32 w 0)) M = some ((), M1) ∧ gLC (T ++ w.map (fun c => 96 + c)) M1 ∧ gF [60, 61] [] M M1 := by
  have hl : (List.replicate (7 - w.length) 0 ++ w).length = 7 := by rw [List.length_append, List.length_replicate]; have := hw.2.1; omega
  have hp : gPk 32 (List.replicate (7 - w.length) 0 ++ w) 0 = gPk 32 w 0 := by rw [gPk_app, gPk_0]
  have hs : gLz 32 (List.replicate (7 - w.length) 0 ++ w) := fun c hc => by
    rcases List.mem_append.mp hc with q | q
    · have := List.eq_of_mem_replicate q; omega
    · have := hw.2.2 c q; omega
  have hb := gPk_lt hs
  rw [hl] at hb
  obtain ⟨M1, a1, L1, f1⟩ := c_nameL (List.replicate (7 - w.length) 0 ++ w) 0 5000 T M hs (by omega) (by omega) (by omega) L (by omega)
  rw [hp, hl] at a1
  rw [gNz_pad hw.2.2] at L1
  refine ⟨M1, ?_, L1, f1⟩
  unfold mf_X9_addName
  simp only [zl_lit]
  exact a1
/-- letters, the last one first, packed by 27 -/
def gPr : List Nat → Nat
  | [] => 0
  | c :: r => gPr r * 27 + c
theorem gPr_k : ∀ {r : List Nat} {w : List Nat}, gPk 27 w (gPr r) = gPr (w.reverse ++ r)
  | r, [] => rfl
  | r, c :: w => by
    rw [List.reverse_cons, List.append_assoc]
    show gPk 27 w (gPr (c :: r)) = gPr (w.reverse ++ (c :: r))
    exact gPr_k
theorem gPr_lt : ∀ {r : List Nat}, (∀ c, c ∈ r → 1 ≤ c ∧ c ≤ 26) → gPr r < 27 ^ r.length
  | [], _ => by show 0 < 27 ^ 0; decide
  | c :: r, h => by
    have ih := gPr_lt (r := r) (fun x hx => h x (List.mem_cons_of_mem _ hx))
    have hc := h c List.mem_cons_self
    show gPr r * 27 + c < 27 ^ (r.length + 1)
    rw [Nat.pow_succ]
    omega
theorem m_wordR : ∀ (r : List Nat) (d : Nat) (T : List Nat) (M : zMem), r ≠ [] → r.length ≤ 7 → r.length ≤ d → (∀ c, c ∈ r → 1 ≤ c ∧ c ≤ 26) → gLM T M → T.length + r.length ≤ 48 → ∃ M1, mg_X12d d gR 89 (lN (gPr r)) M = some ((), M1) ∧ gLM (T ++ r.reverse.map (fun c => 96 + c)) M1 ∧ gF [110] [41] M M1
  | [], _, _, _, h, _, _, _, _, _ => absurd rfl h
  | c :: r, 0, _, _, _, _, hd, _, _, _ => absurd hd (by show ¬ r.length + 1 ≤ 0; omega)
  | c :: r, d + 1, T, M, _, h7, hd, hw, L, hT => by
    have hl : (c :: r).length = r.length + 1 := rfl
    rw [hl] at h7 hd hT
    have hc := hw c List.mem_cons_self
    have hw2 : ∀ x, x ∈ r → 1 ≤ x ∧ x ≤ 26 := fun x hx => hw x (List.mem_cons_of_mem _ hx)
    have b1 := gPr_lt hw2
    have b2 : 27 ^ r.length ≤ 27 ^ 6 := Nat.pow_le_pow_right (by omega) (by omega)
    have b3 : 27 ^ 6 < 2 ^ 40 := by decide
    have e1 : gPr (c :: r) / 27 = gPr r := by show (gPr r * 27 + c) / 27 = gPr r; omega
    have e2 : gPr (c :: r) = gPr r * 27 + c := rfl
    have er : ∀ M1 : zMem, mf_X12_writeWord_b17 gR (mg_X12d d) 89 (lN (gPr (c :: r))) M1 = (zcl (mf_X12_write gR 89 (nI (96 + c)) M1) fun _ M4 => some ((), M4)) := fun M1 => by
      unfold mf_X12_writeWord_b17
      simp only [zl_lit, zL_lit]
      rw [lN_div (by omega) (by omega), e1, lN_mul, lN_sub (by omega), lN_32, show gPr (c :: r) - gPr r * 27 = c by omega, nI_add]
    have e0 : mg_X12d (d + 1) gR 89 (lN (gPr (c :: r))) M = if gPr (c :: r) < 27 then mf_X12_writeWord_b17 gR (mg_X12d d) 89 (lN (gPr (c :: r))) M else (zcl (mg_X12d d gR 89 (lN (gPr r)) M) fun _ M2 => mf_X12_writeWord_b17 gR (mg_X12d d) 89 (lN (gPr (c :: r))) M2) := by
      show mf_X12_writeWord gR (mg_X12d d) 89 (lN (gPr (c :: r))) M = _
      unfold mf_X12_writeWord
      simp only [zl_lit, zL_lit]
      rw [lN_div (by omega) (by omega), e1]
      simp only [lN_cmp (show gPr (c :: r) < 2 ^ 63 by omega) (show 27 < 2 ^ 63 by omega)]
    rw [e0]
    rw [List.reverse_cons, List.map_append, List.map_cons, List.map_nil, ← List.append_assoc]
    cases r with
    | nil =>
      rw [if_pos (by show 0 * 27 + c < 27; omega), er]
      obtain ⟨M1, a1, L1, f1⟩ := m_writeB (c := 96 + c) (by omega) L
      rw [a1, zcl_ok]
      refine ⟨M1, rfl, ?_, f1⟩
      rw [List.reverse_nil, List.map_nil, List.append_nil]
      exact L1
    | cons c2 r2 =>
      have h2 := hw2 c2 List.mem_cons_self
      have : gPr (c2 :: r2) = gPr r2 * 27 + c2 := rfl
      try rw [if_neg (by omega)]
      obtain ⟨M1, a1, L1, f1⟩ := m_wordR (c2 :: r2) d T M (List.cons_ne_nil _ _) (by omega) (by omega) hw2 L (by omega)
      obtain ⟨M2, a2, L2, f2⟩ := m_writeB (c := 96 + c) (by rw [List.length_append, List.length_map, List.length_reverse]; omega) L1
      rw [a1, zcl_ok, er, a2, zcl_ok]
      exact ⟨M2, rfl, L2, f1.trans f2⟩
theorem m_word {w T : List Nat} {M : zMem} (hw : gWd w) (L : gLM T M) (hT : T.length + 7 ≤ 48) : ∃ M1, mr_X12_writeWord zD gR 89 (lN (gPk 27 w 0)) M = some ((), M1) ∧ gLM (T ++ w.map (fun c => 96 + c)) M1 ∧ gF [110] [41] M M1 := by
  obtain ⟨h1, h2, h3⟩ := hw
  have e : gPk 27 w 0 = gPr w.reverse := by
    have := gPr_k (r := []) (w := w)
    rw [List.append_nil] at this
    exact this
  obtain ⟨M1, a1, L1, f1⟩ := m_wordR w.reverse 64 T M (fun q => by have := congrArg List.length q; rw [List.length_reverse] at this; have : w.length = 0 := this; omega) (by rw [List.length_reverse]; omega) (by rw [List.length_reverse]; omega) (fun c hc => h3 c (List.mem_reverse.mp hc)) L (by rw [List.length_reverse]; omega)
  rw [List.reverse_reverse] at L1
  refine ⟨M1, ?_, L1, f1⟩
  rw [e]
  exact a1
def gSp1 (v : Int64) (i : Int32) : Int64 := if i ≤ nI 0 then v else lN 27 * v + i.toInt64 - lN 96
theorem m_spelt {i0 i1 i2 i3 i4 i5 i6 : Int32} {M : zMem} : mf_X12_spelt gR i0 i1 i2 i3 i4 i5 i6 M = some (gSp1 (gSp1 (gSp1 (gSp1 (gSp1 (lN 27 * (i0.toInt64 - lN 96) + i1.toInt64 - lN 96) i2) i3) i4) i5) i6, M) := by
  have h99 : ∀ (i : Int32) (l : Int64), mf_X12_spelt_b99 gR i l M = some (gSp1 l i, M) := fun i l => by
    unfold mf_X12_spelt_b99 gSp1
    simp only [zl_lit, zL_lit, zlet_ok]
    split <;> rfl
  have h78 : ∀ (i j : Int32) (l : Int64), mf_X12_spelt_b78 gR i j l M = some (gSp1 (gSp1 l i) j, M) := fun i j l => by
    unfold mf_X12_spelt_b78
    simp only [zl_lit, zL_lit, zlet_ok, h99]
    by_cases e : i ≤ nI 0
    · rw [if_pos e, show gSp1 l i = l from if_pos e]
    · rw [if_neg e, show gSp1 l i = lN 27 * l + i.toInt64 - lN 96 from if_neg e]
  have h57 : ∀ (i j k : Int32) (l : Int64), mf_X12_spelt_b57 gR i j k l M = some (gSp1 (gSp1 (gSp1 l i) j) k, M) := fun i j k l => by
    unfold mf_X12_spelt_b57
    simp only [zl_lit, zL_lit, zlet_ok, h78]
    by_cases e : i ≤ nI 0
    · rw [if_pos e, show gSp1 l i = l from if_pos e]
    · rw [if_neg e, show gSp1 l i = lN 27 * l + i.toInt64 - lN 96 from if_neg e]
  have h38 : ∀ (i j k m : Int32) (l : Int64), mf_X12_spelt_b38 gR i j k m l M = some (gSp1 (gSp1 (gSp1 (gSp1 l i) j) k) m, M) := fun i j k m l => by
    unfold mf_X12_spelt_b38
    simp only [zl_lit, zL_lit, zlet_ok, h57]
    by_cases e : i ≤ nI 0
    · rw [if_pos e, show gSp1 l i = l from if_pos e]
    · rw [if_neg e, show gSp1 l i = lN 27 * l + i.toInt64 - lN 96 from if_neg e]
  unfold mf_X12_spelt
  simp only [zl_lit, zL_lit, zlet_ok, h38]
  by_cases e : i2 ≤ nI 0
  · rw [if_pos e, show ∀ l, gSp1 l i2 = l from fun l => if_pos e]
  · rw [if_neg e, show ∀ l, gSp1 l i2 = lN 27 * l + i2.toInt64 - lN 96 from fun l => if_neg e]
def gKw : Nat → List Nat
  | 0 => [2, 1, 20, 8]
  | 1 => [16, 1, 16, 5, 18]
  | 2 => [19, 8, 5, 5, 20]
  | 3 => [19, 16, 1, 18, 5]
  | 4 => [23, 5, 1, 11]
  | 5 => [6, 18, 5, 19, 8]
  | 6 => [19, 20, 1, 18, 20]
  | 7 => [20, 1, 11, 5]
  | 8 => [1, 7, 1, 9, 14]
  | 9 => [18, 5, 14, 5, 23]
  | 10 => [13, 9, 14, 21, 20, 5]
  | 11 => [15, 18]
  | 12 => [1, 14, 4]
  | 13 => [14, 15, 20]
  | 14 => [23, 1, 9, 20, 9, 14, 7]
  | 15 => [4, 15, 14, 5]
  | 16 => [19, 16, 15, 9, 12, 20]
  | 17 => [8, 5, 12, 4]
  | 18 => [9, 14]
  | 19 => [15, 6]
  | 20 => [12, 5, 6, 20]
  | 21 => [15, 22, 5, 18]
  | 22 => [20, 18, 9, 5, 19]
  | _ => [14, 21, 13, 2, 5, 18]
theorem m_wo0 {M : zMem} : mf_X12_wordOf gR (nI 0) M = some (lN (gPk 27 (gKw 0) 0), M) := by
  unfold mf_X12_wordOf
  simp only [zl_lit, zL_lit]
  rw [if_pos trivial]
  rw [m_spelt, zcl_ok]
  exact congrArg (fun v => some (v, M)) (by decide +kernel)
theorem m_wo1 {M : zMem} : mf_X12_wordOf gR (nI 1) M = some (lN (gPk 27 (gKw 1) 0), M) := by
  unfold mf_X12_wordOf
  simp only [zl_lit, zL_lit]
  rw [if_neg (show ¬ nI 1 = nI 0 by decide +kernel)]
  rw [if_pos trivial]
  rw [m_spelt, zcl_ok]
  exact congrArg (fun v => some (v, M)) (by decide +kernel)
theorem m_wo2 {M : zMem} : mf_X12_wordOf gR (nI 2) M = some (lN (gPk 27 (gKw 2) 0), M) := by
  unfold mf_X12_wordOf
  simp only [zl_lit, zL_lit]
  rw [if_neg (show ¬ nI 2 = nI 0 by decide +kernel)]
  rw [if_neg (show ¬ nI 2 = nI 1 by decide +kernel)]
  rw [if_pos trivial]
  rw [m_spelt, zcl_ok]
  exact congrArg (fun v => some (v, M)) (by decide +kernel)
theorem m_wo3 {M : zMem} : mf_X12_wordOf gR (nI 3) M = some (lN (gPk 27 (gKw 3) 0), M) := by
  unfold mf_X12_wordOf
  simp only [zl_lit, zL_lit]
  rw [if_neg (show ¬ nI 3 = nI 0 by decide +kernel)]
  rw [if_neg (show ¬ nI 3 = nI 1 by decide +kernel)]
  rw [if_neg (show ¬ nI 3 = nI 2 by decide +kernel)]
  rw [if_pos trivial]
  rw [m_spelt, zcl_ok]
  exact congrArg (fun v => some (v, M)) (by decide +kernel)
theorem m_wo4 {M : zMem} : mf_X12_wordOf gR (nI 4) M = some (lN (gPk 27 (gKw 4) 0), M) := by
  unfold mf_X12_wordOf
  simp only [zl_lit, zL_lit]
  rw [if_neg (show ¬ nI 4 = nI 0 by decide +kernel)]
  rw [if_neg (show ¬ nI 4 = nI 1 by decide +kernel)]
  rw [if_neg (show ¬ nI 4 = nI 2 by decide +kernel)]
  rw [if_neg (show ¬ nI 4 = nI 3 by decide +kernel)]
  rw [if_pos trivial]
  rw [m_spelt, zcl_ok]
  exact congrArg (fun v => some (v, M)) (by decide +kernel)
theorem m_wo5 {M : zMem} : mf_X12_wordOf gR (nI 5) M = some (lN (gPk 27 (gKw 5) 0), M) := by
  unfold mf_X12_wordOf
  simp only [zl_lit, zL_lit]
  rw [if_neg (show ¬ nI 5 = nI 0 by decide +kernel)]
  rw [if_neg (show ¬ nI 5 = nI 1 by decide +kernel)]
  rw [if_neg (show ¬ nI 5 = nI 2 by decide +kernel)]
  rw [if_neg (show ¬ nI 5 = nI 3 by decide +kernel)]
  rw [if_neg (show ¬ nI 5 = nI 4 by decide +kernel)]
  rw [if_pos trivial]
  rw [m_spelt, zcl_ok]
  exact congrArg (fun v => some (v, M)) (by decide +kernel)
theorem m_wo6 {M : zMem} : mf_X12_wordOf gR (nI 6) M = some (lN (gPk 27 (gKw 6) 0), M) := by
  unfold mf_X12_wordOf
  simp only [zl_lit, zL_lit]
  rw [if_neg (show ¬ nI 6 = nI 0 by decide +kernel)]
  rw [if_neg (show ¬ nI 6 = nI 1 by decide +kernel)]
  rw [if_neg (show ¬ nI 6 = nI 2 by decide +kernel)]
  rw [if_neg (show ¬ nI 6 = nI 3 by decide +kernel)]
  rw [if_neg (show ¬ nI 6 = nI 4 by decide +kernel)]
  rw [if_neg (show ¬ nI 6 = nI 5 by decide +kernel)]
  rw [if_pos trivial]
  rw [m_spelt, zcl_ok]
  exact congrArg (fun v => some (v, M)) (by decide +kernel)
theorem m_wo7 {M : zMem} : mf_X12_wordOf gR (nI 7) M = some (lN (gPk 27 (gKw 7) 0), M) := by
  unfold mf_X12_wordOf
  simp only [zl_lit, zL_lit]
  rw [if_neg (show ¬ nI 7 = nI 0 by decide +kernel)]
  rw [if_neg (show ¬ nI 7 = nI 1 by decide +kernel)]
  rw [if_neg (show ¬ nI 7 = nI 2 by decide +kernel)]
  rw [if_neg (show ¬ nI 7 = nI 3 by decide +kernel)]
  rw [if_neg (show ¬ nI 7 = nI 4 by decide +kernel)]
  rw [if_neg (show ¬ nI 7 = nI 5 by decide +kernel)]
  rw [if_neg (show ¬ nI 7 = nI 6 by decide +kernel)]
  rw [if_pos trivial]
  rw [m_spelt, zcl_ok]
  exact congrArg (fun v => some (v, M)) (by decide +kernel)
theorem m_wo8 {M : zMem} : mf_X12_wordOf gR (nI 8) M = some (lN (gPk 27 (gKw 8) 0), M) := by
  unfold mf_X12_wordOf
  simp only [zl_lit, zL_lit]
  rw [if_neg (show ¬ nI 8 = nI 0 by decide +kernel)]
  rw [if_neg (show ¬ nI 8 = nI 1 by decide +kernel)]
  rw [if_neg (show ¬ nI 8 = nI 2 by decide +kernel)]
  rw [if_neg (show ¬ nI 8 = nI 3 by decide +kernel)]
  rw [if_neg (show ¬ nI 8 = nI 4 by decide +kernel)]
  rw [if_neg (show ¬ nI 8 = nI 5 by decide +kernel)]
  rw [if_neg (show ¬ nI 8 = nI 6 by decide +kernel)]
  rw [if_neg (show ¬ nI 8 = nI 7 by decide +kernel)]
  rw [if_pos trivial]
  rw [m_spelt, zcl_ok]
  exact congrArg (fun v => some (v, M)) (by decide +kernel)
theorem m_wo9 {M : zMem} : mf_X12_wordOf gR (nI 9) M = some (lN (gPk 27 (gKw 9) 0), M) := by
  unfold mf_X12_wordOf
  simp only [zl_lit, zL_lit]
  rw [if_neg (show ¬ nI 9 = nI 0 by decide +kernel)]
  rw [if_neg (show ¬ nI 9 = nI 1 by decide +kernel)]
  rw [if_neg (show ¬ nI 9 = nI 2 by decide +kernel)]
  rw [if_neg (show ¬ nI 9 = nI 3 by decide +kernel)]
  rw [if_neg (show ¬ nI 9 = nI 4 by decide +kernel)]
  rw [if_neg (show ¬ nI 9 = nI 5 by decide +kernel)]
  rw [if_neg (show ¬ nI 9 = nI 6 by decide +kernel)]
  rw [if_neg (show ¬ nI 9 = nI 7 by decide +kernel)]
  rw [if_neg (show ¬ nI 9 = nI 8 by decide +kernel)]
  rw [if_pos trivial]
  rw [m_spelt, zcl_ok]
  exact congrArg (fun v => some (v, M)) (by decide +kernel)
theorem m_wo10 {M : zMem} : mf_X12_wordOf gR (nI 10) M = some (lN (gPk 27 (gKw 10) 0), M) := by
  unfold mf_X12_wordOf
  simp only [zl_lit, zL_lit]
  rw [if_neg (show ¬ nI 10 = nI 0 by decide +kernel)]
  rw [if_neg (show ¬ nI 10 = nI 1 by decide +kernel)]
  rw [if_neg (show ¬ nI 10 = nI 2 by decide +kernel)]
  rw [if_neg (show ¬ nI 10 = nI 3 by decide +kernel)]
  rw [if_neg (show ¬ nI 10 = nI 4 by decide +kernel)]
  rw [if_neg (show ¬ nI 10 = nI 5 by decide +kernel)]
  rw [if_neg (show ¬ nI 10 = nI 6 by decide +kernel)]
  rw [if_neg (show ¬ nI 10 = nI 7 by decide +kernel)]
  rw [if_neg (show ¬ nI 10 = nI 8 by decide +kernel)]
  rw [if_neg (show ¬ nI 10 = nI 9 by decide +kernel)]
  rw [if_pos trivial]
  rw [m_spelt, zcl_ok]
  exact congrArg (fun v => some (v, M)) (by decide +kernel)
theorem m_wo11 {M : zMem} : mf_X12_wordOf gR (nI 11) M = some (lN (gPk 27 (gKw 11) 0), M) := by
  unfold mf_X12_wordOf
  simp only [zl_lit, zL_lit]
  rw [if_neg (show ¬ nI 11 = nI 0 by decide +kernel)]
  rw [if_neg (show ¬ nI 11 = nI 1 by decide +kernel)]
  rw [if_neg (show ¬ nI 11 = nI 2 by decide +kernel)]
  rw [if_neg (show ¬ nI 11 = nI 3 by decide +kernel)]
  rw [if_neg (show ¬ nI 11 = nI 4 by decide +kernel)]
  rw [if_neg (show ¬ nI 11 = nI 5 by decide +kernel)]
  rw [if_neg (show ¬ nI 11 = nI 6 by decide +kernel)]
  rw [if_neg (show ¬ nI 11 = nI 7 by decide +kernel)]
  rw [if_neg (show ¬ nI 11 = nI 8 by decide +kernel)]
  rw [if_neg (show ¬ nI 11 = nI 9 by decide +kernel)]
  rw [if_neg (show ¬ nI 11 = nI 10 by decide +kernel)]
  rw [if_pos trivial]
  rw [m_spelt, zcl_ok]
  exact congrArg (fun v => some (v, M)) (by decide +kernel)
theorem m_wo12 {M : zMem} : mf_X12_wordOf gR (nI 12) M = some (lN (gPk 27 (gKw 12) 0), M) := by
  unfold mf_X12_wordOf
  simp only [zl_lit, zL_lit]
  rw [if_neg (show ¬ nI 12 = nI 0 by decide +kernel)]
  rw [if_neg (show ¬ nI 12 = nI 1 by decide +kernel)]
  rw [if_neg (show ¬ nI 12 = nI 2 by decide +kernel)]
  rw [if_neg (show ¬ nI 12 = nI 3 by decide +kernel)]
  rw [if_neg (show ¬ nI 12 = nI 4 by decide +kernel)]
  rw [if_neg (show ¬ nI 12 = nI 5 by decide +kernel)]
  rw [if_neg (show ¬ nI 12 = nI 6 by decide +kernel)]
  rw [if_neg (show ¬ nI 12 = nI 7 by decide +kernel)]
  rw [if_neg (show ¬ nI 12 = nI 8 by decide +kernel)]
  rw [if_neg (show ¬ nI 12 = nI 9 by decide +kernel)]
  rw [if_neg (show ¬ nI 12 = nI 10 by decide +kernel)]
  rw [if_neg (show ¬ nI 12 = nI 11 by decide +kernel)]
  rw [if_pos trivial]
  rw [m_spelt, zcl_ok]
  exact congrArg (fun v => some (v, M)) (by decide +kernel)
theorem m_wo13 {M : zMem} : mf_X12_wordOf gR (nI 13) M = some (lN (gPk 27 (gKw 13) 0), M) := by
  unfold mf_X12_wordOf
  simp only [zl_lit, zL_lit]
  rw [if_neg (show ¬ nI 13 = nI 0 by decide +kernel)]
  rw [if_neg (show ¬ nI 13 = nI 1 by decide +kernel)]
  rw [if_neg (show ¬ nI 13 = nI 2 by decide +kernel)]
  rw [if_neg (show ¬ nI 13 = nI 3 by decide +kernel)]
  rw [if_neg (show ¬ nI 13 = nI 4 by decide +kernel)]
  rw [if_neg (show ¬ nI 13 = nI 5 by decide +kernel)]
  rw [if_neg (show ¬ nI 13 = nI 6 by decide +kernel)]
  rw [if_neg (show ¬ nI 13 = nI 7 by decide +kernel)]
  rw [if_neg (show ¬ nI 13 = nI 8 by decide +kernel)]
  rw [if_neg (show ¬ nI 13 = nI 9 by decide +kernel)]
  rw [if_neg (show ¬ nI 13 = nI 10 by decide +kernel)]
  rw [if_neg (show ¬ nI 13 = nI 11 by decide +kernel)]
  rw [if_neg (show ¬ nI 13 = nI 12 by decide +kernel)]
  rw [if_pos trivial]
  rw [m_spelt, zcl_ok]
  exact congrArg (fun v => some (v, M)) (by decide +kernel)
theorem m_wo14 {M : zMem} : mf_X12_wordOf gR (nI 14) M = some (lN (gPk 27 (gKw 14) 0), M) := by
  unfold mf_X12_wordOf
  simp only [zl_lit, zL_lit]
  rw [if_neg (show ¬ nI 14 = nI 0 by decide +kernel)]
  rw [if_neg (show ¬ nI 14 = nI 1 by decide +kernel)]
  rw [if_neg (show ¬ nI 14 = nI 2 by decide +kernel)]
  rw [if_neg (show ¬ nI 14 = nI 3 by decide +kernel)]
  rw [if_neg (show ¬ nI 14 = nI 4 by decide +kernel)]
  rw [if_neg (show ¬ nI 14 = nI 5 by decide +kernel)]
  rw [if_neg (show ¬ nI 14 = nI 6 by decide +kernel)]
  rw [if_neg (show ¬ nI 14 = nI 7 by decide +kernel)]
  rw [if_neg (show ¬ nI 14 = nI 8 by decide +kernel)]
  rw [if_neg (show ¬ nI 14 = nI 9 by decide +kernel)]
  rw [if_neg (show ¬ nI 14 = nI 10 by decide +kernel)]
  rw [if_neg (show ¬ nI 14 = nI 11 by decide +kernel)]
  rw [if_neg (show ¬ nI 14 = nI 12 by decide +kernel)]
  rw [if_neg (show ¬ nI 14 = nI 13 by decide +kernel)]
  rw [if_pos trivial]
  rw [m_spelt, zcl_ok]
  exact congrArg (fun v => some (v, M)) (by decide +kernel)
theorem m_wo15 {M : zMem} : mf_X12_wordOf gR (nI 15) M = some (lN (gPk 27 (gKw 15) 0), M) := by
  unfold mf_X12_wordOf
  simp only [zl_lit, zL_lit]
  rw [if_neg (show ¬ nI 15 = nI 0 by decide +kernel)]
  rw [if_neg (show ¬ nI 15 = nI 1 by decide +kernel)]
  rw [if_neg (show ¬ nI 15 = nI 2 by decide +kernel)]
  rw [if_neg (show ¬ nI 15 = nI 3 by decide +kernel)]
  rw [if_neg (show ¬ nI 15 = nI 4 by decide +kernel)]
  rw [if_neg (show ¬ nI 15 = nI 5 by decide +kernel)]
  rw [if_neg (show ¬ nI 15 = nI 6 by decide +kernel)]
  rw [if_neg (show ¬ nI 15 = nI 7 by decide +kernel)]
  rw [if_neg (show ¬ nI 15 = nI 8 by decide +kernel)]
  rw [if_neg (show ¬ nI 15 = nI 9 by decide +kernel)]
  rw [if_neg (show ¬ nI 15 = nI 10 by decide +kernel)]
  rw [if_neg (show ¬ nI 15 = nI 11 by decide +kernel)]
  rw [if_neg (show ¬ nI 15 = nI 12 by decide +kernel)]
  rw [if_neg (show ¬ nI 15 = nI 13 by decide +kernel)]
  rw [if_neg (show ¬ nI 15 = nI 14 by decide +kernel)]
  rw [if_pos trivial]
  rw [m_spelt, zcl_ok]
  exact congrArg (fun v => some (v, M)) (by decide +kernel)
theorem m_wo16 {M : zMem} : mf_X12_wordOf gR (nI 16) M = some (lN (gPk 27 (gKw 16) 0), M) := by
  unfold mf_X12_wordOf
  simp only [zl_lit, zL_lit]
  rw [if_neg (show ¬ nI 16 = nI 0 by decide +kernel)]
  rw [if_neg (show ¬ nI 16 = nI 1 by decide +kernel)]
  rw [if_neg (show ¬ nI 16 = nI 2 by decide +kernel)]
  rw [if_neg (show ¬ nI 16 = nI 3 by decide +kernel)]
  rw [if_neg (show ¬ nI 16 = nI 4 by decide +kernel)]
  rw [if_neg (show ¬ nI 16 = nI 5 by decide +kernel)]
  rw [if_neg (show ¬ nI 16 = nI 6 by decide +kernel)]
  rw [if_neg (show ¬ nI 16 = nI 7 by decide +kernel)]
  rw [if_neg (show ¬ nI 16 = nI 8 by decide +kernel)]
  rw [if_neg (show ¬ nI 16 = nI 9 by decide +kernel)]
  rw [if_neg (show ¬ nI 16 = nI 10 by decide +kernel)]
  rw [if_neg (show ¬ nI 16 = nI 11 by decide +kernel)]
  rw [if_neg (show ¬ nI 16 = nI 12 by decide +kernel)]
  rw [if_neg (show ¬ nI 16 = nI 13 by decide +kernel)]
  rw [if_neg (show ¬ nI 16 = nI 14 by decide +kernel)]
  rw [if_neg (show ¬ nI 16 = nI 15 by decide +kernel)]
  rw [if_pos trivial]
  rw [m_spelt, zcl_ok]
  exact congrArg (fun v => some (v, M)) (by decide +kernel)
theorem m_wo17 {M : zMem} : mf_X12_wordOf gR (nI 17) M = some (lN (gPk 27 (gKw 17) 0), M) := by
  unfold mf_X12_wordOf
  simp only [zl_lit, zL_lit]
  rw [if_neg (show ¬ nI 17 = nI 0 by decide +kernel)]
  rw [if_neg (show ¬ nI 17 = nI 1 by decide +kernel)]
  rw [if_neg (show ¬ nI 17 = nI 2 by decide +kernel)]
  rw [if_neg (show ¬ nI 17 = nI 3 by decide +kernel)]
  rw [if_neg (show ¬ nI 17 = nI 4 by decide +kernel)]
  rw [if_neg (show ¬ nI 17 = nI 5 by decide +kernel)]
  rw [if_neg (show ¬ nI 17 = nI 6 by decide +kernel)]
  rw [if_neg (show ¬ nI 17 = nI 7 by decide +kernel)]
  rw [if_neg (show ¬ nI 17 = nI 8 by decide +kernel)]
  rw [if_neg (show ¬ nI 17 = nI 9 by decide +kernel)]
  rw [if_neg (show ¬ nI 17 = nI 10 by decide +kernel)]
  rw [if_neg (show ¬ nI 17 = nI 11 by decide +kernel)]
  rw [if_neg (show ¬ nI 17 = nI 12 by decide +kernel)]
  rw [if_neg (show ¬ nI 17 = nI 13 by decide +kernel)]
  rw [if_neg (show ¬ nI 17 = nI 14 by decide +kernel)]
  rw [if_neg (show ¬ nI 17 = nI 15 by decide +kernel)]
  rw [if_neg (show ¬ nI 17 = nI 16 by decide +kernel)]
  rw [if_pos trivial]
  rw [m_spelt, zcl_ok]
  exact congrArg (fun v => some (v, M)) (by decide +kernel)
theorem m_wo18 {M : zMem} : mf_X12_wordOf gR (nI 18) M = some (lN (gPk 27 (gKw 18) 0), M) := by
  unfold mf_X12_wordOf
  simp only [zl_lit, zL_lit]
  rw [if_neg (show ¬ nI 18 = nI 0 by decide +kernel)]
  rw [if_neg (show ¬ nI 18 = nI 1 by decide +kernel)]
  rw [if_neg (show ¬ nI 18 = nI 2 by decide +kernel)]
  rw [if_neg (show ¬ nI 18 = nI 3 by decide +kernel)]
  rw [if_neg (show ¬ nI 18 = nI 4 by decide +kernel)]
  rw [if_neg (show ¬ nI 18 = nI 5 by decide +kernel)]
  rw [if_neg (show ¬ nI 18 = nI 6 by decide +kernel)]
  rw [if_neg (show ¬ nI 18 = nI 7 by decide +kernel)]
  rw [if_neg (show ¬ nI 18 = nI 8 by decide +kernel)]
  rw [if_neg (show ¬ nI 18 = nI 9 by decide +kernel)]
  rw [if_neg (show ¬ nI 18 = nI 10 by decide +kernel)]
  rw [if_neg (show ¬ nI 18 = nI 11 by decide +kernel)]
  rw [if_neg (show ¬ nI 18 = nI 12 by decide +kernel)]
  rw [if_neg (show ¬ nI 18 = nI 13 by decide +kernel)]
  rw [if_neg (show ¬ nI 18 = nI 14 by decide +kernel)]
  rw [if_neg (show ¬ nI 18 = nI 15 by decide +kernel)]
  rw [if_neg (show ¬ nI 18 = nI 16 by decide +kernel)]
  rw [if_neg (show ¬ nI 18 = nI 17 by decide +kernel)]
  rw [if_pos trivial]
  rw [m_spelt, zcl_ok]
  exact congrArg (fun v => some (v, M)) (by decide +kernel)
theorem m_wo19 {M : zMem} : mf_X12_wordOf gR (nI 19) M = some (lN (gPk 27 (gKw 19) 0), M) := by
  unfold mf_X12_wordOf
  simp only [zl_lit, zL_lit]
  rw [if_neg (show ¬ nI 19 = nI 0 by decide +kernel)]
  rw [if_neg (show ¬ nI 19 = nI 1 by decide +kernel)]
  rw [if_neg (show ¬ nI 19 = nI 2 by decide +kernel)]
  rw [if_neg (show ¬ nI 19 = nI 3 by decide +kernel)]
  rw [if_neg (show ¬ nI 19 = nI 4 by decide +kernel)]
  rw [if_neg (show ¬ nI 19 = nI 5 by decide +kernel)]
  rw [if_neg (show ¬ nI 19 = nI 6 by decide +kernel)]
  rw [if_neg (show ¬ nI 19 = nI 7 by decide +kernel)]
  rw [if_neg (show ¬ nI 19 = nI 8 by decide +kernel)]
  rw [if_neg (show ¬ nI 19 = nI 9 by decide +kernel)]
  rw [if_neg (show ¬ nI 19 = nI 10 by decide +kernel)]
  rw [if_neg (show ¬ nI 19 = nI 11 by decide +kernel)]
  rw [if_neg (show ¬ nI 19 = nI 12 by decide +kernel)]
  rw [if_neg (show ¬ nI 19 = nI 13 by decide +kernel)]
  rw [if_neg (show ¬ nI 19 = nI 14 by decide +kernel)]
  rw [if_neg (show ¬ nI 19 = nI 15 by decide +kernel)]
  rw [if_neg (show ¬ nI 19 = nI 16 by decide +kernel)]
  rw [if_neg (show ¬ nI 19 = nI 17 by decide +kernel)]
  rw [if_neg (show ¬ nI 19 = nI 18 by decide +kernel)]
  rw [if_pos trivial]
  rw [m_spelt, zcl_ok]
  exact congrArg (fun v => some (v, M)) (by decide +kernel)
theorem m_wo20 {M : zMem} : mf_X12_wordOf gR (nI 20) M = some (lN (gPk 27 (gKw 20) 0), M) := by
  unfold mf_X12_wordOf
  simp only [zl_lit, zL_lit]
  rw [if_neg (show ¬ nI 20 = nI 0 by decide +kernel)]
  rw [if_neg (show ¬ nI 20 = nI 1 by decide +kernel)]
  rw [if_neg (show ¬ nI 20 = nI 2 by decide +kernel)]
  rw [if_neg (show ¬ nI 20 = nI 3 by decide +kernel)]
  rw [if_neg (show ¬ nI 20 = nI 4 by decide +kernel)]
  rw [if_neg (show ¬ nI 20 = nI 5 by decide +kernel)]
  rw [if_neg (show ¬ nI 20 = nI 6 by decide +kernel)]
  rw [if_neg (show ¬ nI 20 = nI 7 by decide +kernel)]
  rw [if_neg (show ¬ nI 20 = nI 8 by decide +kernel)]
  rw [if_neg (show ¬ nI 20 = nI 9 by decide +kernel)]
  rw [if_neg (show ¬ nI 20 = nI 10 by decide +kernel)]
  rw [if_neg (show ¬ nI 20 = nI 11 by decide +kernel)]
  rw [if_neg (show ¬ nI 20 = nI 12 by decide +kernel)]
  rw [if_neg (show ¬ nI 20 = nI 13 by decide +kernel)]
  rw [if_neg (show ¬ nI 20 = nI 14 by decide +kernel)]
  rw [if_neg (show ¬ nI 20 = nI 15 by decide +kernel)]
  rw [if_neg (show ¬ nI 20 = nI 16 by decide +kernel)]
  rw [if_neg (show ¬ nI 20 = nI 17 by decide +kernel)]
  rw [if_neg (show ¬ nI 20 = nI 18 by decide +kernel)]
  rw [if_neg (show ¬ nI 20 = nI 19 by decide +kernel)]
  rw [if_pos trivial]
  rw [m_spelt, zcl_ok]
  exact congrArg (fun v => some (v, M)) (by decide +kernel)
theorem m_wo21 {M : zMem} : mf_X12_wordOf gR (nI 21) M = some (lN (gPk 27 (gKw 21) 0), M) := by
  unfold mf_X12_wordOf
  simp only [zl_lit, zL_lit]
  rw [if_neg (show ¬ nI 21 = nI 0 by decide +kernel)]
  rw [if_neg (show ¬ nI 21 = nI 1 by decide +kernel)]
  rw [if_neg (show ¬ nI 21 = nI 2 by decide +kernel)]
  rw [if_neg (show ¬ nI 21 = nI 3 by decide +kernel)]
  rw [if_neg (show ¬ nI 21 = nI 4 by decide +kernel)]
  rw [if_neg (show ¬ nI 21 = nI 5 by decide +kernel)]
  rw [if_neg (show ¬ nI 21 = nI 6 by decide +kernel)]
  rw [if_neg (show ¬ nI 21 = nI 7 by decide +kernel)]
  rw [if_neg (show ¬ nI 21 = nI 8 by decide +kernel)]
  rw [if_neg (show ¬ nI 21 = nI 9 by decide +kernel)]
  rw [if_neg (show ¬ nI 21 = nI 10 by decide +kernel)]
  rw [if_neg (show ¬ nI 21 = nI 11 by decide +kernel)]
  rw [if_neg (show ¬ nI 21 = nI 12 by decide +kernel)]
  rw [if_neg (show ¬ nI 21 = nI 13 by decide +kernel)]
  rw [if_neg (show ¬ nI 21 = nI 14 by decide +kernel)]
  rw [if_neg (show ¬ nI 21 = nI 15 by decide +kernel)]
  rw [if_neg (show ¬ nI 21 = nI 16 by decide +kernel)]
  rw [if_neg (show ¬ nI 21 = nI 17 by decide +kernel)]
  rw [if_neg (show ¬ nI 21 = nI 18 by decide +kernel)]
  rw [if_neg (show ¬ nI 21 = nI 19 by decide +kernel)]
  rw [if_neg (show ¬ nI 21 = nI 20 by decide +kernel)]
  rw [if_pos trivial]
  rw [m_spelt, zcl_ok]
  exact congrArg (fun v => some (v, M)) (by decide +kernel)
theorem m_wo22 {M : zMem} : mf_X12_wordOf gR (nI 22) M = some (lN (gPk 27 (gKw 22) 0), M) := by
  unfold mf_X12_wordOf
  simp only [zl_lit, zL_lit]
  rw [if_neg (show ¬ nI 22 = nI 0 by decide +kernel)]
  rw [if_neg (show ¬ nI 22 = nI 1 by decide +kernel)]
  rw [if_neg (show ¬ nI 22 = nI 2 by decide +kernel)]
  rw [if_neg (show ¬ nI 22 = nI 3 by decide +kernel)]
  rw [if_neg (show ¬ nI 22 = nI 4 by decide +kernel)]
  rw [if_neg (show ¬ nI 22 = nI 5 by decide +kernel)]
  rw [if_neg (show ¬ nI 22 = nI 6 by decide +kernel)]
  rw [if_neg (show ¬ nI 22 = nI 7 by decide +kernel)]
  rw [if_neg (show ¬ nI 22 = nI 8 by decide +kernel)]
  rw [if_neg (show ¬ nI 22 = nI 9 by decide +kernel)]
  rw [if_neg (show ¬ nI 22 = nI 10 by decide +kernel)]
  rw [if_neg (show ¬ nI 22 = nI 11 by decide +kernel)]
  rw [if_neg (show ¬ nI 22 = nI 12 by decide +kernel)]
  rw [if_neg (show ¬ nI 22 = nI 13 by decide +kernel)]
  rw [if_neg (show ¬ nI 22 = nI 14 by decide +kernel)]
  rw [if_neg (show ¬ nI 22 = nI 15 by decide +kernel)]
  rw [if_neg (show ¬ nI 22 = nI 16 by decide +kernel)]
  rw [if_neg (show ¬ nI 22 = nI 17 by decide +kernel)]
  rw [if_neg (show ¬ nI 22 = nI 18 by decide +kernel)]
  rw [if_neg (show ¬ nI 22 = nI 19 by decide +kernel)]
  rw [if_neg (show ¬ nI 22 = nI 20 by decide +kernel)]
  rw [if_neg (show ¬ nI 22 = nI 21 by decide +kernel)]
  rw [if_pos trivial]
  rw [m_spelt, zcl_ok]
  exact congrArg (fun v => some (v, M)) (by decide +kernel)
theorem m_wo23 {M : zMem} : mf_X12_wordOf gR (nI 23) M = some (lN (gPk 27 (gKw 23) 0), M) := by
  unfold mf_X12_wordOf
  simp only [zl_lit, zL_lit]
  rw [if_neg (show ¬ nI 23 = nI 0 by decide +kernel)]
  rw [if_neg (show ¬ nI 23 = nI 1 by decide +kernel)]
  rw [if_neg (show ¬ nI 23 = nI 2 by decide +kernel)]
  rw [if_neg (show ¬ nI 23 = nI 3 by decide +kernel)]
  rw [if_neg (show ¬ nI 23 = nI 4 by decide +kernel)]
  rw [if_neg (show ¬ nI 23 = nI 5 by decide +kernel)]
  rw [if_neg (show ¬ nI 23 = nI 6 by decide +kernel)]
  rw [if_neg (show ¬ nI 23 = nI 7 by decide +kernel)]
  rw [if_neg (show ¬ nI 23 = nI 8 by decide +kernel)]
  rw [if_neg (show ¬ nI 23 = nI 9 by decide +kernel)]
  rw [if_neg (show ¬ nI 23 = nI 10 by decide +kernel)]
  rw [if_neg (show ¬ nI 23 = nI 11 by decide +kernel)]
  rw [if_neg (show ¬ nI 23 = nI 12 by decide +kernel)]
  rw [if_neg (show ¬ nI 23 = nI 13 by decide +kernel)]
  rw [if_neg (show ¬ nI 23 = nI 14 by decide +kernel)]
  rw [if_neg (show ¬ nI 23 = nI 15 by decide +kernel)]
  rw [if_neg (show ¬ nI 23 = nI 16 by decide +kernel)]
  rw [if_neg (show ¬ nI 23 = nI 17 by decide +kernel)]
  rw [if_neg (show ¬ nI 23 = nI 18 by decide +kernel)]
  rw [if_neg (show ¬ nI 23 = nI 19 by decide +kernel)]
  rw [if_neg (show ¬ nI 23 = nI 20 by decide +kernel)]
  rw [if_neg (show ¬ nI 23 = nI 21 by decide +kernel)]
  rw [if_neg (show ¬ nI 23 = nI 22 by decide +kernel)]
  rw [m_spelt, zcl_ok]
  exact congrArg (fun v => some (v, M)) (by decide +kernel)
theorem m_wordOf : ∀ (k : Nat) (M : zMem), k < 24 → mf_X12_wordOf gR (nI k) M = some (lN (gPk 27 (gKw k) 0), M)
  | 0, _, _ => m_wo0
  | 1, _, _ => m_wo1
  | 2, _, _ => m_wo2
  | 3, _, _ => m_wo3
  | 4, _, _ => m_wo4
  | 5, _, _ => m_wo5
  | 6, _, _ => m_wo6
  | 7, _, _ => m_wo7
  | 8, _, _ => m_wo8
  | 9, _, _ => m_wo9
  | 10, _, _ => m_wo10
  | 11, _, _ => m_wo11
  | 12, _, _ => m_wo12
  | 13, _, _ => m_wo13
  | 14, _, _ => m_wo14
  | 15, _, _ => m_wo15
  | 16, _, _ => m_wo16
  | 17, _, _ => m_wo17
  | 18, _, _ => m_wo18
  | 19, _, _ => m_wo19
  | 20, _, _ => m_wo20
  | 21, _, _ => m_wo21
  | 22, _, _ => m_wo22
  | 23, _, _ => m_wo23
  | k + 24, _, h => absurd h (by omega)
