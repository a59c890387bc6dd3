/-! WHO, ASK -/
theorem gbN_and {p q : Nat → Bool} {n : Nat} : gbN p n &&& gbN q n = gbN (fun s => p s && q s) n := by
  apply Nat.eq_of_testBit_eq
  intro i
  rw [Nat.testBit_and, gbN_bit, gbN_bit, gbN_bit]
  cases decide (i < n) <;> cases p i <;> cases q i <;> rfl
theorem gpc_ct {p : Nat → Bool} : gpc (gbN p 8) = gct p 8 := by
  have e : ∀ s, s < 8 → gbN p 8 / 2 ^ s % 2 = if p s then 1 else 0 := fun s hs => gbN_div hs
  have e0 := e 0 (by omega)
  have e1 := e 1 (by omega)
  have e2 := e 2 (by omega)
  have e3 := e 3 (by omega)
  have e4 := e 4 (by omega)
  have e5 := e 5 (by omega)
  have e6 := e 6 (by omega)
  have e7 := e 7 (by omega)
  have c : gct p 8 = 0 + (if p 0 then 1 else 0) + (if p 1 then 1 else 0) + (if p 2 then 1 else 0) + (if p 3 then 1 else 0) + (if p 4 then 1 else 0) + (if p 5 then 1 else 0) + (if p 6 then 1 else 0) + (if p 7 then 1 else 0) := rfl
  rw [c, ← e0, ← e1, ← e2, ← e3, ← e4, ← e5, ← e6, ← e7]
  unfold gpc
  rw [Nat.zero_add, Nat.pow_zero, Nat.div_one]
def gTA (h : zN) (b v : Nat) (s : Nat) : Bool := decide (gAsk h s b = v)
theorem c_thatAsk {h : zN} {M : zMem} {b v : Nat} (hr : gRC h M) (hH : gH h) (hb : b < h 0) (hv : v < 256) : mf_X4_sheetsThatAsk gR 55 (nI b) (nI v) M = some (nI (gbN (gTA h b v) (h 2)), M) := by
  obtain ⟨q0, q1, q2, q3, q4, q5, qh, ql, qp, qa⟩ := id hr
  obtain ⟨k0, k1, k2, k3, k4, k5, kh, kl, ka, kp⟩ := id hH
  unfold mf_X4_sheetsThatAsk
  refine gfor (G := fun f i => mf_X4_sheetsThatAsk_l5 gR 55 f (nI b) (nI v) (nI (gbN (gTA h b v) i)) (nI i) M) (n := h 2) (fun f i hi => ?_) (fun f => ?_) _ (by first | (show _ < 5000; omega) | omega)
  · have l1 := gask_le hH hi hb
    by_cases e : gAsk h i b = v
    · have e2 : gTA h b v i = true := decide_eq_true e
      simp (disch := (first | assumption | omega | (refine gRC.row ?_ ?_ <;> first | assumption | omega | (refine gRC.row ?_ ?_ <;> first | assumption | omega)))) only [zlet_ok, zcl_ok, zl_lit, zl_m1, nI_add, zald_nI, nI_ltE, nI_leE, nI_eqE, zm1_lt', zm1_le', zm1_nlt', zm1_nle', zm1_ne, zm1_ne', zm1_add1, gwI, grI_rI, zrI_s, zrI_n, zrI_L, gwL, grL_rL, zrL_s, zrL_n, zrL_I, Nat.zero_add, ↓reduceIte, if_true, if_false, gB_0, gB_1, gB_01, zchk_t, gB_1e, eq_self, gcle, gcnle, gclt, gcnlt, gcne, not_true_eq_false, not_false_eq_true, true_or, or_true, false_or, or_false, true_and, and_true, false_and, and_false, r4_6, r4_7, r4_8, r4_9, r4_10, mf_X4_sheetsThatAsk_l5, mf_X4_sheetsThatAsk_b46, r55_0, q2, qp i hi, c_askedS hr hH hi hb, e, gbN, e2, gbN_or]
    · have e2 : gTA h b v i = false := decide_eq_false e
      simp (disch := (first | assumption | omega | (refine gRC.row ?_ ?_ <;> first | assumption | omega | (refine gRC.row ?_ ?_ <;> first | assumption | omega)))) only [zlet_ok, zcl_ok, zl_lit, zl_m1, nI_add, zald_nI, nI_ltE, nI_leE, nI_eqE, zm1_lt', zm1_le', zm1_nlt', zm1_nle', zm1_ne, zm1_ne', zm1_add1, gwI, grI_rI, zrI_s, zrI_n, zrI_L, gwL, grL_rL, zrL_s, zrL_n, zrL_I, Nat.zero_add, ↓reduceIte, if_true, if_false, gB_0, gB_1, gB_01, zchk_t, gB_1e, eq_self, gcle, gcnle, gclt, gcnlt, gcne, not_true_eq_false, not_false_eq_true, true_or, or_true, false_or, or_false, true_and, and_true, false_and, and_false, r4_6, r4_7, r4_8, r4_9, r4_10, mf_X4_sheetsThatAsk_l5, mf_X4_sheetsThatAsk_b46, r55_0, q2, qp i hi, c_askedS hr hH hi hb, e, gbN, e2, Bool.false_eq_true, Nat.add_zero]
  · simp (disch := (first | assumption | omega | (refine gRC.row ?_ ?_ <;> first | assumption | omega | (refine gRC.row ?_ ?_ <;> first | assumption | omega)))) only [zlet_ok, zcl_ok, zl_lit, zl_m1, nI_add, zald_nI, nI_ltE, nI_leE, nI_eqE, zm1_lt', zm1_le', zm1_nlt', zm1_nle', zm1_ne, zm1_ne', zm1_add1, gwI, grI_rI, zrI_s, zrI_n, zrI_L, gwL, grL_rL, zrL_s, zrL_n, zrL_I, Nat.zero_add, ↓reduceIte, if_true, if_false, gB_0, gB_1, gB_01, zchk_t, gB_1e, eq_self, gcle, gcnle, gclt, gcnlt, gcne, not_true_eq_false, not_false_eq_true, true_or, or_true, false_or, or_false, true_and, and_true, false_and, and_false, r4_6, r4_7, r4_8, r4_9, r4_10, mf_X4_sheetsThatAsk_l5, r55_0, q2, Nat.le_refl]
def gWh (h : zN) (tb : Nat → Nat) : Nat → Nat → Bool
  | 0, _ => true
  | i + 1, s => gWh h tb i s && gTA h (tb (2 * i)) (tb (2 * i + 1)) s
theorem gWh_t {h : zN} {tb : Nat → Nat} {s : Nat} : ∀ {n : Nat}, (∀ i, i < n → gTA h (tb (2 * i)) (tb (2 * i + 1)) s = true) → gWh h tb n s = true
  | 0, _ => rfl
  | n + 1, e => by rw [gWh, gWh_t (fun i hi => e i (by omega)), e n (by omega)]; rfl
theorem gWh_f {h : zN} {tb : Nat → Nat} {s i : Nat} (e : gTA h (tb (2 * i)) (tb (2 * i + 1)) s = false) : ∀ {n : Nat}, i < n → gWh h tb n s = false
  | 0, hi => by omega
  | n + 1, hi => by
    rw [gWh]
    by_cases q : i = n
    · rw [← q, e, Bool.and_false]
    · rw [gWh_f e (by omega), Bool.false_and]
/-- the first pair that has no bath -/
def gNb (h : zN) (tb : Nat → Nat) (m : Nat) : Nat := gff (fun i => decide (h 0 ≤ tb (2 * i))) m 0
theorem c_byTape {h : zN} {M : zMem} {tb : Nat → Nat} {m : Nat} (hr : gRC h M) (hH : gH h) (hm1 : 1 ≤ m) (hm : m ≤ 6) (h1 : M.1 1 1 = nI (2 * m)) (ht : ∀ j, j < 2 * m → tb j < 256 ∧ M.1 2 j = nI (tb j)) : mf_X4_sheetsByTape gR 55 1 M = some ((if gNb h tb m = m then nI (gbN (gWh h tb m) (h 2)) else zm1), M) := by
  obtain ⟨q0, q1, q2, q3, q4, q5, qh, ql, qp, qa⟩ := id hr
  obtain ⟨k0, k1, k2, k3, k4, k5, kh, kl, ka, kp⟩ := id hH
  have lm := gff_le (fun i => decide (h 0 ≤ tb (2 * i))) m 0
  have lm2 : gNb h tb m ≤ m := by unfold gNb; omega
  have e0 : gbN (gWh h tb 0) (h 2) = 2 ^ h 2 - 1 := gbN_all (h 2)
  unfold mf_X4_sheetsByTape
  simp only [zl_lit, zl_m1, zlet_ok]
  rw [h1, if_neg (by rw [nI_ltI (by omega) (by omega)]; omega), if_neg (by rw [nI_ltI (by omega) (by omega)]; omega), pk_rem (by omega) (by omega) (by omega), show 2 * m % 2 = 0 by omega, if_pos rfl, r55_0, q2, gmask8 (h 2) (by omega), ← e0]
  refine gfor (G := fun f i => mf_X4_sheetsByTape_l39 gR 55 1 f (nI (2 * m)) (nI (gbN (gWh h tb i) (h 2))) (nI (2 * i)) M) (n := gNb h tb m) (fun f i hi => ?_) (fun f => ?_) _ (by first | (show _ < 5000; omega) | omega)
  · have hi2 : i < m := by omega
    have e := gff_n (p := fun i => decide (h 0 ≤ tb (2 * i))) (n := m) (k := 0) i (by omega) hi
    have e1 : ¬ h 0 ≤ tb (2 * i) := of_decide_eq_false e
    obtain ⟨b1, b2⟩ := ht (2 * i) (by omega)
    obtain ⟨b3, b4⟩ := ht (2 * i + 1) (by omega)
    rw [mf_X4_sheetsByTape_l39]
    simp only [zl_lit, zlet_ok]
    rw [nI_add, if_neg (by rw [nI_leI (by omega) (by omega)]; omega), zald_nI (by omega) (by omega), r1_0, r55_0, b2, c_hasBath hr hH (by omega), zcl_ok, if_neg (by decide +kernel), zald_nI (by omega) (by omega), zald_nI (by omega) (by omega), b2, b4, c_thatAsk hr hH (by omega) b3, zcl_ok, nI_and, gbN_and, nI_add]
    try rfl
  · by_cases e : gNb h tb m = m
    · rw [e, if_pos rfl, mf_X4_sheetsByTape_l39]
      simp only [zl_lit]
      rw [nI_add, if_pos (by rw [nI_leI (by omega) (by omega)]; omega)]
    · have e1 := gff_p (p := fun i => decide (h 0 ≤ tb (2 * i))) (n := m) (k := 0) (by unfold gNb at e lm2; omega)
      have e2 : h 0 ≤ tb (2 * gNb h tb m) := of_decide_eq_true e1
      obtain ⟨b1, b2⟩ := ht (2 * gNb h tb m) (by omega)
      have ho : gOut (h 0) (nI (tb (2 * gNb h tb m))) := Or.inr ((nI_leI (by omega) (by omega)).mpr e2)
      rw [if_neg e, mf_X4_sheetsByTape_l39]
      simp only [zl_lit, zl_m1]
      rw [nI_add, if_neg (by rw [nI_leI (by omega) (by omega)]; omega), zald_nI (by omega) (by omega), r1_0, r55_0, b2, c_hasBath_n hr ho, zcl_ok, if_pos rfl]
def gAl (h : zN) (p : Nat → Bool) (b s : Nat) : Nat := gct (fun o => p o && decide (gAsk h o b = gAsk h s b)) 8
def gLB (h : zN) (p : Nat → Bool) (b n : Nat) : Nat := gFo (fun s w => if p s then (if w < gAl h p b s then gAl h p b s else w) else w) n 0
theorem gct_le {p : Nat → Bool} {n : Nat} : gct p n ≤ n := by
  have : gct p n ≤ n * 1 := gsm_le (fun k hk => by split <;> omega)
  omega
theorem gLB_le {h : zN} {p : Nat → Bool} {b : Nat} : ∀ {n : Nat}, gLB h p b n ≤ 8
  | 0 => Nat.zero_le _
  | n + 1 => by
    have ih := gLB_le (h := h) (p := p) (b := b) (n := n)
    have lc : gAl h p b n ≤ 8 := gct_le
    show (if p n then (if gLB h p b n < gAl h p b n then gAl h p b n else gLB h p b n) else gLB h p b n) ≤ 8
    split
    · split <;> omega
    · exact ih
def gAk (h : zN) (p : Nat → Bool) (n : Nat) : Nat := gFo (fun k w => if gLB h p (k + 1) (h 2) < gLB h p w (h 2) then k + 1 else w) n 0
theorem gAk_le {h : zN} {p : Nat → Bool} : ∀ {n : Nat}, gAk h p n ≤ n
  | 0 => Nat.le_refl _
  | n + 1 => by
    have ih := gAk_le (h := h) (p := p) (n := n)
    show (if gLB h p (n + 1) (h 2) < gLB h p (gAk h p n) (h 2) then n + 1 else gAk h p n) ≤ n + 1
    split <;> omega
theorem gB01 {b : Bool} : (nI (if b = true then 1 else 0) = nI 0) = (b = false) := by cases b <;> decide +kernel
theorem c_choose22 {h : zN} {M : zMem} {p : Nat → Bool} {b : Nat} {x : Int32} {H5 : Int32 → Int32 → Int32 → zMem → Option (Unit × zMem)} (hr : gRC h M) (hH : gH h) (hb : b < h 0) (hp : ∀ s, h 2 ≤ s → p s = false) : mf_X4_chooseQuestion_l22 gR 55 H5 zF (nI (gbN p 8)) x (nI b) (nI 0) (nI 0) M = if x ≤ nI (gLB h p b (h 2)) then H5 (nI (gbN p 8)) x (nI (b + 1)) M else H5 (nI (gbN p 8)) (nI (gLB h p b (h 2))) (nI (b + 1)) (zwI M 55 5 (nI b)) := by
  obtain ⟨q0, q1, q2, q3, q4, q5, qh, ql, qp, qa⟩ := id hr
  obtain ⟨k0, k1, k2, k3, k4, k5, kh, kl, ka, kp⟩ := id hH
  have l256 := gbN_256 (p := p) (Nat.le_refl 8)
  refine gfor (G := fun f i => mf_X4_chooseQuestion_l22 gR 55 H5 f (nI (gbN p 8)) x (nI b) (nI (gLB h p b i)) (nI i) M) (n := h 2) (fun f i hi => ?_) (fun f => ?_) _ (by first | (show _ < 5000; omega) | omega)
  · have l1 := gask_le hH hi hb
    have ll := gLB_le (h := h) (p := p) (b := b) (n := i)
    have lc : gAl h p b i ≤ 8 := gct_le
    have ed := gbN_div (p := p) (n := 8) (s := i) (by omega)
    have es : gLB h p b (i + 1) = if p i then (if gLB h p b i < gAl h p b i then gAl h p b i else gLB h p b i) else gLB h p b i := rfl
    rw [es, mf_X4_chooseQuestion_l22]
    simp only [zl_lit, zlet_ok]
    rw [r55_0, q2, if_neg (by rw [nI_leI (by omega) (by omega)]; omega), nI_shr8 i (by omega) _ l256, nI_and, Nat.and_one_is_mod, ed]
    cases hpi : p i
    · rw [if_pos (by decide +kernel), if_neg Bool.false_ne_true]
      unfold mf_X4_chooseQuestion_b82
      rw [zl_lit, nI_add]
    · have eA : gbN (gTA h b (gAsk h i b)) (h 2) &&& gbN p 8 = gbN (fun o => p o && decide (gAsk h o b = gAsk h i b)) 8 := by
        have e1 : gbN p 8 = gbN p (h 2) := gbN_set k2 (fun k h1 _ => hp k h1)
        rw [e1, gbN_and]
        have e2 : gbN (fun o => p o && decide (gAsk h o b = gAsk h i b)) 8 = gbN (fun o => p o && decide (gAsk h o b = gAsk h i b)) (h 2) := gbN_set k2 (fun k h1 _ => by rw [hp k h1]; rfl)
        rw [e2]
        exact gbN_cong (fun k _ => Bool.and_comm _ _)
      rw [if_neg (by decide +kernel), zald_nI (by omega) (by omega), r4_8, qp i hi, c_askedS hr hH hi hb, zcl_ok, c_thatAsk hr hH hb (by omega), zcl_ok, nI_and, eA, c_bits (gbN_256 (Nat.le_refl 8)), gpc_ct, zcl_ok, if_pos rfl]
      show mf_X4_chooseQuestion_b82 gR 55 H5 _ _ x _ (if nI (gLB h p b i) < nI (gAl h p b i) then nI (gAl h p b i) else nI (gLB h p b i)) _ M = _
      unfold mf_X4_chooseQuestion_b82
      rw [zl_lit, nI_add]
      by_cases e3 : gLB h p b i < gAl h p b i
      · rw [if_pos e3, if_pos ((nI_ltI (by omega) (by omega)).mpr e3)]
      · rw [if_neg e3, if_neg (by rw [nI_ltI (by omega) (by omega)]; exact e3)]
  · rw [mf_X4_chooseQuestion_l22]
    simp only [zlet_ok]
    rw [r55_0, q2, if_pos (by rw [nI_leI (by omega) (by omega)]; omega)]
    unfold mf_X4_chooseQuestion_b102
    rw [zl_lit, nI_add]
theorem gw55 {M : zMem} {v w : Int32} : zwI (zwI M 55 5 v) 55 5 w = zwI M 55 5 w := by
  rw [gwI, gwI, gwI, grI_rI, zrI_s]
  congr 1
  funext j
  unfold upd
  split <;> rfl
theorem c_choose {h : zN} {M : zMem} {p : Nat → Bool} (hr : gRC h M) (hH : gH h) (h0 : 0 < h 0) (hp : ∀ s, h 2 ≤ s → p s = false) : mf_X4_chooseQuestion gR 55 (nI (gbN p 8)) M = some ((), zwI M 55 5 (nI (gAk h p (h 0 - 1)))) := by
  obtain ⟨q0, q1, q2, q3, q4, q5, qh, ql, qp, qa⟩ := id hr
  obtain ⟨k0, k1, k2, k3, k4, k5, kh, kl, ka, kp⟩ := id hH
  unfold mf_X4_chooseQuestion
  obtain ⟨f0, hf0, hf1⟩ : ∃ f, zF = f + 1 ∧ 100 < f := ⟨4999, rfl, by decide⟩
  have l1 := gLB_le (h := h) (p := p) (b := 0) (n := h 2)
  simp only [zl_lit]
  rw [hf0, mf_X4_chooseQuestion_l5, r55_0, q0, if_neg (by rw [nI_leI (by omega) (by omega)]; omega), zl_lit, c_choose22 hr hH h0 hp, if_neg (by rw [nI_leI (by omega) (by omega)]; omega)]
  have key : ∀ f, h 0 - 1 < f → mf_X4_chooseQuestion_l5 gR 55 f (nI (gbN p 8)) (nI (gLB h p (gAk h p 0) (h 2))) (nI (0 + 1)) (zwI M 55 5 (nI (gAk h p 0))) = some ((), zwI M 55 5 (nI (gAk h p (h 0 - 1)))) := by
    refine gfor (G := fun f k => mf_X4_chooseQuestion_l5 gR 55 f (nI (gbN p 8)) (nI (gLB h p (gAk h p k) (h 2))) (nI (k + 1)) (zwI M 55 5 (nI (gAk h p k)))) (n := h 0 - 1) (fun f k hk => ?_) (fun f => ?_)
    · have hr2 : gRC h (zwI M 55 5 (nI (gAk h p k))) := gRC.row (by decide) hr
      have l2 := gLB_le (h := h) (p := p) (b := k + 1) (n := h 2)
      have l3 := gLB_le (h := h) (p := p) (b := gAk h p k) (n := h 2)
      have e40 : (zwI M 55 5 (nI (gAk h p k))).1 4 0 = nI (h 0) := by rw [zwI_n (by decide)]; exact q0
      rw [mf_X4_chooseQuestion_l5, r55_0, e40, if_neg (by rw [nI_leI (by omega) (by omega)]; omega), zl_lit, c_choose22 hr2 hH (by omega) hp, gw55, show gAk h p (k + 1) = if gLB h p (k + 1) (h 2) < gLB h p (gAk h p k) (h 2) then k + 1 else gAk h p k from rfl]
      by_cases e : gLB h p (k + 1) (h 2) < gLB h p (gAk h p k) (h 2)
      · rw [if_pos e, if_neg (by rw [nI_leI (by omega) (by omega)]; omega)]
      · rw [if_neg e, if_pos (by rw [nI_leI (by omega) (by omega)]; omega)]
    · have e40 : (zwI M 55 5 (nI (gAk h p (h 0 - 1)))).1 4 0 = nI (h 0) := by rw [zwI_n (by decide)]; exact q0
      rw [mf_X4_chooseQuestion_l5, r55_0, e40, if_pos (by rw [nI_leI (by omega) (by omega)]; omega)]
  exact key f0 (by omega)
/-! the reference -/
theorem m_leftBy34 {h a : zN} {t : Nat → Int32} {M : zMem} {p : Nat → Bool} {b s w : Nat} {H5 : Int32 → Int32 → Int32 → Int32 → zMem → Option (Int32 × zMem)} (hH : gH h) (hb : b < h 0) (hs : s < h 2) (hw : w ≤ 8) (hp : ∀ s, h 2 ≤ s → p s = false) : mf_X12_leftBy_l34 gR 89 H5 zF (nI (gbN p 8)) (nI b) (nI w) (nI s) (nI 0) (nI 0) (zrowI M 91 (encM h a t)) = H5 (nI (gbN p 8)) (nI b) (nI (if w < gAl h p b s then gAl h p b s else w)) (nI (s + 1)) (zrowI M 91 (encM h a t)) := by
  obtain ⟨k0, k1, k2, k3, k4, k5, kh, kl, ka, kp⟩ := id hH
  have l1 := gask_le hH hs hb
  have e9 : gct (fun o => p o && decide (gAsk h o b = gAsk h s b)) (h 2) = gAl h p b s := by
    unfold gAl
    have : ∀ m, h 2 + m = 8 → ∀ k, k ≤ m → gct (fun o => p o && decide (gAsk h o b = gAsk h s b)) (h 2 + k) = gct (fun o => p o && decide (gAsk h o b = gAsk h s b)) (h 2) := by
      intro m hm k
      induction k with
      | zero => intro _; rfl
      | succ k ih =>
        intro hk
        have e1 : gct (fun o => p o && decide (gAsk h o b = gAsk h s b)) (h 2 + (k + 1)) = gct (fun o => p o && decide (gAsk h o b = gAsk h s b)) (h 2 + k) + (if (p (h 2 + k) && decide (gAsk h (h 2 + k) b = gAsk h s b)) then 1 else 0) := rfl
        rw [e1, ih (by omega), hp (h 2 + k) (by omega)]
        try rfl
    have := this (8 - h 2) (by omega) (8 - h 2) (Nat.le_refl _)
    rw [show h 2 + (8 - h 2) = 8 by omega] at this
    exact this.symm
  have lc : gAl h p b s ≤ 8 := gct_le
  refine gfor (G := fun f i => mf_X12_leftBy_l34 gR 89 H5 f (nI (gbN p 8)) (nI b) (nI w) (nI s) (nI (gct (fun o => p o && decide (gAsk h o b = gAsk h s b)) i)) (nI i) (zrowI M 91 (encM h a t))) (n := h 2) (fun f i hi => ?_) (fun f => ?_) _ (by first | (show _ < 5000; omega) | omega)
  · have l2 := gask_le hH hi hb
    have es : gct (fun o => p o && decide (gAsk h o b = gAsk h s b)) (i + 1) = gct (fun o => p o && decide (gAsk h o b = gAsk h s b)) i + (if (p i && decide (gAsk h i b = gAsk h s b)) then 1 else 0) := rfl
    rw [es, mf_X12_leftBy_l34]
    simp only [zl_lit]
    rw [zald_nI (by omega) (by omega), r89_14, zrI_s, eM_h (by omega), if_neg (by rw [nI_leI (by omega) (by omega)]; omega), m_has (by omega), zcl_ok]
    cases hpi : p i
    · rw [if_pos gB_f]
      unfold mf_X12_leftBy_b74
      rw [zl_lit, nI_add]
      try rfl
    · rw [if_neg (by decide +kernel), m_askedBy hH hi hb, zcl_ok, m_askedBy hH hs hb, zcl_ok]
      by_cases e : gAsk h i b = gAsk h s b
      · rw [if_pos (by rw [e]), decide_eq_true e]
        unfold mf_X12_leftBy_b74
        simp only [zl_lit]
        rw [nI_add, nI_add]
        try rfl
      · rw [if_neg (by rw [nI_eq (by omega) (by omega)]; exact e), decide_eq_false e]
        unfold mf_X12_leftBy_b74
        simp only [zl_lit]
        rw [nI_add]
        try rfl
  · rw [mf_X12_leftBy_l34, e9]
    simp only [zl_lit]
    rw [zald_nI (by omega) (by omega), r89_14, zrI_s, eM_h (by omega), if_pos (by rw [nI_leI (by omega) (by omega)]; omega)]
    unfold mf_X12_leftBy_b89
    simp only [zl_lit]
    rw [nI_add]
    by_cases e : w < gAl h p b s
    · rw [if_pos e, if_neg (by rw [nI_leI (by omega) (by omega)]; omega)]
    · rw [if_neg e, if_pos (by rw [nI_leI (by omega) (by omega)]; omega)]
theorem m_leftBy {h a : zN} {t : Nat → Int32} {M : zMem} {p : Nat → Bool} {b : Nat} (hH : gH h) (hb : b < h 0) (hp : ∀ s, h 2 ≤ s → p s = false) : mf_X12_leftBy gR 89 (nI (gbN p 8)) (nI b) (zrowI M 91 (encM h a t)) = some (nI (gLB h p b (h 2)), zrowI M 91 (encM h a t)) := by
  obtain ⟨k0, k1, k2, k3, k4, k5, kh, kl, ka, kp⟩ := id hH
  unfold mf_X12_leftBy
  refine gfor (G := fun f i => mf_X12_leftBy_l5 gR 89 f (nI (gbN p 8)) (nI b) (nI (gLB h p b i)) (nI i) (zrowI M 91 (encM h a t))) (n := h 2) (fun f i hi => ?_) (fun f => ?_) _ (by first | (show _ < 5000; omega) | omega)
  · have ll := gLB_le (h := h) (p := p) (b := b) (n := i)
    have es : gLB h p b (i + 1) = if p i then (if gLB h p b i < gAl h p b i then gAl h p b i else gLB h p b i) else gLB h p b i := rfl
    rw [es, mf_X12_leftBy_l5]
    simp only [zl_lit]
    rw [zald_nI (by omega) (by omega), r89_14, zrI_s, eM_h (by omega), if_neg (by rw [nI_leI (by omega) (by omega)]; omega), m_has (by omega), zcl_ok]
    cases hpi : p i
    · rw [if_pos gB_f]
      unfold mf_X12_leftBy_b89
      simp only [zl_lit]
      rw [nI_add]
      try rfl
    · rw [if_neg (by decide +kernel), m_leftBy34 hH hb hi ll hp]
      try rfl
  · rw [mf_X12_leftBy_l5]
    simp only [zl_lit]
    rw [zald_nI (by omega) (by omega), r89_14, zrI_s, eM_h (by omega), if_pos (by rw [nI_leI (by omega) (by omega)]; omega)]
theorem m_isTold {h a : zN} {t : Nat → Int32} {M : zMem} {tb : Nat → Nat} {m s : Nat} (hH : gH h) (hs : s < h 2) (hm : m ≤ 6) (ht : ∀ j, j < 2 * m → tb j < 256 ∧ M.1 90 j = nI (tb j)) (hbb : ∀ i, i < m → tb (2 * i) < h 0) : mf_X12_isTold gR 89 (nI s) (nI (2 * m)) (zrowI M 91 (encM h a t)) = some (gB (gWh h tb m s), zrowI M 91 (encM h a t)) := by
  obtain ⟨k0, k1, k2, k3, k4, k5, kh, kl, ka, kp⟩ := id hH
  have lm := gff_le (fun i => !gTA h (tb (2 * i)) (tb (2 * i + 1)) s) m 0
  unfold mf_X12_isTold
  refine gfor (G := fun f i => mf_X12_isTold_l2 gR 89 f (nI s) (nI (2 * m)) (nI (2 * i)) (zrowI M 91 (encM h a t))) (n := gff (fun i => !gTA h (tb (2 * i)) (tb (2 * i + 1)) s) m 0) (fun f i hi => ?_) (fun f => ?_) _ (by first | (show _ < 5000; omega) | omega)
  · have hi2 : i < m := by omega
    have e := gff_n (p := fun i => !gTA h (tb (2 * i)) (tb (2 * i + 1)) s) (n := m) (k := 0) i (by omega) hi
    have e1 : gTA h (tb (2 * i)) (tb (2 * i + 1)) s = true := by simpa using e
    have e2 : gAsk h s (tb (2 * i)) = tb (2 * i + 1) := of_decide_eq_true e1
    obtain ⟨b1, b2⟩ := ht (2 * i) (by omega)
    obtain ⟨b3, b4⟩ := ht (2 * i + 1) (by omega)
    rw [mf_X12_isTold_l2]
    simp only [zl_lit]
    rw [if_neg (by rw [nI_leI (by omega) (by omega)]; omega), zald_nI (by omega) (by omega), r89_1, zrI_n (by decide), b2, m_askedBy hH hs (hbb i hi2), zcl_ok, nI_add, zald_nI (by omega) (by omega), zrI_n (by decide), b4, e2, if_pos rfl, nI_add]
    try rfl
  · by_cases e0 : gff (fun i => !gTA h (tb (2 * i)) (tb (2 * i + 1)) s) m 0 = m
    · have e1 : gWh h tb m s = true := gWh_t (fun i hi => by
        have e := gff_n (p := fun i => !gTA h (tb (2 * i)) (tb (2 * i + 1)) s) (n := m) (k := 0) i (by omega) (by omega)
        simpa using e)
      rw [e0, e1, mf_X12_isTold_l2, if_pos (by rw [nI_leI (by omega) (by omega)]; omega)]
      try rfl
    · have e := gff_p (p := fun i => !gTA h (tb (2 * i)) (tb (2 * i + 1)) s) (n := m) (k := 0) (by omega)
      generalize gff (fun i => !gTA h (tb (2 * i)) (tb (2 * i + 1)) s) m 0 = i at e e0 lm
      have hi2 : i < m := by omega
      have e1 : gTA h (tb (2 * i)) (tb (2 * i + 1)) s = false := by simpa using e
      have e2 : ¬ gAsk h s (tb (2 * i)) = tb (2 * i + 1) := of_decide_eq_false e1
      have l1 := gask_le hH hs (hbb i hi2)
      obtain ⟨b1, b2⟩ := ht (2 * i) (by omega)
      obtain ⟨b3, b4⟩ := ht (2 * i + 1) (by omega)
      rw [gWh_f e1 hi2, mf_X12_isTold_l2]
      simp only [zl_lit]
      rw [if_neg (by rw [nI_leI (by omega) (by omega)]; omega), zald_nI (by omega) (by omega), r89_1, zrI_n (by decide), b2, m_askedBy hH hs (hbb i hi2), zcl_ok, nI_add, zald_nI (by omega) (by omega), zrI_n (by decide), b4, if_neg (by rw [nI_eq (by omega) (by omega)]; exact e2)]
      try rfl
theorem gw_91' {M : zMem} {E : Nat → Int32} {k : Nat} {v : Int32} : zrowI (zwI M 89 k v) 91 E = zwI (zrowI M 91 E) 89 k v := gw_91.symm
theorem m_who106 {h a : zN} {t : Nat → Int32} {M : zMem} {p : Nat → Bool} (hH : gH h) (h0 : 0 < h 0) (hp : ∀ s, h 2 ≤ s → p s = false) : mf_X12_who_l106 gR 89 zF (nI (gbN p 8)) (nI 1) (zrowI (zwI M 89 35 (nI 0)) 91 (encM h a t)) = some (nI (gbN p 8), zrowI (zwI M 89 35 (nI (gAk h p (h 0 - 1)))) 91 (encM h a t)) := by
  obtain ⟨k0, k1, k2, k3, k4, k5, kh, kl, ka, kp⟩ := id hH
  refine gfor (G := fun f k => mf_X12_who_l106 gR 89 f (nI (gbN p 8)) (nI (k + 1)) (zrowI (zwI M 89 35 (nI (gAk h p k))) 91 (encM h a t))) (n := h 0 - 1) (fun f i hi => ?_) (fun f => ?_) _ (by first | (show _ < 5000; omega) | omega)
  · have l2 := gLB_le (h := h) (p := p) (b := i + 1) (n := h 2)
    have l3 := gLB_le (h := h) (p := p) (b := gAk h p i) (n := h 2)
    have l4 := gAk_le (h := h) (p := p) (n := i)
    have e35 : (zrowI (zwI M 89 35 (nI (gAk h p i))) 91 (encM h a t)).1 89 35 = nI (gAk h p i) := by rw [zrI_n (by decide), zwI_s, upd_s]
    rw [mf_X12_who_l106]
    simp only [zl_lit, zlet_ok]
    rw [zald_nI (by omega) (by omega), r89_14, zrI_s, eM_h (by omega), if_neg (by rw [nI_leI (by omega) (by omega)]; omega), m_leftBy hH (by omega) hp, zcl_ok, e35, m_leftBy hH (by omega) hp, zcl_ok, gw_91, gw9_9, show gAk h p (i + 1) = if gLB h p (i + 1) (h 2) < gLB h p (gAk h p i) (h 2) then i + 1 else gAk h p i from rfl]
    unfold mf_X12_who_b139
    simp only [zl_lit]
    rw [nI_add]
    by_cases e : gLB h p (i + 1) (h 2) < gLB h p (gAk h p i) (h 2)
    · rw [if_pos e, if_neg (by rw [nI_leI (by omega) (by omega)]; omega)]
    · rw [if_neg e, if_pos (by rw [nI_leI (by omega) (by omega)]; omega)]
  · rw [mf_X12_who_l106]
    simp only [zl_lit]
    rw [zald_nI (by omega) (by omega), r89_14, zrI_s, eM_h (by omega), if_pos (by rw [nI_leI (by omega) (by omega)]; omega)]
theorem m_who62 {h a : zN} {t : Nat → Int32} {M : zMem} {tb : Nat → Nat} {m : Nat} (hH : gH h) (hm : m ≤ 6) (hm1 : 1 ≤ m) (ht : ∀ j, j < 2 * m → tb j < 256 ∧ M.1 90 j = nI (tb j)) (hbb : ∀ i, i < m → tb (2 * i) < h 0) : mf_X12_who_l62 gR 89 zF (nI (2 * m)) (nI 0) (nI 0) (zrowI M 91 (encM h a t)) = if gbN (gWh h tb m) (h 2) = 0 then some (nI 0, zrowI M 91 (encM h a t)) else some (nI (gbN (gWh h tb m) (h 2)), zrowI (zwI M 89 35 (nI (gAk h (fun s => gWh h tb m s && decide (s < h 2)) (h 0 - 1)))) 91 (encM h a t)) := by
  obtain ⟨k0, k1, k2, k3, k4, k5, kh, kl, ka, kp⟩ := id hH
  have hb0 := hbb 0 (by omega)
  have e8 : gbN (fun s => gWh h tb m s && decide (s < h 2)) 8 = gbN (gWh h tb m) (h 2) := by
    rw [gbN_set (n := h 2) k2 (fun k h1 _ => by rw [decide_eq_false (by omega)]; exact Bool.and_false _)]
    exact gbN_cong (fun k hk => by rw [decide_eq_true hk, Bool.and_true])
  have l256 := gbN_256 (p := gWh h tb m) k2
  refine gfor (G := fun f i => mf_X12_who_l62 gR 89 f (nI (2 * m)) (nI (gbN (gWh h tb m) i)) (nI i) (zrowI M 91 (encM h a t))) (n := h 2) (fun f i hi => ?_) (fun f => ?_) _ (by first | (show _ < 5000; omega) | omega)
  · rw [mf_X12_who_l62]
    simp only [zl_lit, zlet_ok]
    rw [zald_nI (by omega) (by omega), r89_14, zrI_s, eM_h (by omega), if_neg (by rw [nI_leI (by omega) (by omega)]; omega), m_isTold hH hi hm ht hbb, zcl_ok]
    unfold mf_X12_who_b87
    simp only [zl_lit]
    rw [nI_add, show gbN (gWh h tb m) (i + 1) = gbN (gWh h tb m) i + if gWh h tb m i then 2 ^ i else 0 from rfl]
    cases e : gWh h tb m i
    · rw [if_pos gB_f]
      try rfl
    · rw [if_neg (by decide +kernel), gbN_or (by omega)]
      try rfl
  · rw [mf_X12_who_l62]
    simp only [zl_lit, zlet_ok]
    rw [zald_nI (by omega) (by omega), r89_14, zrI_s, eM_h (by omega), if_pos (by rw [nI_leI (by omega) (by omega)]; omega), gw_91, ← e8]
    by_cases e : gbN (fun s => gWh h tb m s && decide (s < h 2)) 8 = 0
    · rw [e, if_pos rfl, if_pos rfl]
    · rw [if_neg e, if_neg (by rw [nI_eq (by omega) (by omega)]; exact e)]
      exact m_who106 hH (by omega) (fun s hs => by rw [decide_eq_false (by omega)]; exact Bool.and_false _)
def gAI (M : zMem) : Prop := M.1 55 5 = M.1 89 35
theorem q_who {h a : zN} {t : Nat → Int32} {tl : Nat} {tb : Nat → Nat} {M : zMem} (W : gW h a t M) (T : gTp tl tb M) (A : gAI M) : ∃ r M1 M2, mf_X11_who gR 0 M = some (r, M1) ∧ mf_X12_who gR 89 M1 = some (r, M2) ∧ gF [1, 55] [0, 2, 35] M M2 ∧ M2.1 1 = upd (M.1 1) 1 (nI 0) ∧ M2.1 89 2 = nI 0 ∧ M2.1 55 4 = M.1 55 4 ∧ gAI M2 := by
  have W0 := W
  obtain ⟨hr, hc0, hm, hH, hA⟩ := W
  obtain ⟨z, hc⟩ : ∃ z, M.1 17 = eC a z := ⟨_, hc0⟩
  have hc' : M.1 17 = encC a (gIn a) z := hc
  obtain ⟨q0, q1, q2, q3, q4, q5, qh, ql, qp, qa⟩ := id hr
  obtain ⟨k0, k1, k2, k3, k4, k5, kh, kl, ka, kp⟩ := id hH
  have hm0 : (zwI M 89 0 (nI 0)).1 91 = encM h a t := by rw [zwI_n (by decide)]; exact hm
  obtain ⟨t1, t2, t3, t4⟩ := T
  have hgo : ∀ M1 : zMem, M1.1 89 2 = nI tl → mf_X12_who gR 89 M1 = (if nI (tl % 2) = nI 0 then zcl (mf_X12_isIn gR (nI (tl / 2)) (nI 1) (nI 6) (zwI (zwI M1 89 0 (nI 0)) 89 2 (nI 0))) fun r6 M5 => if r6 = nI 0 then some (zm1, M5) else mf_X12_who_l32 gR 89 zF (nI tl) (nI 0) M5 else some (zm1, zwI (zwI M1 89 0 (nI 0)) 89 2 (nI 0))) := fun M1 e => by
    have e2 : (zwI M1 89 0 (nI 0)).1 89 2 = nI tl := by rw [zwI_s, upd_n (by decide)]; exact e
    unfold mf_X12_who mf_X12_take
    simp only [zl_lit, zl_m1, zlet_ok]
    rw [e2, zcl_ok, pk_rem (by omega) (by omega) (by omega), pk_div (by omega) (by omega) (by omega)]
  have f1 : gF [1, 55] [0, 2, 35] M (zwI M 1 1 (nI 0)) := gF.wI gF.r (by decide) (by decide)
  have f2 : gF [1, 55] [0, 2, 35] M (zwI (zwI (zwI M 1 1 (nI 0)) 89 0 (nI 0)) 89 2 (nI 0)) := gF.w9 (gF.w9 f1 (by decide)) (by decide)
  have hm2 : (zwI (zwI (zwI M 1 1 (nI 0)) 89 0 (nI 0)) 89 2 (nI 0)).1 91 = encM h a t := by rw [f2.1 91 (by decide) (by decide)]; exact hm
  have e1 : (zwI (zwI (zwI M 1 1 (nI 0)) 89 0 (nI 0)) 89 2 (nI 0)).1 1 = upd (M.1 1) 1 (nI 0) := by rw [zwI_n (by decide), zwI_n (by decide), zwI_s]
  have e55 : (zwI (zwI (zwI M 1 1 (nI 0)) 89 0 (nI 0)) 89 2 (nI 0)).1 55 = M.1 55 := by rw [zwI_n (by decide), zwI_n (by decide), zwI_n (by decide)]
  have e35 : (zwI (zwI (zwI M 1 1 (nI 0)) 89 0 (nI 0)) 89 2 (nI 0)).1 89 35 = M.1 89 35 := by rw [zwI_s, upd_n (by decide), zwI_s, upd_n (by decide), zwI_n (by decide)]
  have e2f : (zwI (zwI (zwI M 1 1 (nI 0)) 89 0 (nI 0)) 89 2 (nI 0)).1 89 2 = nI 0 := by rw [zwI_s, upd_s]
  have hA2 : gAI (zwI (zwI (zwI M 1 1 (nI 0)) 89 0 (nI 0)) 89 2 (nI 0)) := by unfold gAI; rw [e55, e35]; exact A
  have href0 : (zwI M 1 1 (nI 0)).1 89 2 = nI tl := by rw [zwI_n (by decide)]; exact t3
  have clsNone : mf_X4_sheetsByTape gR 55 1 M = some (zm1, M) → mf_X11_who gR 0 M = some (zm1, zwI M 1 1 (nI 0)) := fun e => by
    unfold mf_X11_who
    simp only [zl_lit, zlet_ok]
    rw [r0_10, r0_0, e, zcl_ok, if_pos (by decide +kernel)]
  by_cases eo : tl % 2 = 1 ∨ tl < 2 ∨ 12 < tl
  · refine ⟨zm1, zwI M 1 1 (nI 0), zwI (zwI (zwI M 1 1 (nI 0)) 89 0 (nI 0)) 89 2 (nI 0), clsNone ?_, ?_, f2, e1, e2f, by rw [e55], hA2⟩
    · unfold mf_X4_sheetsByTape
      simp only [zl_lit, zl_m1, zlet_ok]
      rw [t2, pk_rem (by omega) (by omega) (by omega)]
      by_cases w1 : tl < 2
      · rw [if_pos ((nI_ltI (by omega) (by omega)).mpr w1)]
      · rw [if_neg (by rw [nI_ltI (by omega) (by omega)]; exact w1)]
        by_cases w2 : 12 < tl
        · rw [if_pos ((nI_ltI (by omega) (by omega)).mpr w2)]
        · rw [if_neg (by rw [nI_ltI (by omega) (by omega)]; exact w2), if_neg (by rw [nI_eq (by omega) (by omega)]; omega)]
    · rw [hgo _ href0]
      by_cases w1 : tl % 2 = 0
      · rw [w1, if_pos rfl]
        by_cases w2 : tl / 2 < 1
        · rw [m_isInN w2 (by omega), zcl_ok, if_pos rfl]
        · rw [m_isInO (n := 6) (by omega) (Or.inr ((nI_leI (by omega) (by omega)).mpr (by omega))), zcl_ok, if_pos rfl]
      · rw [if_neg (by rw [nI_eq (by omega) (by omega)]; exact w1)]
  · obtain ⟨m, hm'⟩ : ∃ m, tl = 2 * m := ⟨tl / 2, by omega⟩
    subst hm'
    have m1 : 1 ≤ m := by omega
    have m6 : m ≤ 6 := by omega
    have ct := c_byTape (tb := tb) hr hH m1 m6 t2 (fun j hj => ⟨(t4 j hj).1, (t4 j hj).2.1⟩)
    have lm := gff_le (fun i => decide (h 0 ≤ tb (2 * i))) m 0
    have lm2 : gNb h tb m ≤ m := by unfold gNb; omega
    have ht2 : ∀ j, j < 2 * m → tb j < 256 ∧ (zwI (zwI (zwI M 1 1 (nI 0)) 89 0 (nI 0)) 89 2 (nI 0)).1 90 j = nI (tb j) := fun j hj => ⟨(t4 j hj).1, by rw [f2.1 90 (by decide) (by decide)]; exact (t4 j hj).2.2⟩
    have key32 : mf_X12_who_l32 gR 89 zF (nI (2 * m)) (nI 0) (zrowI (zwI (zwI (zwI M 1 1 (nI 0)) 89 0 (nI 0)) 89 2 (nI 0)) 91 (encM h a t)) = (if gNb h tb m = m then mf_X12_who_l62 gR 89 zF (nI (2 * m)) (nI 0) (nI 0) (zrowI (zwI (zwI (zwI M 1 1 (nI 0)) 89 0 (nI 0)) 89 2 (nI 0)) 91 (encM h a t)) else some (zm1, zrowI (zwI (zwI (zwI M 1 1 (nI 0)) 89 0 (nI 0)) 89 2 (nI 0)) 91 (encM h a t))) := by
      generalize (zwI (zwI (zwI M 1 1 (nI 0)) 89 0 (nI 0)) 89 2 (nI 0)) = Mr at ht2
      refine gfor (G := fun f i => mf_X12_who_l32 gR 89 f (nI (2 * m)) (nI (2 * i)) (zrowI Mr 91 (encM h a t))) (n := gNb h tb m) (fun f i hi => ?_) (fun f => ?_) _ (by first | (show _ < 5000; omega) | omega)
      · have e := gff_n (p := fun i => decide (h 0 ≤ tb (2 * i))) (n := m) (k := 0) i (by omega) hi
        have e1 : ¬ h 0 ≤ tb (2 * i) := of_decide_eq_false e
        rw [mf_X12_who_l32]
        simp only [zl_lit]
        rw [if_neg (by rw [nI_leI (by omega) (by omega)]; omega), zald_nI (by omega) (by omega), r89_1, zrI_n (by decide), (ht2 (2 * i) (by omega)).2, m_isBath hH (by omega), zcl_ok, if_neg (by decide +kernel), nI_add]
        try rfl
      · by_cases e : gNb h tb m = m
        · rw [e, if_pos rfl, mf_X12_who_l32, if_pos (by rw [nI_leI (by omega) (by omega)]; omega)]
          simp only [zl_lit]
        · have e1 := gff_p (p := fun i => decide (h 0 ≤ tb (2 * i))) (n := m) (k := 0) (by unfold gNb at e lm2; omega)
          have e2 : h 0 ≤ tb (2 * gNb h tb m) := of_decide_eq_true e1
          have b1 := (ht2 (2 * gNb h tb m) (by omega)).1
          have ho : gOut (h 0) (nI (tb (2 * gNb h tb m))) := Or.inr ((nI_leI (by omega) (by omega)).mpr e2)
          rw [if_neg e, mf_X12_who_l32]
          simp only [zl_lit, zl_m1]
          rw [if_neg (by rw [nI_leI (by omega) (by omega)]; omega), zald_nI (by omega) (by omega), r89_1, zrI_n (by decide), (ht2 (2 * gNb h tb m) (by omega)).2, m_isBath_n hH ho, zcl_ok, if_pos rfl]
    have hgo2 := hgo (zwI M 1 1 (nI 0)) href0
    rw [show 2 * m % 2 = 0 by omega, if_pos rfl, show 2 * m / 2 = m by omega, m_isInY m1 m6 (by omega), zcl_ok, if_neg (by decide +kernel), ← grI_id hm2, key32] at hgo2
    by_cases en : gNb h tb m = m
    · have hbb : ∀ i, i < m → tb (2 * i) < h 0 := fun i hi => by
        have e := gff_n (p := fun i => decide (h 0 ≤ tb (2 * i))) (n := m) (k := 0) i (by omega) (by unfold gNb at en; omega)
        have := of_decide_eq_false e
        omega
      have hb0 := hbb 0 (by omega)
      have e8 : gbN (fun s => gWh h tb m s && decide (s < h 2)) 8 = gbN (gWh h tb m) (h 2) := by
        rw [gbN_set (n := h 2) k2 (fun k h1 _ => by rw [decide_eq_false (by omega)]; exact Bool.and_false _)]
        exact gbN_cong (fun k hk => by rw [decide_eq_true hk, Bool.and_true])
      have l256 := gbN_256 (p := gWh h tb m) k2
      rw [if_pos en] at ct hgo2
      rw [m_who62 hH m6 m1 ht2 hbb] at hgo2
      by_cases ez : gbN (gWh h tb m) (h 2) = 0
      · rw [if_pos ez, grI_id hm2] at hgo2
        refine ⟨nI 0, zwI M 1 1 (nI 0), _, ?_, hgo2, f2, e1, e2f, by rw [e55], hA2⟩
        unfold mf_X11_who
        simp only [zl_lit, zlet_ok]
        rw [r0_10, r0_0, ct, zcl_ok, ez, if_pos (by decide +kernel)]
      · rw [if_neg ez] at hgo2
        have hr2 : gRC h (zwI M 1 1 (nI 0)) := gRC.fr f1 (by decide) hr
        have cc := c_choose (p := fun s => gWh h tb m s && decide (s < h 2)) hr2 hH (by omega) (fun s hs => by rw [decide_eq_false (by omega)]; exact Bool.and_false _)
        rw [e8] at cc
        have hgo3 := hgo (zwI (zwI M 1 1 (nI 0)) 55 5 (nI (gAk h (fun s => gWh h tb m s && decide (s < h 2)) (h 0 - 1)))) (by rw [zwI_n (by decide)]; exact href0)
        generalize hK : gAk h (fun s => gWh h tb m s && decide (s < h 2)) (h 0 - 1) = K at cc hgo2 hgo3
        have f3 : gF [1, 55] [0, 2, 35] M (zwI (zwI (zwI (zwI M 1 1 (nI 0)) 55 5 (nI K)) 89 0 (nI 0)) 89 2 (nI 0)) := gF.w9 (gF.w9 (gF.wI f1 (by decide) (by decide)) (by decide)) (by decide)
        have hm3 : (zwI (zwI (zwI (zwI M 1 1 (nI 0)) 55 5 (nI K)) 89 0 (nI 0)) 89 2 (nI 0)).1 91 = encM h a t := by rw [f3.1 91 (by decide) (by decide)]; exact hm
        have ht3 : ∀ j, j < 2 * m → tb j < 256 ∧ (zwI (zwI (zwI (zwI M 1 1 (nI 0)) 55 5 (nI K)) 89 0 (nI 0)) 89 2 (nI 0)).1 90 j = nI (tb j) := fun j hj => ⟨(t4 j hj).1, by rw [f3.1 90 (by decide) (by decide)]; exact (t4 j hj).2.2⟩
        have key33 : mf_X12_who_l32 gR 89 zF (nI (2 * m)) (nI 0) (zrowI (zwI (zwI (zwI (zwI M 1 1 (nI 0)) 55 5 (nI K)) 89 0 (nI 0)) 89 2 (nI 0)) 91 (encM h a t)) = mf_X12_who_l62 gR 89 zF (nI (2 * m)) (nI 0) (nI 0) (zrowI (zwI (zwI (zwI (zwI M 1 1 (nI 0)) 55 5 (nI K)) 89 0 (nI 0)) 89 2 (nI 0)) 91 (encM h a t)) := by
          generalize (zwI (zwI (zwI (zwI M 1 1 (nI 0)) 55 5 (nI K)) 89 0 (nI 0)) 89 2 (nI 0)) = Mr at ht3
          refine gfor (G := fun f i => mf_X12_who_l32 gR 89 f (nI (2 * m)) (nI (2 * i)) (zrowI Mr 91 (encM h a t))) (n := m) (fun f i hi => ?_) (fun f => ?_) _ (by first | (show _ < 5000; omega) | omega)
          · rw [mf_X12_who_l32]
            simp only [zl_lit]
            rw [if_neg (by rw [nI_leI (by omega) (by omega)]; omega), zald_nI (by omega) (by omega), r89_1, zrI_n (by decide), (ht3 (2 * i) (by omega)).2, m_isBath hH (hbb i hi), zcl_ok, if_neg (by decide +kernel), nI_add]
            try rfl
          · rw [mf_X12_who_l32, if_pos (by rw [nI_leI (by omega) (by omega)]; omega)]
            simp only [zl_lit]
        rw [show 2 * m % 2 = 0 by omega, if_pos rfl, show 2 * m / 2 = m by omega, m_isInY m1 m6 (by omega), zcl_ok, if_neg (by decide +kernel), ← grI_id hm3, key33, m_who62 hH m6 m1 ht3 hbb, if_neg ez, hK] at hgo3
        have hm4 : (zwI (zwI (zwI (zwI (zwI M 1 1 (nI 0)) 55 5 (nI K)) 89 0 (nI 0)) 89 2 (nI 0)) 89 35 (nI K)).1 91 = encM h a t := by rw [zwI_n (by decide)]; exact hm3
        rw [grI_id hm4] at hgo3
        refine ⟨_, _, _, ?_, hgo3, gF.w9 f3 (by decide), ?_, ?_, ?_, ?_⟩
        · unfold mf_X11_who
          simp only [zl_lit, zlet_ok]
          rw [r0_10, r0_0, ct, zcl_ok, if_neg (by rw [nI_leI (by omega) (by omega)]; omega), cc, zcl_ok]
        · rw [zwI_n (by decide), zwI_n (by decide), zwI_n (by decide), zwI_n (by decide), zwI_s]
        · rw [zwI_s, upd_n (by decide), zwI_s, upd_s]
        · rw [zwI_n (by decide), zwI_n (by decide), zwI_n (by decide), zwI_s, upd_n (by decide), zwI_n (by decide)]
        · unfold gAI
          rw [zwI_n (by decide), zwI_n (by decide), zwI_n (by decide), zwI_s, upd_s, zwI_s, upd_s]
    · rw [if_neg en] at ct hgo2
      rw [grI_id hm2] at hgo2
      exact ⟨zm1, zwI M 1 1 (nI 0), _, clsNone ct, hgo2, f2, e1, e2f, by rw [e55], hA2⟩
theorem q_ask {M : zMem} (A : gAI M) : ∃ r, mf_X11_ask gR 0 M = some (r, M) ∧ mf_X12_ask gR 89 M = some (r, zwI M 89 0 (nI 0)) := by
  refine ⟨M.1 55 5, ?_, ?_⟩
  · unfold mf_X11_ask
    rw [r0_10]
  · unfold mf_X12_ask
    rw [zlet_ok, zl_lit, zwI_s, upd_n (by decide), A]
