/-! ORDER: all rows -/
theorem gE1_le {h : zN} : ∀ {l : List Nat} {a : zN} {g : Nat} {r : zN × Nat × List Nat}, gE1 h a g l = some r → r.2.1 ≤ g + 60 * l.length ∧ r.2.2.length = l.length
  | [], a, g, r, e => by
    cases e
    exact ⟨by show g ≤ g + 60 * 0; omega, rfl⟩
  | s :: l, a, g, r, e => by
    unfold gE1 at e
    by_cases ec : gCA h a s = 61
    · rw [if_pos ec] at e; cases e
    · rw [if_neg ec] at e
      obtain ⟨lc, -⟩ := gCA_clr ec
      cases hq : gE1 h (gSt h (gPass h (gCA h a s) a) s) (g + gCA h a s) l with
      | none => rw [hq] at e; cases e
      | some q =>
        rw [hq] at e
        cases e
        obtain ⟨i1, i2⟩ := gE1_le hq
        have : (s :: l).length = l.length + 1 := rfl
        refine ⟨?_, ?_⟩
        · show q.2.1 ≤ _
          omega
        · show q.2.2.length + 1 = l.length + 1
          omega
def gEd (h a : zN) (l : List Nat) : Option (Nat × List Nat) := match gE1 h a 0 l with
  | none => none
  | some r => if gLs h r.1 l = 201 then none else some (r.2.1 + gLs h r.1 l, r.2.2)
def gBo (h a : zN) (b : Nat × List Nat × List Nat) (l : List Nat) : Nat × List Nat × List Nat := match gEd h a l with
  | none => b
  | some r => if r.1 < b.1 then (r.1, l, r.2) else b
theorem gEd_none {h a : zN} {l : List Nat} (e : gEd h a l = none) : gEr h l (gE1 h a 0 l) = zm1 := by
  unfold gEd at e
  cases hq : gE1 h a 0 l with
  | none => rfl
  | some r =>
    rw [hq] at e
    unfold gEr
    by_cases q : gLs h r.1 l = 201
    · exact if_pos q
    · rw [show (match some r with | none => none | some r => if gLs h r.1 l = 201 then none else some (r.2.1 + gLs h r.1 l, r.2.2)) = (if gLs h r.1 l = 201 then none else some (r.2.1 + gLs h r.1 l, r.2.2)) from rfl, if_neg q] at e
      cases e
theorem gEd_some {h a : zN} {l : List Nat} {x : Nat × List Nat} (e : gEd h a l = some x) (h3 : l.length ≤ 3) : gEr h l (gE1 h a 0 l) = nI x.1 ∧ x.1 ≤ 400 ∧ ∃ r, gE1 h a 0 l = some r ∧ r.2.2 = x.2 := by
  unfold gEd at e
  cases hq : gE1 h a 0 l with
  | none => rw [hq] at e; cases e
  | some r =>
    rw [hq] at e
    obtain ⟨l1, l2⟩ := gE1_le hq
    have lm := gLs_le (h := h) (a := r.1) (l := l)
    by_cases q : gLs h r.1 l = 201
    · rw [show (match some r with | none => none | some r => if gLs h r.1 l = 201 then none else some (r.2.1 + gLs h r.1 l, r.2.2)) = (if gLs h r.1 l = 201 then none else some (r.2.1 + gLs h r.1 l, r.2.2)) from rfl, if_pos q] at e
      cases e
    · rw [show (match some r with | none => none | some r => if gLs h r.1 l = 201 then none else some (r.2.1 + gLs h r.1 l, r.2.2)) = (if gLs h r.1 l = 201 then none else some (r.2.1 + gLs h r.1 l, r.2.2)) from rfl, if_neg q] at e
      cases e
      refine ⟨if_neg q, ?_, r, rfl, rfl⟩
      show r.2.1 + gLs h r.1 l ≤ 400
      omega
def gCp (s d : Nat → Int32) (i : Nat) : Nat → Int32 := fun j => if j < i then s j else d j
theorem gCp_0 {s d : Nat → Int32} : gCp s d 0 = d := by
  funext j
  unfold gCp
  try rw [if_neg (by omega)]
theorem gCp_s {s d : Nat → Int32} {i : Nat} : upd (gCp s d i) i (s i) = gCp s d (i + 1) := by
  funext j
  unfold upd gCp
  by_cases e : j = i
  · rw [if_pos e, if_pos (by omega), e]
  · rw [if_neg e]
    by_cases e2 : j < i
    · rw [if_pos e2, if_pos (by omega)]
    · rw [if_neg e2, if_neg (by omega)]
theorem gCp_i {s d : Nat → Int32} {i j : Nat} (h : j < i) : gCp s d i j = s j := if_pos h
def gQMo (b : Nat × List Nat × List Nat) (M : zMem) : Prop := M.1 89 32 = nI b.1 ∧ b.1 ≤ 100000 ∧ ∀ k, k < b.2.1.length → M.1 104 k = nI (b.2.1.getD k 0) ∧ M.1 105 k = nI (b.2.2.getD k 0)
theorem m_tryRow45 {M : zMem} {n : Nat} (hn : n ≤ 3) : mf_X12_tryRow_l45 gR 89 zF (nI n) (nI 0) M = some ((), zrowI (zrowI M 104 (gCp (M.1 102) (M.1 104) n)) 105 (gCp (M.1 103) (M.1 105) n)) := by
  have e0 : M = zrowI (zrowI M 104 (gCp (M.1 102) (M.1 104) 0)) 105 (gCp (M.1 103) (M.1 105) 0) := by
    rw [gCp_0, gCp_0, grI_id (M := M) (o := 104) rfl, grI_id rfl]
  rw [show mf_X12_tryRow_l45 gR 89 zF (nI n) (nI 0) M = mf_X12_tryRow_l45 gR 89 zF (nI n) (nI 0) (zrowI (zrowI M 104 (gCp (M.1 102) (M.1 104) 0)) 105 (gCp (M.1 103) (M.1 105) 0)) by rw [← e0]]
  refine gfor (G := fun f i => mf_X12_tryRow_l45 gR 89 f (nI n) (nI i) (zrowI (zrowI M 104 (gCp (M.1 102) (M.1 104) i)) 105 (gCp (M.1 103) (M.1 105) i))) (n := n) (fun f i hi => ?_) (fun f => ?_) _ (by first | (show _ < 5000; omega) | omega)
  · simp (disch := omega) only [zlet_ok, zcl_ok, zl_lit, zl_m1, nI_add, zald_nI, nI_ltE, nI_leE, nI_eqE, zm1_lt', zm1_le', zm1_nlt', zm1_nle', zm1_ne, zm1_ne', zm1_add1, gwI, grI_rI, zrI_s, zrI_n, zrI_L, gwL, grL_rL, zrL_s, zrL_n, zrL_I, Nat.zero_add, ↓reduceIte, if_true, if_false, gB_0, gB_1, gB_01, zchk_t, gB_1e, eq_self, gcle, gcnle, gclt, gcnlt, gcne, not_true_eq_false, not_false_eq_true, true_or, or_true, false_or, or_false, true_and, and_true, false_and, and_false, mf_X12_tryRow_l45, r89_27, r89_28, r89_29, r89_30, grI_sw, gCp_s]
  · rw [mf_X12_tryRow_l45, if_pos (by rw [nI_leI (by omega) (by omega)]; omega)]
theorem m_tryRow {h a : zN} {t : Nat → Int32} {l : List Nat} {b : Nat × List Nat × List Nat} {M : zMem} (hH : gH h) (hA : gA h a) (hl : ∀ s, s ∈ l → s < h 2) (h3 : l.length ≤ 3) (hm : M.1 91 = encM h a t) (h102 : ∀ j, j < l.length → M.1 102 j = nI (l.getD j 0)) (Q : gQMo b M) : ∃ M1, mf_X12_tryRow gR 89 (nI l.length) M = some ((), M1) ∧ gF [95, 96, 103, 104, 105] [32] M M1 ∧ gQMo (gBo h a b l) M1 := by
  obtain ⟨q1, q2, q3⟩ := Q
  have h102' : ∀ j, j < l.length → (zrowI M 96 (gsv (encM h a t) (M.1 96) 0 56)).1 102 j = nI (l.getD j 0) := fun j hj => by rw [zrI_n (by decide)]; exact h102 j hj
  obtain ⟨M1, a', w1, w2, w3⟩ := m_last4 (t := t) hH hl h3 l [] a 0 [] zF (zrowI M 96 (gsv (encM h a t) (M.1 96) 0 56)) rfl hA (Nat.zero_le _) (by show _ < 5000; omega) h102' rfl (fun j hj => by cases hj)
  have f1 : gF [95, 96, 103] [] M M1 := gF.trans (gF.rI gF.r (by decide) (by decide)) (w2.mono (by decide) (by decide))
  have hm1 : M1.1 91 = encM h a t := by rw [f1.1 91 (by decide) (by decide)]; exact hm
  have hv : ∀ k, k < 56 → M1.1 96 (0 + k) = encM h a t (56 + k) := fun k hk => by
    rw [w2.1 96 (by decide) (by decide), zrI_s]; exact gsv_in hk
  have e1 : mf_X12_tryRow gR 89 (nI l.length) M = (if gEr h l (gE1 h a 0 l) = zm1 then some ((), M1) else if gEr h l (gE1 h a 0 l) < nI b.1 then zlet (zwI M1 89 32 (gEr h l (gE1 h a 0 l))) fun M9 => mf_X12_tryRow_l45 gR 89 zF (nI l.length) (nI 0) M9 else some ((), M1)) := by
    unfold mf_X12_tryRow mf_X12_lastOf
    simp only [zl_lit, zl_m1]
    have w1' : mf_X12_lastOf_l4 gR 89 zF (nI l.length) (nI 0) (nI 0) (zrowI (zrowI M 96 (gsv (encM h a t) (M.1 96) 0 56)) 91 (encM h a t)) = some (gEr h l (gE1 h a 0 l), zrowI M1 91 (encM h a' t)) := w1
    rw [← grI_id hm, r89_19, m_save (by decide) (by decide) (by decide), zcl_ok, w1', zcl_ok, m_backs (h := h) (t' := t) (a0 := a) (A := 96) (n1 := 56) (off := 0) (by decide) (by decide) (by decide) hv, zcl_ok, grI_id hm1, f1.2.2 32 (by decide), q1]
  rw [e1]
  cases he : gEd h a l with
  | none =>
    rw [gEd_none he, if_pos rfl]
    refine ⟨M1, rfl, f1.mono (by decide) (by decide), ?_⟩
    unfold gBo
    rw [he]
    exact ⟨by rw [f1.2.2 32 (by decide)]; exact q1, q2, fun k hk => by
      rw [f1.1 104 (by decide) (by decide), f1.1 105 (by decide) (by decide)]; exact q3 k hk⟩
  | some x =>
    obtain ⟨x1, x2, r, x3, x4⟩ := gEd_some he h3
    rw [x1, if_neg (by rw [zm1_ne (by omega)]; exact id)]
    unfold gBo
    rw [he]
    show ∃ M1_1, _ ∧ _ ∧ gQMo (if x.1 < b.1 then (x.1, l, x.2) else b) M1_1
    by_cases e2 : x.1 < b.1
    · rw [if_pos e2, if_pos (by rw [nI_ltI (by omega) (by omega)]; exact e2), zlet_ok, m_tryRow45 h3]
      refine ⟨zrowI (zrowI (zwI M1 89 32 (nI x.1)) 104 (gCp ((zwI M1 89 32 (nI x.1)).1 102) ((zwI M1 89 32 (nI x.1)).1 104) l.length)) 105 (gCp ((zwI M1 89 32 (nI x.1)).1 103) ((zwI M1 89 32 (nI x.1)).1 105) l.length), rfl, gF.rI (gF.rI (gF.w9 (f1.mono (by decide) (by decide)) (by decide)) (by decide) (by decide)) (by decide) (by decide), ?_, ?_, fun k hk => ⟨?_, ?_⟩⟩
      · rw [zrI_n (by decide), zrI_n (by decide), zwI_s, upd_s]
      · show x.1 ≤ _
        omega
      · have hk2 : k < l.length := hk
        rw [zrI_n (by decide), zrI_s, gCp_i hk2, zwI_n (by decide), f1.1 102 (by decide) (by decide)]
        exact h102 k hk2
      · have hk2 : k < l.length := hk
        rw [zrI_s, gCp_i hk2, zwI_n (by decide)]
        have := w3 r x3 k hk2
        rw [List.nil_append, x4] at this
        exact this
    · rw [if_neg e2, if_neg (by rw [nI_ltI (by omega) (by omega)]; exact e2)]
      exact ⟨M1, rfl, f1.mono (by decide) (by decide), by rw [f1.2.2 32 (by decide)]; exact q1, q2, fun k hk => by
        rw [f1.1 104 (by decide) (by decide), f1.1 105 (by decide) (by decide)]; exact q3 k hk⟩
theorem m_rows13 {p : Nat → Bool} {F : zRR → Nat → Int32 → Int32 → Int32 → zMem → Option (Unit × zMem)} {x y : Int32} {M : zMem} (hp : ∀ j, j < 8 → p j = false) : mf_X12_tryRows_l13 gR F 89 zF x y (nI (gbN p 8)) (nI 0) M = some ((), M) := by
  refine gfor (G := fun f i => mf_X12_tryRows_l13 gR F 89 f x y (nI (gbN p 8)) (nI i) M) (n := 8) (fun f i hi => ?_) (fun f => ?_) _ (by first | (show _ < 5000; omega) | omega)
  · rw [mf_X12_tryRows_l13]
    simp only [zl_lit]
    rw [if_neg (by rw [nI_leI (by omega) (by omega)]; omega), m_has (by omega), zcl_ok, hp i hi, if_pos gB_f]
    unfold mf_X12_tryRows_b56
    rw [zl_lit, nI_add]
  · rw [mf_X12_tryRows_l13, zl_lit, if_pos (by rw [nI_leI (by omega) (by omega)]; omega)]
theorem m_rows {h a : zN} {t : Nat → Int32} {n : Nat} (hH : gH h) (hA : gA h a) (hn : n ≤ 3) : ∀ (k d : Nat) (p : Nat → Bool) (pre : List Nat) (M : zMem) (b : Nat × List Nat × List Nat), gct p 8 = k → (∀ j, p j = true → j < h 2) → pre.length + k = n → (∀ s, s ∈ pre → s < h 2) → k < d → M.1 91 = encM h a t → (∀ j, j < pre.length → M.1 102 j = nI (pre.getD j 0)) → gQMo b M → ∃ M1, mg_X12b d gR 89 (nI pre.length) (nI n) (nI (gbN p 8)) M = some ((), M1) ∧ gF [95, 96, 102, 103, 104, 105] [32] M M1 ∧ (∀ j, j < pre.length → M1.1 102 j = M.1 102 j) ∧ gQMo ((gEn 8 k p pre).foldl (gBo h a) b) M1
  | 0, d, p, pre, M, b, hc, hp, hl, hpre, hd, hm, hlk, Q => by
    match d, hd with
    | d + 1, hd =>
      obtain ⟨M1, e1, e2, e3⟩ := m_tryRow (t := t) hH hA hpre (by omega) hm hlk Q
      refine ⟨M1, ?_, e2.mono (by decide) (by decide), fun j hj => by rw [e2.1 102 (by decide) (by decide)], e3⟩
      have : n = pre.length := by omega
      subst this
      show mf_X12_tryRows gR (mg_X12b d) 89 _ _ _ M = _
      unfold mf_X12_tryRows mf_X12_tryRows_b10
      rw [if_pos rfl, e1, zcl_ok]
      exact m_rows13 (gct_0 hc)
  | k + 1, d, p, pre, M, b, hc, hp, hl, hpre, hd, hm, hlk, Q => by
    obtain ⟨k0, k1, k2, k3, k4, k5, kh, kl, ka, kp⟩ := id hH
    match d, hd with
    | d + 1, hd =>
      have loop : ∀ (m i f : Nat) (M : zMem) (b : Nat × List Nat × List Nat), i + m = 8 → m < f → M.1 91 = encM h a t → (∀ j, j < pre.length → M.1 102 j = nI (pre.getD j 0)) → gQMo b M → ∃ M1, mf_X12_tryRows_l13 gR (mg_X12b d) 89 f (nI pre.length) (nI n) (nI (gbN p 8)) (nI i) M = some ((), M1) ∧ gF [95, 96, 102, 103, 104, 105] [32] M M1 ∧ (∀ j, j < pre.length → M1.1 102 j = M.1 102 j) ∧ gQMo ((((List.range' i m).map (fun s => if p s then gEn 8 k (gMi p s) (pre ++ [s]) else [])).flatten).foldl (gBo h a) b) M1 := by
        intro m
        induction m with
        | zero =>
          intro i f M b hi hf hm hlk Q
          match f, hf with
          | f + 1, _ =>
            have : i = 8 := by omega
            subst this
            refine ⟨M, ?_, gF.r, fun j hj => rfl, Q⟩
            rw [mf_X12_tryRows_l13, zl_lit, if_pos (by rw [nI_leI (by omega) (by omega)]; omega)]
        | succ m ih =>
          intro i f M b hi hf hm hlk Q
          match f, hf with
          | f + 1, hf =>
            rw [List.range'_succ, List.map_cons, List.flatten_cons, List.foldl_append]
            cases hpi : p i
            · obtain ⟨M1, w1, w2, w3, w4⟩ := ih (i + 1) f M b (by omega) (by omega) hm hlk Q
              refine ⟨M1, ?_, w2, w3, w4⟩
              rw [← w1, mf_X12_tryRows_l13]
              simp only [zl_lit]
              rw [if_neg (by rw [nI_leI (by omega) (by omega)]; omega), m_has (by omega), hpi, zcl_ok, if_pos gB_f]
              unfold mf_X12_tryRows_b56
              rw [zl_lit, nI_add]
            · have hi1 := hp i hpi
              have hpre2 : ∀ s, s ∈ pre ++ [i] → s < h 2 := fun s hs => by
                rcases List.mem_append.mp hs with q | q
                · exact hpre s q
                · rw [List.mem_singleton] at q; rw [q]; exact hi1
              have hlen : (pre ++ [i]).length = pre.length + 1 := by rw [List.length_append]; rfl
              have hlk2 : ∀ j, j < (pre ++ [i]).length → (zwI M 102 pre.length (nI i)).1 102 j = nI ((pre ++ [i]).getD j 0) := fun j hj => by
                rw [hlen] at hj
                rw [zwI_s]
                by_cases q : j = pre.length
                · rw [q, upd_s, getD_last]
                · rw [upd_n q, getD_app (by omega)]; exact hlk j (by omega)
              have Q2 : gQMo b (zwI M 102 pre.length (nI i)) := by
                obtain ⟨q1, q2, q3⟩ := Q
                refine ⟨by rw [zwI_n (by decide)]; exact q1, q2, fun k hk => by rw [zwI_n (by decide), zwI_n (by decide)]; exact q3 k hk⟩
              have hm2 : (zwI M 102 pre.length (nI i)).1 91 = encM h a t := by rw [zwI_n (by decide)]; exact hm
              obtain ⟨M1, w1, w2, w3, w4⟩ := m_rows (t := t) hH hA hn k d (gMi p i) (pre ++ [i]) (zwI M 102 pre.length (nI i)) b (by have := (gct_mi hpi (n := 8)).1 (by omega); omega) (fun j hj => hp j (by unfold gMi at hj; simp only [Bool.and_eq_true] at hj; exact hj.1)) (by rw [hlen]; omega) hpre2 (by omega) hm2 hlk2 Q2
              have f1 : gF [95, 96, 102, 103, 104, 105] [32] M M1 := gF.trans (gF.wI gF.r (by decide) (by decide)) w2
              have hlk3 : ∀ j, j < pre.length → M1.1 102 j = nI (pre.getD j 0) := fun j hj => by
                rw [w3 j (by rw [hlen]; omega), hlk2 j (by rw [hlen]; omega), getD_app hj]
              obtain ⟨M2, v1, v2, v3, v4⟩ := ih (i + 1) f M1 _ (by omega) (by omega) (by rw [f1.1 91 (by decide) (by decide)]; exact hm) hlk3 w4
              refine ⟨M2, ?_, f1.trans v2, fun j hj => by rw [v3 j hj, hlk3 j hj, hlk j hj], v4⟩
              rw [hlen] at w1
              rw [← v1, mf_X12_tryRows_l13]
              simp only [zl_lit, zlet_ok, zl_m1]
              rw [if_neg (by rw [nI_leI (by omega) (by omega)]; omega), m_has (by omega), hpi, zcl_ok, if_neg (by decide +kernel), zald_nI (by omega) (by omega), r89_27, gbN_mi (by omega), nI_add, w1, zcl_ok]
              unfold mf_X12_tryRows_b56
              rw [zl_lit, nI_add]
      obtain ⟨M1, w1, w2, w3, w4⟩ := loop 8 0 zF M b (by omega) (by show 8 < 5000; omega) hm hlk Q
      refine ⟨M1, ?_, w2, w3, ?_⟩
      · show mf_X12_tryRows gR (mg_X12b d) 89 _ _ _ M = _
        unfold mf_X12_tryRows mf_X12_tryRows_b10
        rw [if_neg (by rw [nI_eq (by omega) (by omega)]; omega)]
        exact w1
      · rw [gEn_s]
        exact w4
/-! the class -/
theorem c_endOfRow {h a : zN} {z zr : Nat → Int32} {l : List Nat} {M : zMem} (hH : gH h) (hA : gA h a) (hl : ∀ s, s ∈ l → s < h 2) (h3 : l.length ≤ 3) (hr : gRC h M) (hc : M.1 17 = eC a z) (h44 : M.1 44 7 = nI l.length) (h45 : M.1 45 = gRw l zr) : ∃ M1, mf_X6_endOfRow gR 44 M = some (gEr h l (gE1 h a 0 l), M1) ∧ gF [19, 46, 50, 52, 54] [] M M1 ∧ ∀ r, gE1 h a 0 l = some r → ∀ j, j < l.length → M1.1 46 j = nI (r.2.2.getD j 0) := by
  have hr2 : gRC h (zrowI M 54 (eC a (M.1 54))) := gRC.row (by decide) hr
  obtain ⟨M1, w1, w2, w3⟩ := c_end17 (z := M.1 54) (zr := zr) hH hl h3 l [] a 0 [] zF (zrowI M 54 (eC a (M.1 54))) rfl hA (Nat.zero_le _) (by show _ < 5000; omega) hr2 zrI_s (by rw [zrI_n (by decide)]; exact h44) (by rw [zrI_n (by decide)]; exact h45) rfl (fun j hj => by cases hj)
  refine ⟨M1, ?_, gF.trans (gF.rI gF.r (by decide) (by decide)) w2, fun r hr2 j hj => ?_⟩
  · unfold mf_X6_endOfRow
    rw [r44_4, r44_0, c_copy gLab_s gLab_l hc, zcl_ok]
    have e0 : gbN (fun j => decide (j ∈ ([] : List Nat))) 8 = 0 := by decide +kernel
    rw [e0] at w1
    exact w1
  · have := w3 r hr2 j hj
    rw [List.nil_append] at this
    exact this
def gBJ (b : Nat × List Nat × List Nat) : Int32 := if b.1 = 100000 then zm1 else nI b.1
def gQCo (n : Nat) (b : Nat × List Nat × List Nat) (M0 M : zMem) : Prop := if b.1 = 100000 then (M.1 44 10 = M0.1 44 10 ∧ M.1 47 = M0.1 47 ∧ M.1 48 = M0.1 48) else (M.1 44 10 = nI n ∧ ∀ k, k < n → M.1 47 k = nI (b.2.1.getD k 0) ∧ M.1 48 k = nI (b.2.2.getD k 0))
theorem gQCo.fr {n : Nat} {b : Nat × List Nat × List Nat} {M0 M M1 : zMem} (Q : gQCo n b M0 M) (e1 : M1.1 44 10 = M.1 44 10) (e2 : M1.1 47 = M.1 47) (e3 : M1.1 48 = M.1 48) : gQCo n b M0 M1 := by
  unfold gQCo at *
  rw [e1, e2, e3]
  exact Q
theorem cpy3 {g g' : Nat → Int32} {k : Nat} (hk : k < 3) : va_cpy g g' (nI 0).toNatClampNeg (nI 0).toNatClampNeg (nI 3).toNatClampNeg k = g k := by
  rw [nI_clamp (by omega), nI_clamp (by omega)]
  unfold va_cpy
  rw [if_pos (by omega), Nat.sub_zero, Nat.zero_add]
theorem c_order6 {h a : zN} {z zr : Nat → Int32} {n : Nat} {M0 : zMem} (hH : gH h) (hA : gA h a) (hn : n ≤ 3) (hn0 : 0 < n) : ∀ (k i f : Nat) (l : List Nat) (b : Nat × List Nat × List Nat) (M : zMem), i + k = 6 → k < f → l.length = n → gAll (fun v => v < h 2) l → b.1 ≤ 100000 → gRC h M → M.1 17 = eC a z → M.1 44 7 = nI n → M.1 45 = gRw l zr → gQCo n b M0 M → ∃ M1, mf_X6_bestOrder_l6 gR 44 f (gBJ b) (nI 1) (nI i) M = some (gBJ ((gIt k l).foldl (gBo h a) b), M1) ∧ gF [19, 44, 45, 46, 47, 48, 50, 52, 54] [] M M1 ∧ gQCo n ((gIt k l).foldl (gBo h a) b) M0 M1
  | 0, i, f, l, b, M, hi, hf, hl, ha, hb, hr, hc, h44, h45, Q => by
    match f, hf with
    | f + 1, _ =>
      have : i = 6 := by omega
      subst this
      refine ⟨M, ?_, gF.r, Q⟩
      rw [mf_X6_bestOrder_l6, zl_lit, if_pos (by rw [nI_leI (by omega) (by omega)]; omega)]
      try rfl
  | k + 1, i, f, l, b, M, hi, hf, hl, ha, hb, hr, hc, h44, h45, Q => by
    obtain ⟨k0, k1, k2, k3, k4, k5, kh, kl, ka, kp⟩ := id hH
    match f, hf with
    | f + 1, hf =>
      have hsm : gSm l := fun j => by
        by_cases e : j < l.length
        · have := ha j e
          have : l.getD j 0 < h 2 := this
          show l.getD j 0 < 100
          omega
        · rw [List.getD_eq_getElem?_getD, List.getElem?_eq_none (by omega)]
          show 0 < 100
          decide
      have hmem : ∀ s, s ∈ l → s < h 2 := fun s hs => by
        obtain ⟨j, hj, e⟩ := List.mem_iff_getElem.mp hs
        have := ha j hj
        rw [List.getD_eq_getElem?_getD, List.getElem?_eq_getElem hj] at this
        rw [← e]
        exact this
      obtain ⟨M1, e1, f1, s1⟩ := c_endOfRow (zr := zr) hH hA hmem (by omega) hr hc (by rw [hl]; exact h44) h45
      have key : ∀ (M2 : zMem) (b2 : Nat × List Nat × List Nat), gF [19, 44, 46, 47, 48, 50, 52, 54] [] M M2 → M2.1 44 7 = nI n → b2.1 ≤ 100000 → gQCo n b2 M0 M2 → ∃ M3, mf_X6_bestOrder_b78 gR 44 (mf_X6_bestOrder_l6 gR 44 f) (gBJ b2) (nI i) M2 = some (gBJ ((match gNr l with | none => [] | some l' => gIt k l').foldl (gBo h a) b2), M3) ∧ gF [19, 44, 45, 46, 47, 48, 50, 52, 54] [] M2 M3 ∧ gQCo n ((match gNr l with | none => [] | some l' => gIt k l').foldl (gBo h a) b2) M0 M3 := by
        intro M2 b2 f2 e44 eb Q2
        have e45 : M2.1 45 = gRw l zr := by rw [f2.1 45 (by decide) (by decide)]; exact h45
        have hnx := c_next (z := zr) (l := l) (M := M2) (o := 45) (n0 := 3) (by decide) hsm (by omega)
        rw [grI_id e45, hl] at hnx
        unfold mf_X6_bestOrder_b78
        rw [r44_5, e44, hnx]
        cases hgn : gNr l with
        | none =>
          refine ⟨M2, ?_, gF.r, Q2⟩
          obtain ⟨f', rfl⟩ : ∃ f', f = f' + 1 := ⟨f - 1, by omega⟩
          show mf_X6_bestOrder_l6 gR 44 (f' + 1) (gBJ b2) (nI 0) (nI i + 1) M2 = some (gBJ b2, _)
          rw [mf_X6_bestOrder_l6, if_pos (show nI 0 = 0 from rfl)]
          split <;> rfl
        | some l' =>
          have hl' := gNr_len hgn
          have f3 : gF [19, 44, 45, 46, 47, 48, 50, 52, 54] [] M (zrowI M2 45 (gRw l' zr)) := gF.rI (f2.mono (by decide) (by decide)) (by decide) (by decide)
          obtain ⟨M3, w1, w2, w3⟩ := c_order6 (M0 := M0) hH hA hn hn0 k (i + 1) f l' b2 (zrowI M2 45 (gRw l' zr)) (by omega) (by omega) (by omega) (ha.nr hgn) eb (gRC.fr f3 (by decide) hr) (by rw [f3.1 17 (by decide) (by decide)]; exact hc) (by rw [zrI_n (by decide)]; exact e44) zrI_s (gQCo.fr Q2 (by rw [zrI_n (by decide)]) (by rw [zrI_n (by decide)]) (by rw [zrI_n (by decide)]))
          refine ⟨M3, ?_, gF.trans (gF.rI gF.r (by decide) (by decide)) w2, w3⟩
          show mf_X6_bestOrder_l6 gR 44 f (gBJ b2) (nI 1) (nI i + 1) (zrowI M2 45 (gRw l' zr)) = _
          rw [← w1, zl_lit, nI_add]
      have eit : (gIt (k + 1) l).foldl (gBo h a) b = (match gNr l with | none => [] | some l' => gIt k l').foldl (gBo h a) (gBo h a b l) := rfl
      rw [eit]
      have e0 : mf_X6_bestOrder_l6 gR 44 (f + 1) (gBJ b) (nI 1) (nI i) M = (if gEr h l (gE1 h a 0 l) = zm1 then mf_X6_bestOrder_b78 gR 44 (mf_X6_bestOrder_l6 gR 44 f) (gBJ b) (nI i) M1 else if gBJ b = zm1 then mf_X6_bestOrder_b39 gR 44 (mf_X6_bestOrder_l6 gR 44 f) (nI i) (gEr h l (gE1 h a 0 l)) M1 else if gBJ b ≤ gEr h l (gE1 h a 0 l) then mf_X6_bestOrder_b78 gR 44 (mf_X6_bestOrder_l6 gR 44 f) (gBJ b) (nI i) M1 else mf_X6_bestOrder_b39 gR 44 (mf_X6_bestOrder_l6 gR 44 f) (nI i) (gEr h l (gE1 h a 0 l)) M1) := by
        rw [mf_X6_bestOrder_l6]
        simp only [zl_lit, zl_m1]
        rw [if_neg (by rw [nI_leI (by omega) (by omega)]; omega), if_neg (by decide +kernel), e1, zcl_ok]
      rw [e0]
      have f1' : gF [19, 44, 46, 47, 48, 50, 52, 54] [] M M1 := f1.mono (by decide) (by decide)
      have h441 : M1.1 44 = M.1 44 := f1.1 44 (by decide) (by decide)
      have Q1 : gQCo n b M0 M1 := gQCo.fr Q (by rw [h441]) (f1.1 47 (by decide) (by decide)) (f1.1 48 (by decide) (by decide))
      cases he : gEd h a l with
      | none =>
        have eb : gBo h a b l = b := by unfold gBo; rw [he]
        rw [gEd_none he, if_pos rfl, eb]
        obtain ⟨M3, w1, w2, w3⟩ := key M1 b f1' (by rw [h441]; exact h44) hb Q1
        exact ⟨M3, w1, (f1.mono (by decide) (by decide)).trans w2, w3⟩
      | some x =>
        obtain ⟨x1, x2, r, x3, x4⟩ := gEd_some he (by omega)
        have eb : gBo h a b l = if x.1 < b.1 then (x.1, l, x.2) else b := by unfold gBo; rw [he]
        rw [x1, if_neg (by rw [zm1_ne (by omega)]; exact id), eb]
        have hb39 : ∃ M3, mf_X6_bestOrder_b39 gR 44 (mf_X6_bestOrder_l6 gR 44 f) (nI i) (nI x.1) M1 = some (gBJ ((match gNr l with | none => [] | some l' => gIt k l').foldl (gBo h a) (x.1, l, x.2)), M3) ∧ gF [19, 44, 45, 46, 47, 48, 50, 52, 54] [] M M3 ∧ gQCo n ((match gNr l with | none => [] | some l' => gIt k l').foldl (gBo h a) (x.1, l, x.2)) M0 M3 := by
          have ebj : gBJ (x.1, l, x.2) = nI x.1 := if_neg (show ¬ x.1 = 100000 by omega)
          have e447 : M1.1 44 7 = nI n := by rw [h441]; exact h44
          have f4 : gF [19, 44, 46, 47, 48, 50, 52, 54] [] M (zrowI (zrowI (zwI M1 44 10 (nI n)) 47 (va_cpy (M1.1 45) (M1.1 47) (nI 0).toNatClampNeg (nI 0).toNatClampNeg (nI 3).toNatClampNeg)) 48 (va_cpy (M1.1 46) (M1.1 48) (nI 0).toNatClampNeg (nI 0).toNatClampNeg (nI 3).toNatClampNeg)) := gF.rI (gF.rI (gF.wI f1' (by decide) (by decide)) (by decide) (by decide)) (by decide) (by decide)
          obtain ⟨M3, w1, w2, w3⟩ := key _ (x.1, l, x.2) f4 (by rw [zrI_n (by decide), zrI_n (by decide), zwI_s, upd_n (by decide)]; exact e447) (show x.1 ≤ 100000 by omega) (by
            unfold gQCo
            rw [if_neg (show ¬ x.1 = 100000 by omega)]
            refine ⟨by rw [zrI_n (by decide), zrI_n (by decide), zwI_s, upd_s], fun k hk => ⟨?_, ?_⟩⟩
            · rw [zrI_n (by decide), zrI_s, cpy3 (by omega), f1.1 45 (by decide) (by decide), h45, gRw_i (by omega)]
            · rw [zrI_s, cpy3 (by omega), ← x4]
              exact s1 r x3 k (by omega))
          refine ⟨M3, ?_, (f4.mono (by decide) (by decide)).trans w2, w3⟩
          rw [ebj] at w1
          rw [← w1]
          unfold mf_X6_bestOrder_b39
          simp only [zl_lit, zlet_ok]
          rw [r44_5, r44_6, r44_8, r44_9, e447, zwI_n (by decide), zwI_n (by decide), zrI_n (by decide), zrI_n (by decide), zwI_n (by decide), zwI_n (by decide)]
        by_cases e3 : b.1 = 100000
        · have ebj : gBJ b = zm1 := if_pos e3
          rw [ebj, if_pos rfl, if_pos (by omega)]
          exact hb39
        · have ebj : gBJ b = nI b.1 := if_neg e3
          rw [ebj, if_neg (by rw [zm1_ne (by omega)]; exact id)]
          by_cases e2 : x.1 < b.1
          · rw [if_pos e2, if_neg (by rw [nI_leI (by omega) (by omega)]; omega)]
            exact hb39
          · rw [if_neg e2, if_pos (by rw [nI_leI (by omega) (by omega)]; omega), ← ebj]
            obtain ⟨M3, w1, w2, w3⟩ := key M1 b f1' (by rw [h441]; exact h44) hb Q1
            exact ⟨M3, w1, (f1.mono (by decide) (by decide)).trans w2, w3⟩
