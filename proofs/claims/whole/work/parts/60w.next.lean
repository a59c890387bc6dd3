/-! ROWS OF NUMBERS, ONE BEHIND ANOTHER -/
def gRw (l : List Nat) (z : Nat → Int32) : Nat → Int32 := fun j => if j < l.length then nI (l.getD j 0) else z j
theorem gRw_i {l : List Nat} {z : Nat → Int32} {j : Nat} (h : j < l.length) : gRw l z j = nI (l.getD j 0) := if_pos h
theorem gset_D {l : List Nat} {i j v : Nat} (hi : i < l.length) : (l.set i v).getD j 0 = if j = i then v else l.getD j 0 := by
  rw [List.getD_eq_getElem?_getD, List.getD_eq_getElem?_getD, List.getElem?_set]
  by_cases e : i = j
  · subst e
    simp [hi]
  · rw [if_neg e, if_neg (fun q => e q.symm)]
theorem gRw_set {l : List Nat} {z : Nat → Int32} {i v : Nat} (hi : i < l.length) : upd (gRw l z) i (nI v) = gRw (l.set i v) z := by
  funext j
  unfold upd gRw
  rw [List.length_set, gset_D hi]
  by_cases e : j = i
  · rw [if_pos e, if_pos (by omega), if_pos e]
  · rw [if_neg e, if_neg e]
def gI1 (l : List Nat) : Nat → Nat
  | 0 => 0
  | k + 1 => if l.getD k 0 < l.getD (k + 1) 0 then k + 1 else gI1 l k
def gJ1 (l : List Nat) (i : Nat) : Nat → Nat
  | 0 => 0
  | k + 1 => if k + 1 ≤ i then k + 1 else if l.getD (k + 1) 0 ≤ l.getD i 0 then gJ1 l i k else k + 1
def gSw (l : List Nat) (i j : Nat) : List Nat := (l.set i (l.getD j 0)).set j (l.getD i 0)
def gRv : Nat → List Nat → Nat → Nat → List Nat
  | 0, l, _, _ => l
  | f + 1, l, lo, hi => if lo < hi then gRv f (gSw l lo hi) (lo + 1) (hi - 1) else l
def gNr (l : List Nat) : Option (List Nat) := if gI1 l (l.length - 1) = 0 then none else some (gRv l.length (gSw l (gI1 l (l.length - 1) - 1) (gJ1 l (gI1 l (l.length - 1) - 1) (l.length - 1))) (gI1 l (l.length - 1)) (l.length - 1))
theorem gSw_len {l : List Nat} {i j : Nat} : (gSw l i j).length = l.length := by unfold gSw; rw [List.length_set, List.length_set]
theorem gRv_len : ∀ {f : Nat} {l : List Nat} {lo hi : Nat}, (gRv f l lo hi).length = l.length
  | 0, _, _, _ => rfl
  | f + 1, l, lo, hi => by
    unfold gRv
    split
    · rw [gRv_len, gSw_len]
    · rfl
theorem gNr_len {l l' : List Nat} (h : gNr l = some l') : l'.length = l.length := by
  unfold gNr at h
  split at h
  · cases h
  · cases h
    rw [gRv_len, gSw_len]
theorem gI1_le {l : List Nat} : ∀ {k : Nat}, gI1 l k ≤ k
  | 0 => Nat.le_refl _
  | k + 1 => by
    unfold gI1
    split
    · omega
    · have := gI1_le (l := l) (k := k); omega
theorem gJ1_le {l : List Nat} {i : Nat} : ∀ {k : Nat}, gJ1 l i k ≤ k
  | 0 => Nat.le_refl _
  | k + 1 => by
    unfold gJ1
    split
    · omega
    · split
      · have := gJ1_le (l := l) (i := i) (k := k); omega
      · omega
def gSm (l : List Nat) : Prop := ∀ j, l.getD j 0 < 100
theorem gSm.sw {l : List Nat} {i j : Nat} (h : gSm l) (hi : i < l.length) (hj : j < l.length) : gSm (gSw l i j) := fun k => by
  unfold gSw
  rw [gset_D (by rw [List.length_set]; exact hj)]
  split
  · exact h i
  · rw [gset_D hi]
    split
    · exact h j
    · exact h k
theorem c_swap {l : List Nat} {z : Nat → Int32} {M : zMem} {o n0 i j : Nat} (hi : i < l.length) (hj : j < l.length) (hn : l.length ≤ n0) (hn0 : n0 < 100) : mf_X11_swap gR o n0 (nI i) (nI j) (zrowI M o (gRw l z)) = some ((), zrowI M o (gRw (gSw l i j) z)) := by
  unfold mf_X11_swap gSw
  have e : (l.set i (l.getD j 0)).length = l.length := List.length_set
  simp (disch := omega) only [zlet_ok, zcl_ok, zl_lit, zl_m1, nI_add, zald_nI, nI_ltE, nI_leE, nI_eqE, zm1_lt', zm1_le', zm1_nlt', zm1_nle', zm1_ne, zm1_ne', zm1_add1, gwI, grI_rI, zrI_s, zrI_n, zrI_L, gwL, grL_rL, zrL_s, zrL_n, zrL_I, Nat.zero_add, ↓reduceIte, if_true, if_false, gB_0, gB_1, gB_01, zchk_t, gB_1e, eq_self, gcle, gcnle, gclt, gcnlt, gcne, not_true_eq_false, not_false_eq_true, true_or, or_true, false_or, or_false, true_and, and_true, false_and, and_false, gRw_i, gRw_set]
theorem c_next71 {z : Nat → Int32} {M : zMem} {o n0 : Nat} (hn0 : n0 < 100) : ∀ (k f : Nat) (l : List Nat) (lo hi : Nat), l.length ≤ n0 → hi < l.length → lo ≤ l.length → hi ≤ k + lo → k < f → mf_X11_makeNextRow_l71 gR o n0 f (nI hi) (nI lo) (zrowI M o (gRw l z)) = some (nI 1, zrowI M o (gRw (gRv k l lo hi) z))
  | 0, f, l, lo, hi, h1, h2, h4, h3, hf => by
    match f, hf with
    | f + 1, _ =>
      simp (disch := omega) only [zlet_ok, zcl_ok, zl_lit, zl_m1, nI_add, zald_nI, nI_ltE, nI_leE, nI_eqE, zm1_lt', zm1_le', zm1_nlt', zm1_nle', zm1_ne, zm1_ne', zm1_add1, gwI, grI_rI, zrI_s, zrI_n, zrI_L, gwL, grL_rL, zrL_s, zrL_n, zrL_I, Nat.zero_add, ↓reduceIte, if_true, if_false, gB_0, gB_1, gB_01, zchk_t, gB_1e, eq_self, gcle, gcnle, gclt, gcnlt, gcne, not_true_eq_false, not_false_eq_true, true_or, or_true, false_or, or_false, true_and, and_true, false_and, and_false, mf_X11_makeNextRow_l71]
      try rfl
  | k + 1, f, l, lo, hi, h1, h2, h4, h3, hf => by
    match f, hf with
    | f + 1, hf =>
      unfold gRv
      by_cases e : lo < hi
      · have ih := c_next71 (z := z) (M := M) (o := o) hn0 k f (gSw l lo hi) (lo + 1) (hi - 1) (by rw [gSw_len]; exact h1) (by rw [gSw_len]; omega) (by rw [gSw_len]; omega) (by omega) (by omega)
        obtain ⟨m, rfl⟩ : ∃ m, hi = m + 1 := ⟨hi - 1, by omega⟩
        rw [if_pos e, ← ih, mf_X11_makeNextRow_l71, if_neg (by rw [nI_leI (by omega) (by omega)]; omega), c_swap (by omega) h2 h1 hn0, zcl_ok]
        simp only [zl_lit, zl_m1]
        rw [enI_dec, enI_s, nI_add]
        try rfl
      · rw [if_neg e]
        simp (disch := omega) only [zlet_ok, zcl_ok, zl_lit, zl_m1, nI_add, zald_nI, nI_ltE, nI_leE, nI_eqE, zm1_lt', zm1_le', zm1_nlt', zm1_nle', zm1_ne, zm1_ne', zm1_add1, gwI, grI_rI, zrI_s, zrI_n, zrI_L, gwL, grL_rL, zrL_s, zrL_n, zrL_I, Nat.zero_add, ↓reduceIte, if_true, if_false, gB_0, gB_1, gB_01, zchk_t, gB_1e, eq_self, gcle, gcnle, gclt, gcnlt, gcne, not_true_eq_false, not_false_eq_true, true_or, or_true, false_or, or_false, true_and, and_true, false_and, and_false, mf_X11_makeNextRow_l71]
theorem c_next35 {l : List Nat} {z : Nat → Int32} {M : zMem} {o n0 i : Nat} (hn0 : n0 < 100) (hs : gSm l) (h1 : l.length ≤ n0) (hi : i < l.length) (x : Int32) : ∀ (k f : Nat), k < l.length → k < f → mf_X11_makeNextRow_l35 gR o n0 f x (nI i) (nI k) (zrowI M o (gRw l z)) = mf_X11_makeNextRow_b55 gR o n0 x (nI i) (nI (gJ1 l i k)) (zrowI M o (gRw l z))
  | 0, f, hk, hf => by
    match f, hf with
    | f + 1, _ =>
      rw [mf_X11_makeNextRow_l35, if_pos (by rw [nI_leI (by omega) (by omega)]; omega)]
      try rfl
  | k + 1, f, hk, hf => by
    match f, hf with
    | f + 1, hf =>
      unfold gJ1
      by_cases e : k + 1 ≤ i
      · rw [if_pos e, mf_X11_makeNextRow_l35, if_pos (by rw [nI_leI (by omega) (by omega)]; omega)]
      · have b1 := hs (k + 1)
        have b2 := hs i
        rw [if_neg e, mf_X11_makeNextRow_l35, if_neg (by rw [nI_leI (by omega) (by omega)]; omega), zald_nI (by omega) (by omega), zald_nI (by omega) (by omega), zrI_s, gRw_i hk, gRw_i hi]
        by_cases e2 : l.getD (k + 1) 0 ≤ l.getD i 0
        · rw [if_pos e2, if_neg (by rw [nI_ltI (by omega) (by omega)]; omega)]
          simp only [zl_lit, zl_m1]
          rw [enI_dec, enI_s]
          exact c_next35 hn0 hs h1 hi x k f (by omega) (by omega)
        · rw [if_neg e2, if_pos (by rw [nI_ltI (by omega) (by omega)]; omega)]
theorem c_next4 {l : List Nat} {z : Nat → Int32} {M : zMem} {o n0 : Nat} (hn0 : n0 < 100) (hs : gSm l) (h1 : l.length ≤ n0) (x : Int32) : ∀ (k f : Nat), k < l.length → k < f → mf_X11_makeNextRow_l4 gR o n0 f x (enI k) (zrowI M o (gRw l z)) = mf_X11_makeNextRow_b25 gR o n0 x (enI (gI1 l k)) (zrowI M o (gRw l z))
  | 0, f, hk, hf => by
    match f, hf with
    | f + 1, _ =>
      rw [mf_X11_makeNextRow_l4, enI_0, if_pos (by decide +kernel)]
      try rfl
  | k + 1, f, hk, hf => by
    match f, hf with
    | f + 1, hf =>
      unfold gI1
      have b1 := hs (k + 1)
      have b2 := hs k
      rw [mf_X11_makeNextRow_l4, enI_s, if_neg (by rw [zl_lit, nI_ltI (by omega) (by omega)]; omega), zald_nI (by omega) (by omega)]
      simp only [zl_lit, zl_m1]
      rw [nI_add, zald_nI (by omega) (by omega), zrI_s, gRw_i (by omega), gRw_i hk]
      by_cases e2 : l.getD k 0 < l.getD (k + 1) 0
      · rw [if_pos e2, if_pos (by rw [nI_ltI (by omega) (by omega)]; omega), enI_s]
      · rw [if_neg e2, if_neg (by rw [nI_ltI (by omega) (by omega)]; omega), enI_dec]
        exact c_next4 hn0 hs h1 x k f (by omega) (by omega)
theorem c_next {l : List Nat} {z : Nat → Int32} {M : zMem} {o n0 : Nat} (hn0 : n0 < 100) (hs : gSm l) (h1 : l.length ≤ n0) : mf_X11_makeNextRow gR o n0 (nI l.length) (zrowI M o (gRw l z)) = match gNr l with | none => some (nI 0, zrowI M o (gRw l z)) | some l' => some (nI 1, zrowI M o (gRw l' z)) := by
  unfold mf_X11_makeNextRow
  by_cases e0 : l.length = 0
  · have e1 : gNr l = none := by unfold gNr; rw [e0]; rfl
    obtain ⟨f, hf⟩ : ∃ f, zF = f + 1 := ⟨4999, rfl⟩
    rw [e1, e0, zlet_ok, hf, mf_X11_makeNextRow_l4, if_pos (by decide +kernel)]
    unfold mf_X11_makeNextRow_b25
    rw [if_neg (by decide +kernel)]
    try rfl
  · have e2 : nI l.length - (2 : Int32) = enI (l.length - 1) := by
      obtain ⟨m, hm⟩ : ∃ m, l.length = m + 1 := ⟨l.length - 1, by omega⟩
      rw [hm, Nat.add_sub_cancel, ← enI_dec, ← nI_add]
      have : nI 1 + -(2 : Int32) = zm1 := by decide +kernel
      rw [Int32.sub_eq_add_neg, Int32.add_assoc, this]
    have l1 := gI1_le (l := l) (k := l.length - 1)
    rw [zlet_ok, e2, c_next4 hn0 hs h1 _ (l.length - 1) zF (by omega) (by show _ < 5000; omega)]
    unfold gNr
    by_cases e3 : gI1 l (l.length - 1) = 0
    · rw [e3, if_pos rfl]
      unfold mf_X11_makeNextRow_b25
      rw [enI_0, if_neg (by decide +kernel)]
      try rfl
    · rw [if_neg e3]
      obtain ⟨i, hi⟩ : ∃ i, gI1 l (l.length - 1) = i + 1 := ⟨gI1 l (l.length - 1) - 1, by omega⟩
      rw [hi, enI_s, Nat.add_sub_cancel]
      have l2 := gJ1_le (l := l) (i := i) (k := l.length - 1)
      unfold mf_X11_makeNextRow_b25
      simp only [zl_lit, zlet_ok]
      rw [if_pos (by rw [nI_leI (by omega) (by omega)]; omega), nI_subE (by omega), c_next35 hn0 hs h1 (by omega) _ (l.length - 1) zF (by omega) (by show _ < 5000; omega)]
      unfold mf_X11_makeNextRow_b55
      rw [c_swap (by omega) (by omega) h1 hn0, zcl_ok]
      simp only [zl_lit, zlet_ok]
      rw [nI_subE (by omega), nI_add, c_next71 hn0 l.length zF _ (i + 1) (l.length - 1) (by rw [gSw_len]; exact h1) (by rw [gSw_len]; omega) (by rw [gSw_len]; omega) (by omega) (by show _ < 5000; omega)]
/-- all rows of what p is so of, the least first -/
def gEn (W : Nat) : Nat → (Nat → Bool) → List Nat → List (List Nat)
  | 0, _, pre => [pre]
  | k + 1, p, pre => ((List.range W).map (fun s => if p s then gEn W k (fun j => p j && !decide (j = s)) (pre ++ [s]) else [])).flatten
/-- the rows, one behind another -/
def gIt : Nat → List Nat → List (List Nat)
  | 0, _ => []
  | f + 1, l => l :: match gNr l with
    | none => []
    | some l' => gIt f l'
theorem gIt_5 : ∀ n, n < 6 → gIt 120 (List.range n) = gEn 5 n (fun j => decide (j < n)) [] := by decide +kernel
theorem gIt_1 : ∀ a, a < 8 → gIt 6 [a] = gEn 8 1 (fun j => decide (j = a)) [] := by decide +kernel
theorem gIt_2 : ∀ a, a < 8 → ∀ b, b < 8 → a < b → gIt 6 [a, b] = gEn 8 2 (fun j => decide (j = a) || decide (j = b)) [] := by decide +kernel
theorem gIt_3b : ((List.range 8).all fun a => (List.range 8).all fun b => (List.range 8).all fun c => !(decide (a < b) && decide (b < c)) || decide (gIt 6 [a, b, c] = gEn 8 3 (fun j => decide (j = a) || (decide (j = b) || decide (j = c))) [])) = true := by decide +kernel
theorem gIt_3 {a b c : Nat} (hab : a < b) (hbc : b < c) (hc : c < 8) : gIt 6 [a, b, c] = gEn 8 3 (fun j => decide (j = a) || (decide (j = b) || decide (j = c))) [] := by
  have h := gIt_3b
  rw [List.all_eq_true] at h
  have h1 := h a (List.mem_range.mpr (by omega))
  rw [List.all_eq_true] at h1
  have h2 := h1 b (List.mem_range.mpr (by omega))
  rw [List.all_eq_true] at h2
  have h3 := h2 c (List.mem_range.mpr (by omega))
  rw [decide_eq_true hab, decide_eq_true hbc] at h3
  exact of_decide_eq_true (by simpa using h3)
