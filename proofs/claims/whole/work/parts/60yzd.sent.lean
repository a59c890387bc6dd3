/-! SENTENCE: steps of the class, nodes of the reference -/
def gStk (K : zN) : Nat → List Nat
  | 0 => []
  | i + 1 => if K i = 13 then i :: (gStk K i).tail else if K i = 11 ∨ K i = 12 then i :: (gStk K i).tail.tail else i :: gStk K i
theorem gStk_lt {K : zN} : ∀ (i c : Nat), c ∈ gStk K i → c < i
  | 0, c, h => absurd h (List.not_mem_nil)
  | i + 1, c, h => by
    have ih := gStk_lt (K := K) i
    unfold gStk at h
    split at h
    · rcases List.mem_cons.mp h with e | e
      · omega
      · have := ih c (List.mem_of_mem_tail e); omega
    · split at h
      · rcases List.mem_cons.mp h with e | e
        · omega
        · have := ih c (List.mem_of_mem_tail (List.mem_of_mem_tail e)); omega
      · rcases List.mem_cons.mp h with e | e
        · omega
        · have := ih c e; omega
theorem gStk_cong {K K' : zN} : ∀ {n : Nat}, (∀ i, i < n → K i = K' i) → gStk K n = gStk K' n
  | 0, _ => rfl
  | n + 1, h => by
    have ih := gStk_cong (n := n) (fun i hi => h i (by omega))
    unfold gStk
    rw [h n (by omega), ih]
def gWf (h K A B : zN) (i : Nat) : Prop := 11 ≤ K i ∧ K i ≤ 23 ∧ (K i = 13 → ∃ r, gStk K i = A i :: r) ∧ ((K i = 11 ∨ K i = 12) → ∃ r, gStk K i = B i :: A i :: r) ∧ (K i = 18 → A i < h 0) ∧ (K i = 19 → A i < h 1) ∧ (20 ≤ K i → (A i = 60 ∨ A i = 61 ∨ A i = 62) ∧ B i ≤ 999)
def gNk (k : Nat) : Nat := if k = 13 then 1 else if k = 12 then 2 else if k = 11 then 3 else 50 + k
def gSC (n : Nat) (K A B : zN) (d f s : Nat → Int32) : Prop := ∀ i, i < n → d i = nI (K i) ∧ (14 ≤ K i → f i = nI (A i)) ∧ (20 ≤ K i → s i = nI (B i))
def gSM (n : Nat) (K A B : zN) (r : Nat → Int32) : Prop := ∀ i, i < n → r (4 * i) = nI (gNk (K i)) ∧ ((K i ≤ 13 ∨ K i = 18 ∨ K i = 19) → r (4 * i + 1) = nI (A i)) ∧ ((K i ≤ 12 ∨ 20 ≤ K i) → r (4 * i + 2) = nI (B i)) ∧ (20 ≤ K i → r (4 * i + 3) = nI (A i))
/-- both drafts alike: n steps, o ONES, w within; st: the tops that wait -/
def gZI (h : zN) (n o w : Nat) (st : List Nat) (K A B : zN) (Mc Mr : zMem) : Prop := Mc.1 25 0 = nI o ∧ Mc.1 25 1 = nI n ∧ gSC n K A B (Mc.1 26) (Mc.1 27) (Mc.1 28) ∧ Mr.1 89 48 = nI n ∧ Mr.1 89 49 = nI o ∧ Mr.1 89 50 = nI w ∧ gSM n K A B (Mr.1 113) ∧ (∀ i, i < n → gWf h K A B i) ∧ gStk K n = st ∧ n + st.length ≤ 2 * o ∧ o ≤ 20
theorem gZI.fr {h : zN} {n o w : Nat} {st : List Nat} {K A B : zN} {Mc Mr Mc1 Mr1 : zMem} {ids ids2 ks ks2 : List Nat} (Z : gZI h n o w st K A B Mc Mr) (fc : gF ids ks Mc Mc1) (hc : ∀ q ∈ [25, 26, 27, 28], q ∉ ids) (fm : gF ids2 ks2 Mr Mr1) (hm : 113 ∉ ids2) (hk : ∀ q ∈ [48, 49, 50], q ∉ ks2) : gZI h n o w st K A B Mc1 Mr1 := by
  unfold gZI
  rw [fc.1 25 (hc 25 (by decide)) (by decide), fc.1 26 (hc 26 (by decide)) (by decide), fc.1 27 (hc 27 (by decide)) (by decide), fc.1 28 (hc 28 (by decide)) (by decide), fm.1 113 hm (by decide), fm.2.2 48 (hk 48 (by decide)), fm.2.2 49 (hk 49 (by decide)), fm.2.2 50 (hk 50 (by decide))]
  exact Z
abbrev gIz : List Nat := [1, 25, 26, 27, 28]
abbrev gJz : List Nat := [89, 113]
abbrev gFz : List Nat := [5, 6, 7, 8, 9, 10, 11, 13, 48, 49, 50, 51]
/-- how a ONE, a COND comes out -/
def gZO (tl lim : Nat) (tb : Nat → Nat) (h : zN) (n o w : Nat) (st : List Nat) (Mc Mr : zMem) (rc rm : Option (Int32 × zMem)) : Prop := (∃ (n' o' : Nat) (K A B : zN) (k1 : gTk) (Mc1 Mr1 : zMem), rc = some (nI 1, Mc1) ∧ rm = some (nI 1, Mr1) ∧ gTS tl lim tb k1 Mc1 Mr1 ∧ gZI h (n' + 1) o' w (n' :: st) K A B Mc1 Mr1 ∧ Mr1.1 89 51 = nI n' ∧ o < o' ∧ n' + 2 + 2 * o ≤ 2 * o' + n ∧ gF gIz [] Mc Mc1 ∧ gF gJz gFz Mr Mr1) ∨ (∃ Mc1 Mr1, rc = some (nI 0, Mc1) ∧ rm = some (nI 0, Mr1) ∧ gBad Mc1 Mr1 ∧ gF gIz [] Mc Mc1 ∧ gF gJz gFz Mr Mr1)
/-- one step, one node more -/
theorem k_addZ {h : zN} {n o w k x y : Nat} {st st' : List Nat} {K A B : zN} {Mc Mr : zMem} {cf cs p1 p2 p3 : Int32} (Z : gZI h n o w st K A B Mc Mr) (hn : n ≤ 39) (h1 : 11 ≤ k) (h2 : k ≤ 23) (h3 : k = 13 → ∃ r, st = x :: r) (h4 : (k = 11 ∨ k = 12) → ∃ r, st = y :: x :: r) (h5 : k = 18 → x < h 0) (h6 : k = 19 → x < h 1) (h7 : 20 ≤ k → (x = 60 ∨ x = 61 ∨ x = 62) ∧ y ≤ 999) (g1 : 14 ≤ k → cf = nI x) (g2 : 20 ≤ k → cs = nI y) (g3 : (k ≤ 13 ∨ k = 18 ∨ k = 19) → p1 = nI x) (g4 : (k ≤ 12 ∨ 20 ≤ k) → p2 = nI y) (g5 : 20 ≤ k → p3 = nI x) (e1 : (if k = 13 then n :: st.tail else if k = 11 ∨ k = 12 then n :: st.tail.tail else n :: st) = st') (e2 : n + 1 + st'.length ≤ 2 * o) : ∃ Mc1 Mr1, mf_X8_addStep gR 25 (nI k) cf cs Mc = some (nI 1, Mc1) ∧ mf_X12_saysOne gR 89 (nI (gNk k)) p1 p2 p3 Mr = some (nI n, Mr1) ∧ gZI h (n + 1) o w st' (uN K n k) (uN A n x) (uN B n y) Mc1 Mr1 ∧ gF [25, 26, 27, 28] [] Mc Mc1 ∧ gF [113] [48] Mr Mr1 := by
  obtain ⟨z1, z2, z3, z4, z5, z6, z7, z8, z9, z10, z11⟩ := Z
  have a1 : (zwI Mc 26 n (nI k)).1 25 1 = nI n := by rw [zwI_n (by decide)]; exact z2
  have a2 : (zwI (zwI Mc 26 n (nI k)) 27 n cf).1 25 1 = nI n := by rw [zwI_n (by decide)]; exact a1
  have a3 : (zwI (zwI (zwI Mc 26 n (nI k)) 27 n cf) 28 n cs).1 25 1 = nI n := by rw [zwI_n (by decide)]; exact a2
  have ec : mf_X8_addStep gR 25 (nI k) cf cs Mc = some (nI 1, zwI (zwI (zwI (zwI Mc 26 n (nI k)) 27 n cf) 28 n cs) 25 1 (nI (n + 1))) := by
    unfold mf_X8_addStep
    simp only [zl_lit, zlet_ok, r25_2, r25_3, r25_4]
    rw [z2, if_pos ((nI_ltI (by omega) (by omega)).mpr (by omega)), zald_nI (by omega) (by omega), a1, zald_nI (by omega) (by omega), a2, zald_nI (by omega) (by omega), a3, nI_add]
  obtain ⟨Mq, hMq⟩ : ∃ Mq, Mq = zwI (zwI (zwI (zwI Mr 113 (4 * n) (nI (gNk k))) 113 (4 * n + 1) p1) 113 (4 * n + 2) p2) 113 (4 * n + 3) p3 := ⟨_, rfl⟩
  have fq : gF [113] [] Mr Mq := by
    rw [hMq]
    exact gF.wI (gF.wI (gF.wI (gF.wI gF.r (by decide) (by decide)) (by decide) (by decide)) (by decide) (by decide)) (by decide) (by decide)
  have q48 : Mq.1 89 48 = nI n := by rw [fq.2.2 48 (by decide)]; exact z4
  have em : mf_X12_saysOne gR 89 (nI (gNk k)) p1 p2 p3 Mr = some (nI n, zwI Mq 89 48 (nI (n + 1))) := by
    unfold mf_X12_saysOne
    simp only [zl_lit, zlet_ok, r89_47]
    rw [z4, nI_mulE]
    simp only [nI_add]
    rw [zald_nI (by omega) (by omega), zald_nI (by omega) (by omega), zald_nI (by omega) (by omega), zald_nI (by omega) (by omega), ← hMq, q48, nI_add, zwI_s, upd_s, nI_subE (by omega), Nat.add_sub_cancel]
  have k0 : gStk (uN K n k) n = st := by
    rw [← z9]
    exact gStk_cong (fun i hi => uN_n (by omega))
  refine ⟨_, _, ec, em, ⟨?_, ?_, ?_, ?_, ?_, ?_, ?_, ?_, ?_, e2, z11⟩, ?_, ?_⟩
  · rw [zwI_s, upd_n (by decide), zwI_n (by decide), zwI_n (by decide), zwI_n (by decide)]; exact z1
  · rw [zwI_s, upd_s]
  · intro i hi
    rw [zwI_n (show 26 ≠ 25 by decide), zwI_n (show 26 ≠ 28 by decide), zwI_n (show 26 ≠ 27 by decide), zwI_s, zwI_n (show 27 ≠ 25 by decide), zwI_n (show 27 ≠ 28 by decide), zwI_s, zwI_n (show 27 ≠ 26 by decide), zwI_n (show 28 ≠ 25 by decide), zwI_s, zwI_n (show 28 ≠ 27 by decide), zwI_n (show 28 ≠ 26 by decide)]
    by_cases e : i = n
    · subst e
      rw [upd_s, upd_s, upd_s, uN_s, uN_s, uN_s]
      exact ⟨rfl, g1, g2⟩
    · rw [upd_n e, upd_n e, upd_n e, uN_n e, uN_n e, uN_n e]
      exact z3 i (by omega)
  · rw [zwI_s, upd_s]
  · rw [zwI_s, upd_n (by decide), fq.2.2 49 (by decide)]; exact z5
  · rw [zwI_s, upd_n (by decide), fq.2.2 50 (by decide)]; exact z6
  · intro i hi
    rw [zwI_n (by decide), hMq, zwI_s, zwI_s, zwI_s, zwI_s]
    by_cases e : i = n
    · subst e
      rw [upd_n (show 4 * i ≠ 4 * i + 3 by omega), upd_n (show 4 * i ≠ 4 * i + 2 by omega), upd_n (show 4 * i ≠ 4 * i + 1 by omega), upd_s, upd_n (show 4 * i + 1 ≠ 4 * i + 3 by omega), upd_n (show 4 * i + 1 ≠ 4 * i + 2 by omega), upd_s, upd_n (show 4 * i + 2 ≠ 4 * i + 3 by omega), upd_s, upd_s, uN_s, uN_s, uN_s]
      exact ⟨rfl, g3, g4, g5⟩
    · rw [upd_n (show 4 * i ≠ 4 * n + 3 by omega), upd_n (show 4 * i ≠ 4 * n + 2 by omega), upd_n (show 4 * i ≠ 4 * n + 1 by omega), upd_n (show 4 * i ≠ 4 * n by omega), upd_n (show 4 * i + 1 ≠ 4 * n + 3 by omega), upd_n (show 4 * i + 1 ≠ 4 * n + 2 by omega), upd_n (show 4 * i + 1 ≠ 4 * n + 1 by omega), upd_n (show 4 * i + 1 ≠ 4 * n by omega), upd_n (show 4 * i + 2 ≠ 4 * n + 3 by omega), upd_n (show 4 * i + 2 ≠ 4 * n + 2 by omega), upd_n (show 4 * i + 2 ≠ 4 * n + 1 by omega), upd_n (show 4 * i + 2 ≠ 4 * n by omega), upd_n (show 4 * i + 3 ≠ 4 * n + 3 by omega), upd_n (show 4 * i + 3 ≠ 4 * n + 2 by omega), upd_n (show 4 * i + 3 ≠ 4 * n + 1 by omega), upd_n (show 4 * i + 3 ≠ 4 * n by omega), uN_n e, uN_n e, uN_n e]
      exact z7 i (by omega)
  · intro i hi
    by_cases e : i = n
    · subst e
      unfold gWf
      rw [uN_s, uN_s, uN_s, k0]
      exact ⟨h1, h2, h3, h4, h5, h6, h7⟩
    · have k1 : gStk (uN K n k) i = gStk K i := gStk_cong (fun j hj => uN_n (by omega))
      unfold gWf
      rw [uN_n e, uN_n e, uN_n e, k1]
      exact z8 i (by omega)
  · rw [gStk, uN_s, k0]
    exact e1
  · exact gF.wI (gF.wI (gF.wI (gF.wI gF.r (by decide) (by decide)) (by decide) (by decide)) (by decide) (by decide)) (by decide) (by decide)
  · exact gF.w9 (fq.mono (by decide) (by decide)) (by decide)
