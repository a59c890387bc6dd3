/-! WHAT HOLDS BETWEEN CALLS -/
theorem gKS.fr {M M1 : zMem} {ids ks : List Nat} (hf : gF ids ks M M1) (hi : 3 ∉ ids) (K : gKS M) : gKS M1 := fun k hk => by rw [hf.2.1 3 hi]; exact K k hk
theorem gCI.fr {M M1 : zMem} {ids ks : List Nat} (hf : gF ids ks M M1) (e : M1.1 55 4 = M.1 55 4) (hi : ∀ o ∈ [58, 109], o ∉ ids) (hk : 38 ∉ ks) (C : gCI M) : gCI M1 := by
  obtain ⟨n, h1, h2, h3, h4⟩ := C
  refine ⟨n, h1, e.trans h2, by rw [hf.2.2 38 hk]; exact h3, fun k hk2 => ?_⟩
  rw [hf.1 58 (hi 58 (by decide)) (by decide), hf.1 109 (hi 109 (by decide)) (by decide)]
  exact h4 k hk2
theorem gTp.fr {tl : Nat} {tb : Nat → Nat} {M M1 : zMem} {ids ks : List Nat} (hf : gF ids ks M M1) (hi : ∀ o ∈ [1, 2, 90], o ∉ ids) (hk : 2 ∉ ks) (T : gTp tl tb M) : gTp tl tb M1 := by
  obtain ⟨t1, t2, t3, t4⟩ := T
  refine ⟨t1, by rw [hf.1 1 (hi 1 (by decide)) (by decide)]; exact t2, by rw [hf.2.2 2 hk]; exact t3, fun j hj => ?_⟩
  rw [hf.1 2 (hi 2 (by decide)) (by decide), hf.1 90 (hi 90 (by decide)) (by decide)]
  exact t4 j hj
theorem gIm.fr {p k c : Nat} {M M1 : zMem} {ids ks : List Nat} (hp : 63 ≤ p ∧ p ≤ 76) (hf : gF ids ks M M1) (hi : ∀ o ∈ List.range 102, 63 ≤ o → o ≤ 88 ∨ o = 93 ∨ o = 100 ∨ o = 101 → o ∉ ids) (I : gIm p k c M) : gIm p k c M1 := by
  have h1 : ∀ o, 63 ≤ o → o ≤ 88 ∨ o = 93 ∨ o = 100 ∨ o = 101 → o ∉ ids := fun o h1 h2 => hi o (List.mem_range.mpr (by omega)) h1 h2
  exact gIm.cg (fun x q1 q2 => hf.1 x (h1 x (by omega) (by omega)) (by omega)) (hf.2.1 _ (h1 _ (by omega) (by omega))) (fun j _ => by rw [hf.1 93 (h1 93 (by omega) (by omega)) (by decide)]) (fun j _ => by rw [hf.2.1 100 (h1 100 (by omega) (by omega))]) (by rw [hf.1 101 (h1 101 (by omega) (by omega)) (by decide)]) I
/-- what stands beside the room, the lab, the names, the sentence and the tape -/
def gZo (c : Nat) (M : zMem) : Prop := gKS M ∧ gCI M ∧ gOI M ∧ gAI M ∧ gDI M ∧ gTI M ∧ gIm 63 0 c M ∧ gIm 76 1 c M
theorem gZo.mono {c d : Nat} {M : zMem} (hc : c ≤ d) (Z : gZo c M) : gZo d M := ⟨Z.1, Z.2.1, Z.2.2.1, Z.2.2.2.1, Z.2.2.2.2.1, Z.2.2.2.2.2.1, Z.2.2.2.2.2.2.1.mono hc, Z.2.2.2.2.2.2.2.mono hc⟩
abbrev gIdZ : List Nat := [3, 30, 44, 47, 48, 55, 58, 60, 61, 106, 107, 109, 110, 112]
abbrev gKsZ : List Nat := [31, 35, 38, 41, 46]
theorem gZo.fr {c : Nat} {M M1 : zMem} {ids ks : List Nat} (hf : gF ids ks M M1) (hi : ∀ o ∈ gIdZ, o ∉ ids) (hk : ∀ o ∈ gKsZ, o ∉ ks) (hm : ∀ o ∈ List.range 102, 63 ≤ o → o ≤ 88 ∨ o = 93 ∨ o = 100 ∨ o = 101 → o ∉ ids) (Z : gZo c M) : gZo c M1 := by
  obtain ⟨K, C, O, A, D, I, J0, J1⟩ := Z
  refine ⟨K.fr hf (hi 3 (by decide)), C.fr hf (by rw [hf.1 55 (hi 55 (by decide)) (by decide)]) (fun o ho => hi o ?_) (hk 38 (by decide)), O.fr hf (by rw [hf.1 44 (hi 44 (by decide)) (by decide)]) (fun o ho => hi o ?_) (hk 31 (by decide)), ?_, D.fr hf (fun o ho => hi o ?_) (hk 46 (by decide)), I.fr hf (fun o ho => hi o ?_) (hk 41 (by decide)), gIm.fr (by omega) hf hm J0, gIm.fr (by omega) hf hm J1⟩
  · revert o; decide
  · revert o; decide
  · unfold gAI at *
    rw [hf.1 55 (hi 55 (by decide)) (by decide), hf.2.2 35 (hk 35 (by decide))]
    exact A
  · revert o; decide
  · revert o; decide
def gZ (c : Nat) (M : zMem) : Prop := ∃ (h a : zN) (t : Nat → Int32) (sn : Nat → zN) (n tl : Nat) (tb : Nat → Nat) (nu : Nat → List Nat), gX c h a t sn n M ∧ gNm h nu M ∧ gSI 20 21 22 23 h t M ∧ gTp tl tb M ∧ M.1 1 2 = M.1 89 10 ∧ gZo c M
theorem gZ.mono {c d : Nat} {M : zMem} (hc : c ≤ d) (Z : gZ c M) : gZ d M := by
  obtain ⟨h, a, t, sn, n, tl, tb, nu, X, N, I, T, e, Zo⟩ := Z
  exact ⟨h, a, t, sn, n, tl, tb, nu, X.mono hc, N, I, T, e, Zo.mono hc⟩
abbrev gIdQ : List Nat := [1, 2, 4, 5, 6, 7, 8, 9, 17, 20, 21, 22, 23, 33, 35, 36, 37, 38, 39, 40, 41, 42, 43, 90, 91, 94, 98]
abbrev gKsQ : List Nat := [2, 10, 26]
/-- a call that leaves all of it as it was -/
theorem gZ.fr {c : Nat} {M M1 : zMem} {ids ks : List Nat} (hf : gF ids ks M M1) (hi : ∀ o ∈ gIdZ, o ∉ ids) (hk : ∀ o ∈ gKsZ, o ∉ ks) (hm : ∀ o ∈ List.range 102, 63 ≤ o → o ≤ 88 ∨ o = 93 ∨ o = 100 ∨ o = 101 → o ∉ ids) (hq : ∀ o ∈ gIdQ, o ∉ ids) (hk2 : ∀ o ∈ gKsQ, o ∉ ks) (Z : gZ c M) : gZ c M1 := by
  obtain ⟨h, a, t, sn, n, tl, tb, nu, X, N, I, T, e, Zo⟩ := Z
  refine ⟨h, a, t, sn, n, tl, tb, nu, X.fr hf (fun o ho => hq o ?_) (hk2 26 (by decide)), N.fr hf (fun o ho => hq o ?_), I.fr hf (fun o ho => ⟨hq o ?_, ?_⟩), T.fr hf (fun o ho => hq o ?_) (hk2 2 (by decide)), ?_, Zo.fr hf hi hk hm⟩
  · revert o; decide
  · revert o; decide
  · revert o; decide
  · revert o; decide
  · revert o; decide
  · rw [hf.1 1 (hq 1 (by decide)) (by decide), hf.2.2 10 (hk2 10 (by decide))]
    exact e
theorem gF.z0 {M : zMem} {v : Int32} : gF [] [0] M (zwI M 89 0 v) := gF.w9 gF.r (by decide)
theorem gZ.z0 {c : Nat} {M : zMem} {v : Int32} (Z : gZ c M) : gZ c (zwI M 89 0 v) := gZ.fr gF.z0 (by decide) (by decide) (by decide +kernel) (by decide) (by decide) Z

theorem z_fault {c : Nat} {M : zMem} (Z : gZ c M) (hc : c < 2 ^ 20) : ∃ r M1 M2, mf_X11_fault gR 0 M = some (r, M1) ∧ mf_X12_fault gR 89 M1 = some (r, M2) ∧ gZ (c + 60) M2 := by
  obtain ⟨h, a, t, sn, n, tl, tb, nu, X, N, I, T, e12, Zo⟩ := id Z
  obtain ⟨K, C, O, A, D, TI, J0, J1⟩ := id Zo
  obtain ⟨r, e1, e2⟩ := q_fault e12
  exact ⟨r, M, _, e1, e2, (Z.z0).mono (by omega)⟩
theorem z_bath {c : Nat} {M : zMem} (Z : gZ c M) (hc : c < 2 ^ 20) (x y : Int32) : ∃ r M1 M2, mf_X11_bath gR 0 x y M = some (r, M1) ∧ mf_X12_bath gR 89 x y M1 = some (r, M2) ∧ gZ (c + 60) M2 := by
  obtain ⟨h, a, t, sn, n, tl, tb, nu, X, N, I, T, e12, Zo⟩ := id Z
  obtain ⟨K, C, O, A, D, TI, J0, J1⟩ := id Zo
  obtain ⟨r, e1, e2⟩ := q_bath X.1 x y
  exact ⟨r, M, _, e1, e2, (Z.z0).mono (by omega)⟩
theorem z_asks {c : Nat} {M : zMem} (Z : gZ c M) (hc : c < 2 ^ 20) (x y : Int32) : ∃ r M1 M2, mf_X11_asks gR 0 x y M = some (r, M1) ∧ mf_X12_asks gR 89 x y M1 = some (r, M2) ∧ gZ (c + 60) M2 := by
  obtain ⟨h, a, t, sn, n, tl, tb, nu, X, N, I, T, e12, Zo⟩ := id Z
  obtain ⟨K, C, O, A, D, TI, J0, J1⟩ := id Zo
  obtain ⟨r, e1, e2⟩ := q_asks X.1 x y
  exact ⟨r, M, _, e1, e2, (Z.z0).mono (by omega)⟩
theorem z_now {c : Nat} {M : zMem} (Z : gZ c M) (hc : c < 2 ^ 20) (x : Int32) : ∃ r M1 M2, mf_X11_now gR 0 x M = some (r, M1) ∧ mf_X12_now gR 89 x M1 = some (r, M2) ∧ gZ (c + 60) M2 := by
  obtain ⟨h, a, t, sn, n, tl, tb, nu, X, N, I, T, e12, Zo⟩ := id Z
  obtain ⟨K, C, O, A, D, TI, J0, J1⟩ := id Zo
  obtain ⟨r, e1, e2⟩ := q_now X.1 x
  exact ⟨r, M, _, e1, e2, (Z.z0).mono (by omega)⟩
theorem z_jam {c : Nat} {M : zMem} (Z : gZ c M) (hc : c < 2 ^ 20) : ∃ r M1 M2, mf_X11_jam gR 0 M = some (r, M1) ∧ mf_X12_jam gR 89 M1 = some (r, M2) ∧ gZ (c + 60) M2 := by
  obtain ⟨h, a, t, sn, n, tl, tb, nu, X, N, I, T, e12, Zo⟩ := id Z
  obtain ⟨K, C, O, A, D, TI, J0, J1⟩ := id Zo
  obtain ⟨r, e1, e2⟩ := q_jam X.1
  exact ⟨r, M, _, e1, e2, (Z.z0).mono (by omega)⟩
theorem z_block {c : Nat} {M : zMem} (Z : gZ c M) (hc : c < 2 ^ 20) (x : Int32) : ∃ r M1 M2, mf_X11_block gR 0 x M = some (r, M1) ∧ mf_X12_block gR 89 x M1 = some (r, M2) ∧ gZ (c + 60) M2 := by
  obtain ⟨h, a, t, sn, n, tl, tb, nu, X, N, I, T, e12, Zo⟩ := id Z
  obtain ⟨K, C, O, A, D, TI, J0, J1⟩ := id Zo
  obtain ⟨r, e1, e2⟩ := q_block X.1 x
  exact ⟨r, M, _, e1, e2, (Z.z0).mono (by omega)⟩
theorem z_through {c : Nat} {M : zMem} (Z : gZ c M) (hc : c < 2 ^ 20) (x : Int32) : ∃ r M1 M2, mf_X11_through gR 0 x M = some (r, M1) ∧ mf_X12_through gR 89 x M1 = some (r, M2) ∧ gZ (c + 60) M2 := by
  obtain ⟨h, a, t, sn, n, tl, tb, nu, X, N, I, T, e12, Zo⟩ := id Z
  obtain ⟨K, C, O, A, D, TI, J0, J1⟩ := id Zo
  obtain ⟨r, e1, e2⟩ := q_through X.1 x
  exact ⟨r, M, _, e1, e2, (Z.z0).mono (by omega)⟩
theorem z_near {c : Nat} {M : zMem} (Z : gZ c M) (hc : c < 2 ^ 20) (x : Int32) : ∃ r M1 M2, mf_X11_near gR 0 x M = some (r, M1) ∧ mf_X12_near gR 89 x M1 = some (r, M2) ∧ gZ (c + 60) M2 := by
  obtain ⟨h, a, t, sn, n, tl, tb, nu, X, N, I, T, e12, Zo⟩ := id Z
  obtain ⟨K, C, O, A, D, TI, J0, J1⟩ := id Zo
  obtain ⟨r, e1, e2⟩ := q_near X.1 x
  exact ⟨r, M, _, e1, e2, (Z.z0).mono (by omega)⟩
theorem z_gap {c : Nat} {M : zMem} (Z : gZ c M) (hc : c < 2 ^ 20) (x y : Int32) : ∃ r M1 M2, mf_X11_gap gR 0 x y M = some (r, M1) ∧ mf_X12_gap gR 89 x y M1 = some (r, M2) ∧ gZ (c + 60) M2 := by
  obtain ⟨h, a, t, sn, n, tl, tb, nu, X, N, I, T, e12, Zo⟩ := id Z
  obtain ⟨K, C, O, A, D, TI, J0, J1⟩ := id Zo
  obtain ⟨r, e1, e2⟩ := q_gap X.1 x y
  exact ⟨r, M, _, e1, e2, (Z.z0).mono (by omega)⟩
theorem z_chainAt {c : Nat} {M : zMem} (Z : gZ c M) (hc : c < 2 ^ 20) (x : Int32) : ∃ r M1 M2, mf_X11_chainAt gR 0 x M = some (r, M1) ∧ mf_X12_chainAt gR 89 x M1 = some (r, M2) ∧ gZ (c + 60) M2 := by
  obtain ⟨h, a, t, sn, n, tl, tb, nu, X, N, I, T, e12, Zo⟩ := id Z
  obtain ⟨K, C, O, A, D, TI, J0, J1⟩ := id Zo
  obtain ⟨r, e1, e2⟩ := q_chainAt C x
  exact ⟨r, M, _, e1, e2, (Z.z0).mono (by omega)⟩
theorem z_orderAt {c : Nat} {M : zMem} (Z : gZ c M) (hc : c < 2 ^ 20) (x : Int32) : ∃ r M1 M2, mf_X11_orderAt gR 0 x M = some (r, M1) ∧ mf_X12_orderAt gR 89 x M1 = some (r, M2) ∧ gZ (c + 60) M2 := by
  obtain ⟨h, a, t, sn, n, tl, tb, nu, X, N, I, T, e12, Zo⟩ := id Z
  obtain ⟨K, C, O, A, D, TI, J0, J1⟩ := id Zo
  obtain ⟨r, e1, e2⟩ := q_orderAt O x
  exact ⟨r, M, _, e1, e2, (Z.z0).mono (by omega)⟩
theorem z_orderWhen {c : Nat} {M : zMem} (Z : gZ c M) (hc : c < 2 ^ 20) (x : Int32) : ∃ r M1 M2, mf_X11_orderWhen gR 0 x M = some (r, M1) ∧ mf_X12_orderWhen gR 89 x M1 = some (r, M2) ∧ gZ (c + 60) M2 := by
  obtain ⟨h, a, t, sn, n, tl, tb, nu, X, N, I, T, e12, Zo⟩ := id Z
  obtain ⟨K, C, O, A, D, TI, J0, J1⟩ := id Zo
  obtain ⟨r, e1, e2⟩ := q_orderWhen O x
  exact ⟨r, M, _, e1, e2, (Z.z0).mono (by omega)⟩
theorem z_ask {c : Nat} {M : zMem} (Z : gZ c M) (hc : c < 2 ^ 20) : ∃ r M1 M2, mf_X11_ask gR 0 M = some (r, M1) ∧ mf_X12_ask gR 89 M1 = some (r, M2) ∧ gZ (c + 60) M2 := by
  obtain ⟨h, a, t, sn, n, tl, tb, nu, X, N, I, T, e12, Zo⟩ := id Z
  obtain ⟨K, C, O, A, D, TI, J0, J1⟩ := id Zo
  obtain ⟨r, e1, e2⟩ := q_ask A
  exact ⟨r, M, _, e1, e2, (Z.z0).mono (by omega)⟩
theorem z_count {c : Nat} {M : zMem} (Z : gZ c M) (hc : c < 2 ^ 20) (x : Int32) : ∃ r M1 M2, mf_X11_count gR 0 x M = some (r, M1) ∧ mf_X12_count gR 89 x M1 = some (r, M2) ∧ gZ (c + 60) M2 := by
  obtain ⟨h, a, t, sn, n, tl, tb, nu, X, N, I, T, e12, Zo⟩ := id Z
  obtain ⟨K, C, O, A, D, TI, J0, J1⟩ := id Zo
  obtain ⟨r, e1, e2⟩ := q_count X.1 T x
  exact ⟨r, M, _, e1, e2, (Z.z0).mono (by omega)⟩
theorem z_told {c : Nat} {M : zMem} (Z : gZ c M) (hc : c < 2 ^ 20) (x : Int32) : ∃ r M1 M2, mf_X11_told gR 0 x M = some (r, M1) ∧ mf_X12_told gR 89 x M1 = some (r, M2) ∧ gZ (c + 60) M2 := by
  obtain ⟨h, a, t, sn, n, tl, tb, nu, X, N, I, T, e12, Zo⟩ := id Z
  obtain ⟨K, C, O, A, D, TI, J0, J1⟩ := id Zo
  obtain ⟨r, e1, e2⟩ := q_told D x
  exact ⟨r, M, _, e1, e2, (Z.z0).mono (by omega)⟩
theorem z_byteAt {c : Nat} {M : zMem} (Z : gZ c M) (hc : c < 2 ^ 20) (x : Int32) : ∃ r M1 M2, mf_X11_byteAt gR 0 x M = some (r, M1) ∧ mf_X12_byteAt gR 89 x M1 = some (r, M2) ∧ gZ (c + 60) M2 := by
  obtain ⟨h, a, t, sn, n, tl, tb, nu, X, N, I, T, e12, Zo⟩ := id Z
  obtain ⟨K, C, O, A, D, TI, J0, J1⟩ := id Zo
  obtain ⟨r, e1, e2⟩ := q_byteAt TI x
  exact ⟨r, M, _, e1, e2, (Z.z0).mono (by omega)⟩
theorem z_often {c : Nat} {M : zMem} (Z : gZ c M) (hc : c < 2 ^ 20) : ∃ r M1 M2, mf_X11_often gR 0 M = some (r, M1) ∧ mf_X12_often gR 89 M1 = some (r, M2) ∧ gZ (c + 60) M2 := by
  obtain ⟨h, a, t, sn, n, tl, tb, nu, X, N, I, T, e12, Zo⟩ := id Z
  obtain ⟨K, C, O, A, D, TI, J0, J1⟩ := id Zo
  obtain ⟨r, e1, e2⟩ := q_often X.1 (fun s hs => by have := (X.2.2.2.2.1.2 s hs).2; omega)
  exact ⟨r, M, _, e1, e2, (Z.z0).mono (by omega)⟩
theorem z_when {c : Nat} {M : zMem} (Z : gZ c M) (hc : c < 2 ^ 20) (x : Int32) : ∃ r M1 M2, mf_X11_when gR 0 x M = some (r, M1) ∧ mf_X12_when gR 89 x M1 = some (r, M2) ∧ gZ (c + 60) M2 := by
  obtain ⟨h, a, t, sn, n, tl, tb, nu, X, N, I, T, e12, Zo⟩ := id Z
  obtain ⟨K, C, O, A, D, TI, J0, J1⟩ := id Zo
  obtain ⟨r, M1, M2, e1, e2, hf⟩ := q_when X.1 x
  exact ⟨r, M1, M2, e1, e2, (gZ.fr hf (by decide) (by decide) (by decide +kernel) (by decide) (by decide) Z).mono (by omega)⟩
theorem z_clear {c : Nat} {M : zMem} (Z : gZ c M) (hc : c < 2 ^ 20) (x : Int32) : ∃ r M1 M2, mf_X11_clear gR 0 x M = some (r, M1) ∧ mf_X12_clear gR 89 x M1 = some (r, M2) ∧ gZ (c + 60) M2 := by
  obtain ⟨h, a, t, sn, n, tl, tb, nu, X, N, I, T, e12, Zo⟩ := id Z
  obtain ⟨K, C, O, A, D, TI, J0, J1⟩ := id Zo
  obtain ⟨r, M1, M2, e1, e2, hf⟩ := q_clear X.1 x
  exact ⟨r, M1, M2, e1, e2, (gZ.fr hf (by decide) (by decide) (by decide +kernel) (by decide) (by decide) Z).mono (by omega)⟩
theorem z_load {c : Nat} {M : zMem} (Z : gZ c M) (hc : c < 2 ^ 20) (x y : Int32) : ∃ r M1 M2, mf_X11_load gR 0 x y M = some (r, M1) ∧ mf_X12_load gR 89 x y M1 = some (r, M2) ∧ gZ (c + 60) M2 := by
  obtain ⟨h, a, t, sn, n, tl, tb, nu, X, N, I, T, e12, Zo⟩ := id Z
  obtain ⟨K, C, O, A, D, TI, J0, J1⟩ := id Zo
  obtain ⟨r, M1, M2, e1, e2, hf⟩ := q_load X.1 x y
  exact ⟨r, M1, M2, e1, e2, (gZ.fr hf (by decide) (by decide) (by decide +kernel) (by decide) (by decide) Z).mono (by omega)⟩
theorem z_odds {c : Nat} {M : zMem} (Z : gZ c M) (hc : c < 2 ^ 20) (x y w : Int32) : ∃ r M1 M2, mf_X11_odds gR 0 x y w M = some (r, M1) ∧ mf_X12_odds gR 89 x y w M1 = some (r, M2) ∧ gZ (c + 60) M2 := by
  obtain ⟨h, a, t, sn, n, tl, tb, nu, X, N, I, T, e12, Zo⟩ := id Z
  obtain ⟨K, C, O, A, D, TI, J0, J1⟩ := id Zo
  obtain ⟨r, M1, M2, e1, e2, hf⟩ := q_odds X.1 X.2.2.2.2.1 x y w
  exact ⟨r, M1, M2, e1, e2, (gZ.fr hf (by decide) (by decide) (by decide +kernel) (by decide) (by decide) Z).mono (by omega)⟩
theorem z_said {c : Nat} {M : zMem} (Z : gZ c M) (hc : c < 2 ^ 20) (x : Int32) : ∃ r M1 M2, mf_X11_said gR 0 x M = some (r, M1) ∧ mf_X12_said gR 89 x M1 = some (r, M2) ∧ gZ (c + 60) M2 := by
  obtain ⟨h, a, t, sn, n, tl, tb, nu, X, N, I, T, e12, Zo⟩ := id Z
  obtain ⟨K, C, O, A, D, TI, J0, J1⟩ := id Zo
  obtain ⟨r, M1, M2, e1, e2, hf⟩ := q_said X hc I x
  exact ⟨r, M1, M2, e1, e2, (gZ.fr hf (by decide) (by decide) (by decide +kernel) (by decide) (by decide) Z).mono (by omega)⟩
theorem z_start {c : Nat} {M : zMem} (Z : gZ c M) (hc : c < 2 ^ 20) (x : Int32) : ∃ r M1 M2, mf_X11_start gR 0 x M = some (r, M1) ∧ mf_X12_start gR 89 x M1 = some (r, M2) ∧ gZ (c + 60) M2 := by
  obtain ⟨h, a, t, sn, n, tl, tb, nu, X, N, I, T, e12, Zo⟩ := id Z
  obtain ⟨K, C, O, A, D, TI, J0, J1⟩ := id Zo
  obtain ⟨r, M1, M2, a', sn', n', e1, e2, hf, X2⟩ := q_start X x
  exact ⟨r, M1, M2, e1, e2, h, a', t, sn', n', tl, tb, nu, X2.mono (by omega), N.fr hf (by decide), I.fr hf (by decide), T.fr hf (by decide) (by decide), by rw [hf.1 1 (by decide) (by decide), hf.2.2 10 (by decide)]; exact e12, (Zo.fr hf (by decide) (by decide) (by decide +kernel)).mono (by omega)⟩
theorem z_take {c : Nat} {M : zMem} (Z : gZ c M) (hc : c < 2 ^ 20) (x : Int32) : ∃ r M1 M2, mf_X11_take gR 0 x M = some (r, M1) ∧ mf_X12_take_ gR 89 x M1 = some (r, M2) ∧ gZ (c + 60) M2 := by
  obtain ⟨h, a, t, sn, n, tl, tb, nu, X, N, I, T, e12, Zo⟩ := id Z
  obtain ⟨K, C, O, A, D, TI, J0, J1⟩ := id Zo
  obtain ⟨r, M1, M2, a', sn', n', e1, e2, hf, X2⟩ := q_take X x
  exact ⟨r, M1, M2, e1, e2, h, a', t, sn', n', tl, tb, nu, X2.mono (by omega), N.fr hf (by decide), I.fr hf (by decide), T.fr hf (by decide) (by decide), by rw [hf.1 1 (by decide) (by decide), hf.2.2 10 (by decide)]; exact e12, (Zo.fr hf (by decide) (by decide) (by decide +kernel)).mono (by omega)⟩
theorem z_again {c : Nat} {M : zMem} (Z : gZ c M) (hc : c < 2 ^ 20) (x : Int32) : ∃ r M1 M2, mf_X11_again gR 0 x M = some (r, M1) ∧ mf_X12_again gR 89 x M1 = some (r, M2) ∧ gZ (c + 60) M2 := by
  obtain ⟨h, a, t, sn, n, tl, tb, nu, X, N, I, T, e12, Zo⟩ := id Z
  obtain ⟨K, C, O, A, D, TI, J0, J1⟩ := id Zo
  obtain ⟨r, M1, M2, a', sn', n', e1, e2, hf, X2⟩ := q_again X x
  exact ⟨r, M1, M2, e1, e2, h, a', t, sn', n', tl, tb, nu, X2.mono (by omega), N.fr hf (by decide), I.fr hf (by decide), T.fr hf (by decide) (by decide), by rw [hf.1 1 (by decide) (by decide), hf.2.2 10 (by decide)]; exact e12, (Zo.fr hf (by decide) (by decide) (by decide +kernel)).mono (by omega)⟩
theorem z_renew {c : Nat} {M : zMem} (Z : gZ c M) (hc : c < 2 ^ 20) (x : Int32) : ∃ r M1 M2, mf_X11_renew gR 0 x M = some (r, M1) ∧ mf_X12_renew gR 89 x M1 = some (r, M2) ∧ gZ (c + 60) M2 := by
  obtain ⟨h, a, t, sn, n, tl, tb, nu, X, N, I, T, e12, Zo⟩ := id Z
  obtain ⟨K, C, O, A, D, TI, J0, J1⟩ := id Zo
  obtain ⟨r, M1, M2, a', sn', n', e1, e2, hf, X2⟩ := q_renew X x
  exact ⟨r, M1, M2, e1, e2, h, a', t, sn', n', tl, tb, nu, X2.mono (by omega), N.fr hf (by decide), I.fr hf (by decide), T.fr hf (by decide) (by decide), by rw [hf.1 1 (by decide) (by decide), hf.2.2 10 (by decide)]; exact e12, (Zo.fr hf (by decide) (by decide) (by decide +kernel)).mono (by omega)⟩
theorem z_undo {c : Nat} {M : zMem} (Z : gZ c M) (hc : c < 2 ^ 20) : ∃ r M1 M2, mf_X11_undo gR 0 M = some (r, M1) ∧ mf_X12_undo gR 89 M1 = some (r, M2) ∧ gZ (c + 60) M2 := by
  obtain ⟨h, a, t, sn, n, tl, tb, nu, X, N, I, T, e12, Zo⟩ := id Z
  obtain ⟨K, C, O, A, D, TI, J0, J1⟩ := id Zo
  obtain ⟨r, M1, M2, a', sn', n', e1, e2, hf, X2⟩ := q_undo X
  exact ⟨r, M1, M2, e1, e2, h, a', t, sn', n', tl, tb, nu, X2.mono (by omega), N.fr hf (by decide), I.fr hf (by decide), T.fr hf (by decide) (by decide), by rw [hf.1 1 (by decide) (by decide), hf.2.2 10 (by decide)]; exact e12, (Zo.fr hf (by decide) (by decide) (by decide +kernel)).mono (by omega)⟩
theorem z_minutes {c : Nat} {M : zMem} (Z : gZ c M) (hc : c < 2 ^ 20) (x : Int32) : ∃ r M1 M2, mf_X11_minutes gR 0 x M = some (r, M1) ∧ mf_X12_minutes gR 89 x M1 = some (r, M2) ∧ gZ (c + 60) M2 := by
  obtain ⟨h, a, t, sn, n, tl, tb, nu, X, N, I, T, e12, Zo⟩ := id Z
  obtain ⟨K, C, O, A, D, TI, J0, J1⟩ := id Zo
  obtain ⟨r, M1, M2, a', sn', n', e1, e2, hf, X2⟩ := q_minutes X x
  exact ⟨r, M1, M2, e1, e2, h, a', t, sn', n', tl, tb, nu, X2.mono (by omega), N.fr hf (by decide), I.fr hf (by decide), T.fr hf (by decide) (by decide), by rw [hf.1 1 (by decide) (by decide), hf.2.2 10 (by decide)]; exact e12, (Zo.fr hf (by decide) (by decide) (by decide +kernel)).mono (by omega)⟩
theorem z_drawn {c : Nat} {M : zMem} (Z : gZ c M) (hc : c < 2 ^ 20) (x y : Int32) : ∃ r M1 M2, mf_X11_drawn gR 0 x y M = some (r, M1) ∧ mf_X12_drawn gR 89 x y M1 = some (r, M2) ∧ gZ (c + 60) M2 := by
  obtain ⟨h, a, t, sn, n, tl, tb, nu, X, N, I, T, e12, Zo⟩ := id Z
  obtain ⟨K, C, O, A, D, TI, J0, J1⟩ := id Zo
  obtain ⟨r, M1, M2, a', sn', n', e1, e2, hf, X2⟩ := q_drawn X x y
  exact ⟨r, M1, M2, e1, e2, h, a', t, sn', n', tl, tb, nu, X2.mono (by omega), N.fr hf (by decide), I.fr hf (by decide), T.fr hf (by decide) (by decide), by rw [hf.1 1 (by decide) (by decide), hf.2.2 10 (by decide)]; exact e12, (Zo.fr hf (by decide) (by decide) (by decide +kernel)).mono (by omega)⟩
theorem z_feed {c : Nat} {M : zMem} (Z : gZ c M) (hc : c < 2 ^ 20) (x1 x2 x3 x4 x5 : Int32) : ∃ r M1 M2, mf_X11_feed gR 0 x1 x2 x3 x4 x5 M = some (r, M1) ∧ mf_X12_feed gR 89 x1 x2 x3 x4 x5 M1 = some (r, M2) ∧ gZ (c + 60) M2 := by
  obtain ⟨h, a, t, sn, n, tl, tb, nu, X, N, I, T, e12, Zo⟩ := id Z
  obtain ⟨K, C, O, A, D, TI, J0, J1⟩ := id Zo
  obtain ⟨r, M1, M2, tl2, tb2, e1, e2, hf, T2, k1⟩ := q_feed x1 x2 x3 x4 x5 T
  exact ⟨r, M1, M2, e1, e2, h, a, t, sn, n, tl2, tb2, nu, (X.fr hf (by decide) (by decide)).mono (by omega), N.fr hf (by decide), I.fr hf (by decide), T2, by rw [k1 2 (by decide), hf.2.2 10 (by decide)]; exact e12, (Zo.fr hf (by decide) (by decide) (by decide +kernel)).mono (by omega)⟩
theorem z_end {c : Nat} {M : zMem} (Z : gZ c M) (hc : c < 2 ^ 20) (x : Int32) : ∃ r M1 M2, mf_X11_end gR 0 x M = some (r, M1) ∧ mf_X12_end gR 89 x M1 = some (r, M2) ∧ gZ (c + 60) M2 := by
  obtain ⟨h, a, t, sn, n, tl, tb, nu, X, N, I, T, e12, Zo⟩ := id Z
  obtain ⟨K, C, O, A, D, TI, J0, J1⟩ := id Zo
  obtain ⟨r, M1, M2, tl2, e1, e2, hf, T2, k1⟩ := q_end x T
  exact ⟨r, M1, M2, e1, e2, h, a, t, sn, n, tl2, tb, nu, (X.fr hf (by decide) (by decide)).mono (by omega), N.fr hf (by decide), I.fr hf (by decide), T2, by rw [k1 2 (by decide), hf.2.2 10 (by decide)]; exact e12, (Zo.fr hf (by decide) (by decide) (by decide +kernel)).mono (by omega)⟩
theorem z_order {c : Nat} {M : zMem} (Z : gZ c M) (hc : c < 2 ^ 20) : ∃ r M1 M2, mf_X11_order gR 0 M = some (r, M1) ∧ mf_X12_order gR 89 M1 = some (r, M2) ∧ gZ (c + 60) M2 := by
  obtain ⟨h, a, t, sn, n, tl, tb, nu, X, N, I, T, e12, Zo⟩ := id Z
  obtain ⟨K, C, O, A, D, TI, J0, J1⟩ := id Zo
  obtain ⟨r, M1, M2, e1, e2, hf, t1, t2, O2⟩ := q_order X.1 T O
  refine ⟨r, M1, M2, e1, e2, h, a, t, sn, n, 0, tb, nu, (X.fr hf (by decide) (by decide)).mono (by omega), N.fr hf (by decide), I.fr hf (by decide), ⟨by omega, by rw [t1, upd_s], t2, fun j hj => absurd hj (by omega)⟩, by rw [t1, upd_n (by decide), hf.2.2 10 (by decide)]; exact e12, K.fr hf (by decide), C.fr hf (by rw [hf.1 55 (by decide) (by decide)]) (by decide) (by decide), O2, ?_, D.fr hf (by decide) (by decide), TI.fr hf (by decide) (by decide), (gIm.fr (by omega) hf (by decide +kernel) J0).mono (by omega), (gIm.fr (by omega) hf (by decide +kernel) J1).mono (by omega)⟩
  unfold gAI at *
  rw [hf.1 55 (by decide) (by decide), hf.2.2 35 (by decide)]
  exact A
theorem z_who {c : Nat} {M : zMem} (Z : gZ c M) (hc : c < 2 ^ 20) : ∃ r M1 M2, mf_X11_who gR 0 M = some (r, M1) ∧ mf_X12_who gR 89 M1 = some (r, M2) ∧ gZ (c + 60) M2 := by
  obtain ⟨h, a, t, sn, n, tl, tb, nu, X, N, I, T, e12, Zo⟩ := id Z
  obtain ⟨K, C, O, A, D, TI, J0, J1⟩ := id Zo
  obtain ⟨r, M1, M2, e1, e2, hf, t1, t2, c4, A2⟩ := q_who X.1 T A
  exact ⟨r, M1, M2, e1, e2, h, a, t, sn, n, 0, tb, nu, (X.fr hf (by decide) (by decide)).mono (by omega), N.fr hf (by decide), I.fr hf (by decide), ⟨by omega, by rw [t1, upd_s], t2, fun j hj => absurd hj (by omega)⟩, by rw [t1, upd_n (by decide), hf.2.2 10 (by decide)]; exact e12, K.fr hf (by decide), C.fr hf c4 (by decide) (by decide), O.fr hf (by rw [hf.1 44 (by decide) (by decide)]) (by decide) (by decide), A2, D.fr hf (by decide) (by decide), TI.fr hf (by decide) (by decide), (gIm.fr (by omega) hf (by decide +kernel) J0).mono (by omega), (gIm.fr (by omega) hf (by decide +kernel) J1).mono (by omega)⟩
theorem z_chain {c : Nat} {M : zMem} (Z : gZ c M) (hc : c < 2 ^ 20) : ∃ r M1 M2, mf_X11_chain gR 0 M = some (r, M1) ∧ mf_X12_chain gR 89 M1 = some (r, M2) ∧ gZ (c + 60) M2 := by
  obtain ⟨h, a, t, sn, n, tl, tb, nu, X, N, I, T, e12, Zo⟩ := id Z
  obtain ⟨K, C, O, A, D, TI, J0, J1⟩ := id Zo
  obtain ⟨r, M1, M2, e1, e2, hf, c5, C2⟩ := q_chain X.1
  refine ⟨r, M1, M2, e1, e2, h, a, t, sn, n, tl, tb, nu, (X.fr hf (by decide) (by decide)).mono (by omega), N.fr hf (by decide), I.fr hf (by decide), T.fr hf (by decide) (by decide), by rw [hf.1 1 (by decide) (by decide), hf.2.2 10 (by decide)]; exact e12, K.fr hf (by decide), C2, O.fr hf (by rw [hf.1 44 (by decide) (by decide)]) (by decide) (by decide), ?_, D.fr hf (by decide) (by decide), TI.fr hf (by decide) (by decide), (gIm.fr (by omega) hf (by decide +kernel) J0).mono (by omega), (gIm.fr (by omega) hf (by decide +kernel) J1).mono (by omega)⟩
  unfold gAI at *
  rw [c5, hf.2.2 35 (by decide)]
  exact A
theorem z_tag {c : Nat} {M : zMem} (Z : gZ c M) (hc : c < 2 ^ 20) (x : Int32) : ∃ r M1 M2, mf_X11_tag gR 0 x M = some (r, M1) ∧ mf_X12_tag gR 89 x M1 = some (r, M2) ∧ gZ (c + 60) M2 := by
  obtain ⟨h, a, t, sn, n, tl, tb, nu, X, N, I, T, e12, Zo⟩ := id Z
  obtain ⟨K, C, O, A, D, TI, J0, J1⟩ := id Zo
  obtain ⟨r, M1, M2, e1, e2, hf, TI2⟩ := q_tag X.1 N TI x
  refine ⟨r, M1, M2, e1, e2, h, a, t, sn, n, tl, tb, nu, (X.fr hf (by decide) (by decide)).mono (by omega), N.fr hf (by decide), I.fr hf (by decide), T.fr hf (by decide) (by decide), by rw [hf.1 1 (by decide) (by decide), hf.2.2 10 (by decide)]; exact e12, K.fr hf (by decide), C.fr hf (by rw [hf.1 55 (by decide) (by decide)]) (by decide) (by decide), O.fr hf (by rw [hf.1 44 (by decide) (by decide)]) (by decide) (by decide), ?_, D.fr hf (by decide) (by decide), TI2, (gIm.fr (by omega) hf (by decide +kernel) J0).mono (by omega), (gIm.fr (by omega) hf (by decide +kernel) J1).mono (by omega)⟩
  unfold gAI at *
  rw [hf.1 55 (by decide) (by decide), hf.2.2 35 (by decide)]
  exact A
theorem z_book {c : Nat} {M : zMem} (Z : gZ c M) (hc : c < 2 ^ 20) (x : Int32) : ∃ r M1 M2, mf_X11_book gR 0 x M = some (r, M1) ∧ mf_X12_book gR 89 x M1 = some (r, M2) ∧ gZ (c + 60) M2 := by
  obtain ⟨h, a, t, sn, n, tl, tb, nu, X, N, I, T, e12, Zo⟩ := id Z
  obtain ⟨K, C, O, A, D, TI, J0, J1⟩ := id Zo
  obtain ⟨r, M1, M2, a', sn', n', tl', e1, e2, hf, X2, T2, D2, e12'⟩ := q_book X N T K D e12 x
  refine ⟨r, M1, M2, e1, e2, h, a', t, sn', n', tl', tb, nu, X2.mono (by omega), N.fr hf (by decide), I.fr hf (by decide), T2, e12', K.fr hf (by decide), C.fr hf (by rw [hf.1 55 (by decide) (by decide)]) (by decide) (by decide), O.fr hf (by rw [hf.1 44 (by decide) (by decide)]) (by decide) (by decide), ?_, D2, TI.fr hf (by decide) (by decide), (gIm.fr (by omega) hf (by decide +kernel) J0).mono (by omega), (gIm.fr (by omega) hf (by decide +kernel) J1).mono (by omega)⟩
  unfold gAI at *
  rw [hf.1 55 (by decide) (by decide), hf.2.2 35 (by decide)]
  exact A
theorem z_sentence {c : Nat} {M : zMem} (Z : gZ c M) (hc : c < 2 ^ 20) : ∃ r M1 M2, mf_X11_sentence gR 0 M = some (r, M1) ∧ mf_X12_sentence gR 89 M1 = some (r, M2) ∧ gZ (c + 60) M2 := by
  obtain ⟨h, a, t, sn, n, tl, tb, nu, X, N, I, T, e12, Zo⟩ := id Z
  obtain ⟨K, C, O, A, D, TI, J0, J1⟩ := id Zo
  obtain ⟨r, M1, M2, t', e1, e2, hf, X2, I2, T2, e12'⟩ := q_sentence X N T K I
  exact ⟨r, M1, M2, e1, e2, h, a, t', sn, n, 0, tb, nu, X2.mono (by omega), N.fr hf (by decide), I2, T2, e12', (Zo.fr hf (by decide) (by decide) (by decide +kernel)).mono (by omega)⟩
theorem z_image {c : Nat} {M : zMem} (Z : gZ c M) (hc : c < 2 ^ 20) (x : Int32) : ∃ r M1 M2, mf_X11_image gR 0 x M = some (r, M1) ∧ mf_X12_image gR 89 x M1 = some (r, M2) ∧ gZ (c + 60) M2 := by
  obtain ⟨h, a, t, sn, n, tl, tb, nu, X, N, I, T, e12, Zo⟩ := id Z
  obtain ⟨K, C, O, A, D, TI, J0, J1⟩ := id Zo
  obtain ⟨r, M1, M2, e1, e2, hf, J2, J3⟩ := q_image X N I J0 J1 x
  refine ⟨r, M1, M2, e1, e2, h, a, t, sn, n, tl, tb, nu, (X.fr hf (by decide) (by decide)).mono (by omega), N.fr hf (by decide), I.fr hf (by decide), T.fr hf (by decide) (by decide), by rw [hf.1 1 (by decide) (by decide), hf.2.2 10 (by decide)]; exact e12, K.fr hf (by decide), C.fr hf (by rw [hf.1 55 (by decide) (by decide)]) (by decide) (by decide), O.fr hf (by rw [hf.1 44 (by decide) (by decide)]) (by decide) (by decide), ?_, D.fr hf (by decide) (by decide), TI.fr hf (by decide) (by decide), J2.mono (by omega), J3.mono (by omega)⟩
  unfold gAI at *
  rw [hf.1 55 (by decide) (by decide), hf.2.2 35 (by decide)]
  exact A
theorem z_restore {c : Nat} {M : zMem} (Z : gZ c M) (hc : c < 2 ^ 20) (x : Int32) : ∃ r M1 M2, mf_X11_restore gR 0 x M = some (r, M1) ∧ mf_X12_restore gR 89 x M1 = some (r, M2) ∧ gZ (c + 60) M2 := by
  obtain ⟨h, a, t, sn, n, tl, tb, nu, X, N, I, T, e12, Zo⟩ := id Z
  obtain ⟨K, C, O, A, D, TI, J0, J1⟩ := id Zo
  obtain ⟨r, M1, M2, h', a', t', n', nu', e1, e2, hf, X2, N2, I2⟩ := q_restore X N I J0 J1 x
  exact ⟨r, M1, M2, e1, e2, h', a', t', sn, n', tl, tb, nu', X2.mono (by omega), N2, I2, T.fr hf (by decide) (by decide), by rw [hf.1 1 (by decide) (by decide), hf.2.2 10 (by decide)]; exact e12, (Zo.fr hf (by decide) (by decide) (by decide +kernel)).mono (by omega)⟩
theorem z_room {c : Nat} {M : zMem} (Z : gZ c M) (hc : c < 2 ^ 20) : ∃ r M1 M2, mf_X11_room gR 0 M = some (r, M1) ∧ mf_X12_room gR 89 M1 = some (r, M2) ∧ gZ (c + 60) M2 := by
  obtain ⟨h, a, t, sn, n, tl, tb, nu, X, N, I, T, e12, Zo⟩ := id Z
  obtain ⟨K, C, O, A, D, TI, J0, J1⟩ := id Zo
  obtain ⟨r, M1, M2, e1, e2, t1, t2, e12', hh⟩ := q_room X.2.1 T K
  rcases hh with hf | ⟨h', nu', t', X2, N2, s1, s2, ht, hf⟩
  · exact ⟨r, M1, M2, e1, e2, h, a, t, sn, n, 0, tb, nu, (X.fr hf (by decide) (by decide)).mono (by omega), N.fr hf (by decide), I.fr hf (by decide), ⟨by omega, t1, t2, fun j hj => absurd hj (by omega)⟩, e12', (Zo.fr hf (by decide) (by decide) (by decide +kernel)).mono (by omega)⟩
  · exact ⟨r, M1, M2, e1, e2, h', gA0 h', t', sn, 0, 0, tb, nu', X2 (c + 60), N2, Or.inl ⟨s1, ht 112 (by omega)⟩, ⟨by omega, t1, t2, fun j hj => absurd hj (by omega)⟩, e12', (Zo.fr hf (by decide) (by decide) (by decide +kernel)).mono (by omega)⟩
theorem q2_sheet {h a : zN} {t : Nat → Int32} {M Mr : zMem} (W : gW h a t M) (Wr : gW h a t Mr) (x y : Int32) : (mf_X11_sheet gR 0 x y M = some (none, M) ∧ mf_X12_sheet gR 89 x y Mr = some (nI 0, zwI Mr 89 0 (nI 1))) ∨ ∃ v, mf_X11_sheet gR 0 x y M = some (some v, M) ∧ mf_X12_sheet gR 89 x y Mr = some (v, zwI Mr 89 0 (nI 0)) := by
  obtain ⟨hr, hc0, hm, hH, hA⟩ := W
  obtain ⟨z, hc⟩ : ∃ z, M.1 17 = eC a z := ⟨_, hc0⟩
  have hc' : M.1 17 = encC a (gIn a) z := hc
  obtain ⟨q0, q1, q2, q3, q4, q5, qh, ql, qp, qa⟩ := id hr
  obtain ⟨k0, k1, k2, k3, k4, k5, kh, kl, ka, kp⟩ := id hH
  have hm0 : (zwI M 89 0 (nI 0)).1 91 = encM h a t := by rw [zwI_n (by decide)]; exact hm
  have hm0 : (zwI Mr 89 0 (nI 0)).1 91 = encM h a t := by rw [zwI_n (by decide)]; exact Wr.2.2.1
  have e99 : zwI Mr 89 0 (nI 1) = zwI (zwI Mr 89 0 (nI 0)) 89 0 (nI 1) := gw9_9.symm
  unfold mf_X11_sheet mf_X12_sheet
  simp only [zlet_ok, zl_lit]
  rw [e99]
  generalize zwI Mr 89 0 (nI 0) = M1 at hm0
  rw [← grI_id hm0]
  rcases gcase (n := h 2) (by omega) x with ⟨s, hs, rfl⟩ | ho
  · have hs8 : s < 8 := by omega
    rcases gcase (n := 7) (by omega) y with ⟨k, hk, rfl⟩ | ho
    · refine Or.inr ?_
      rcases (show k = 0 ∨ k = 1 ∨ k = 2 ∨ k = 3 ∨ k = 4 ∨ k = 5 ∨ k = 6 by omega) with rfl | rfl | rfl | rfl | rfl | rfl | rfl
      · refine ⟨nI (h (48 + s)), ?_, ?_⟩
        · simp (disch := (first | assumption | omega | (refine gRC.row ?_ ?_ <;> first | assumption | omega | (refine gRC.row ?_ ?_ <;> first | assumption | omega)))) only [zlet_ok, zcl_ok, zl_lit, zl_m1, nI_add, zald_nI, nI_ltE, nI_leE, nI_eqE, zm1_lt', zm1_le', zm1_nlt', zm1_nle', zm1_ne, zm1_ne', zm1_add1, gwI, grI_rI, zrI_s, zrI_n, zrI_L, gwL, grL_rL, zrL_s, zrL_n, zrL_I, Nat.zero_add, ↓reduceIte, if_true, if_false, gB_0, gB_1, gB_01, zchk_t, gB_1e, eq_self, gcle, gcnle, gclt, gcnlt, gcne, not_true_eq_false, not_false_eq_true, true_or, or_true, false_or, or_false, true_and, and_true, false_and, and_false, r4_6, r4_7, r4_8, r4_9, r4_10, r0_1, c_hasSheet hr hH hs, qp s hs]
        · simp (disch := omega) only [zlet_ok, zcl_ok, zl_lit, zl_m1, nI_add, zald_nI, nI_ltE, nI_leE, nI_eqE, zm1_lt', zm1_le', zm1_nlt', zm1_nle', zm1_ne, zm1_ne', zm1_add1, gwI, grI_rI, zrI_s, zrI_n, zrI_L, gwL, grL_rL, zrL_s, zrL_n, zrL_I, Nat.zero_add, ↓reduceIte, if_true, if_false, gB_0, gB_1, gB_01, zchk_t, gB_1e, eq_self, gcle, gcnle, gclt, gcnlt, gcne, not_true_eq_false, not_false_eq_true, true_or, or_true, false_or, or_false, true_and, and_true, false_and, and_false, m_isSheet hH hs, r89_14, eM_h]
      · refine ⟨nI (a (8 + s)), ?_, ?_⟩
        · simp (disch := (first | assumption | omega | (refine gRC.row ?_ ?_ <;> first | assumption | omega | (refine gRC.row ?_ ?_ <;> first | assumption | omega)))) only [zlet_ok, zcl_ok, zl_lit, zl_m1, nI_add, zald_nI, nI_ltE, nI_leE, nI_eqE, zm1_lt', zm1_le', zm1_nlt', zm1_nle', zm1_ne, zm1_ne', zm1_add1, gwI, grI_rI, zrI_s, zrI_n, zrI_L, gwL, grL_rL, zrL_s, zrL_n, zrL_I, Nat.zero_add, ↓reduceIte, if_true, if_false, gB_0, gB_1, gB_01, zchk_t, gB_1e, eq_self, gcle, gcnle, gclt, gcnlt, gcne, not_true_eq_false, not_false_eq_true, true_or, or_true, false_or, or_false, true_and, and_true, false_and, and_false, r4_6, r4_7, r4_8, r4_9, r4_10, r0_1, r0_3, c_hasSheet hr hH hs, mf_X3_tellSheet, c_howIs gLab_l hr hc hH hs]
        · simp (disch := omega) only [zlet_ok, zcl_ok, zl_lit, zl_m1, nI_add, zald_nI, nI_ltE, nI_leE, nI_eqE, zm1_lt', zm1_le', zm1_nlt', zm1_nle', zm1_ne, zm1_ne', zm1_add1, gwI, grI_rI, zrI_s, zrI_n, zrI_L, gwL, grL_rL, zrL_s, zrL_n, zrL_I, Nat.zero_add, ↓reduceIte, if_true, if_false, gB_0, gB_1, gB_01, zchk_t, gB_1e, eq_self, gcle, gcnle, gclt, gcnlt, gcne, not_true_eq_false, not_false_eq_true, true_or, or_true, false_or, or_false, true_and, and_true, false_and, and_false, m_isSheet hH hs, r89_14, eM_how]
      · refine ⟨enI (a (16 + s)), ?_, ?_⟩
        · simp (disch := (first | assumption | omega | (refine gRC.row ?_ ?_ <;> first | assumption | omega | (refine gRC.row ?_ ?_ <;> first | assumption | omega)))) only [zlet_ok, zcl_ok, zl_lit, zl_m1, nI_add, zald_nI, nI_ltE, nI_leE, nI_eqE, zm1_lt', zm1_le', zm1_nlt', zm1_nle', zm1_ne, zm1_ne', zm1_add1, gwI, grI_rI, zrI_s, zrI_n, zrI_L, gwL, grL_rL, zrL_s, zrL_n, zrL_I, Nat.zero_add, ↓reduceIte, if_true, if_false, gB_0, gB_1, gB_01, zchk_t, gB_1e, eq_self, gcle, gcnle, gclt, gcnlt, gcne, not_true_eq_false, not_false_eq_true, true_or, or_true, false_or, or_false, true_and, and_true, false_and, and_false, r4_6, r4_7, r4_8, r4_9, r4_10, r0_1, r0_3, c_hasSheet hr hH hs, mf_X3_tellSheet, mf_X3_bathOf, gLab_l.1, gLab_l.2.1, hc', eC_whe]
        · simp (disch := omega) only [zlet_ok, zcl_ok, zl_lit, zl_m1, nI_add, zald_nI, nI_ltE, nI_leE, nI_eqE, zm1_lt', zm1_le', zm1_nlt', zm1_nle', zm1_ne, zm1_ne', zm1_add1, gwI, grI_rI, zrI_s, zrI_n, zrI_L, gwL, grL_rL, zrL_s, zrL_n, zrL_I, Nat.zero_add, ↓reduceIte, if_true, if_false, gB_0, gB_1, gB_01, zchk_t, gB_1e, eq_self, gcle, gcnle, gclt, gcnlt, gcne, not_true_eq_false, not_false_eq_true, true_or, or_true, false_or, or_false, true_and, and_true, false_and, and_false, m_isSheet hH hs, r89_14, eM_in]
      · refine ⟨nI (a (24 + s)), ?_, ?_⟩
        · simp (disch := (first | assumption | omega | (refine gRC.row ?_ ?_ <;> first | assumption | omega | (refine gRC.row ?_ ?_ <;> first | assumption | omega)))) only [zlet_ok, zcl_ok, zl_lit, zl_m1, nI_add, zald_nI, nI_ltE, nI_leE, nI_eqE, zm1_lt', zm1_le', zm1_nlt', zm1_nle', zm1_ne, zm1_ne', zm1_add1, gwI, grI_rI, zrI_s, zrI_n, zrI_L, gwL, grL_rL, zrL_s, zrL_n, zrL_I, Nat.zero_add, ↓reduceIte, if_true, if_false, gB_0, gB_1, gB_01, zchk_t, gB_1e, eq_self, gcle, gcnle, gclt, gcnlt, gcne, not_true_eq_false, not_false_eq_true, true_or, or_true, false_or, or_false, true_and, and_true, false_and, and_false, r4_6, r4_7, r4_8, r4_9, r4_10, r0_1, r0_3, c_hasSheet hr hH hs, mf_X3_tellSheet, mf_X3_leftOf, gLab_l.1, gLab_l.2.1, hc', eC_left]
        · simp (disch := omega) only [zlet_ok, zcl_ok, zl_lit, zl_m1, nI_add, zald_nI, nI_ltE, nI_leE, nI_eqE, zm1_lt', zm1_le', zm1_nlt', zm1_nle', zm1_ne, zm1_ne', zm1_add1, gwI, grI_rI, zrI_s, zrI_n, zrI_L, gwL, grL_rL, zrL_s, zrL_n, zrL_I, Nat.zero_add, ↓reduceIte, if_true, if_false, gB_0, gB_1, gB_01, zchk_t, gB_1e, eq_self, gcle, gcnle, gclt, gcnlt, gcne, not_true_eq_false, not_false_eq_true, true_or, or_true, false_or, or_false, true_and, and_true, false_and, and_false, m_isSheet hH hs, r89_14, eM_left]
      · refine ⟨nI (a (32 + s)), ?_, ?_⟩
        · simp (disch := (first | assumption | omega | (refine gRC.row ?_ ?_ <;> first | assumption | omega | (refine gRC.row ?_ ?_ <;> first | assumption | omega)))) only [zlet_ok, zcl_ok, zl_lit, zl_m1, nI_add, zald_nI, nI_ltE, nI_leE, nI_eqE, zm1_lt', zm1_le', zm1_nlt', zm1_nle', zm1_ne, zm1_ne', zm1_add1, gwI, grI_rI, zrI_s, zrI_n, zrI_L, gwL, grL_rL, zrL_s, zrL_n, zrL_I, Nat.zero_add, ↓reduceIte, if_true, if_false, gB_0, gB_1, gB_01, zchk_t, gB_1e, eq_self, gcle, gcnle, gclt, gcnlt, gcne, not_true_eq_false, not_false_eq_true, true_or, or_true, false_or, or_false, true_and, and_true, false_and, and_false, r4_6, r4_7, r4_8, r4_9, r4_10, r0_1, r0_3, c_hasSheet hr hH hs, mf_X3_tellSheet, gLab_l.1, gLab_l.2.1, hc', eC_here]
        · simp (disch := omega) only [zlet_ok, zcl_ok, zl_lit, zl_m1, nI_add, zald_nI, nI_ltE, nI_leE, nI_eqE, zm1_lt', zm1_le', zm1_nlt', zm1_nle', zm1_ne, zm1_ne', zm1_add1, gwI, grI_rI, zrI_s, zrI_n, zrI_L, gwL, grL_rL, zrL_s, zrL_n, zrL_I, Nat.zero_add, ↓reduceIte, if_true, if_false, gB_0, gB_1, gB_01, zchk_t, gB_1e, eq_self, gcle, gcnle, gclt, gcnlt, gcne, not_true_eq_false, not_false_eq_true, true_or, or_true, false_or, or_false, true_and, and_true, false_and, and_false, m_isSheet hH hs, r89_14, eM_here]
      · refine ⟨nI (a (40 + s)), ?_, ?_⟩
        · simp (disch := (first | assumption | omega | (refine gRC.row ?_ ?_ <;> first | assumption | omega | (refine gRC.row ?_ ?_ <;> first | assumption | omega)))) only [zlet_ok, zcl_ok, zl_lit, zl_m1, nI_add, zald_nI, nI_ltE, nI_leE, nI_eqE, zm1_lt', zm1_le', zm1_nlt', zm1_nle', zm1_ne, zm1_ne', zm1_add1, gwI, grI_rI, zrI_s, zrI_n, zrI_L, gwL, grL_rL, zrL_s, zrL_n, zrL_I, Nat.zero_add, ↓reduceIte, if_true, if_false, gB_0, gB_1, gB_01, zchk_t, gB_1e, eq_self, gcle, gcnle, gclt, gcnlt, gcne, not_true_eq_false, not_false_eq_true, true_or, or_true, false_or, or_false, true_and, and_true, false_and, and_false, r4_6, r4_7, r4_8, r4_9, r4_10, r0_1, r0_3, c_hasSheet hr hH hs, mf_X3_tellSheet, mf_X3_overOf, gLab_l.1, gLab_l.2.1, hc', eC_over]
        · simp (disch := omega) only [zlet_ok, zcl_ok, zl_lit, zl_m1, nI_add, zald_nI, nI_ltE, nI_leE, nI_eqE, zm1_lt', zm1_le', zm1_nlt', zm1_nle', zm1_ne, zm1_ne', zm1_add1, gwI, grI_rI, zrI_s, zrI_n, zrI_L, gwL, grL_rL, zrL_s, zrL_n, zrL_I, Nat.zero_add, ↓reduceIte, if_true, if_false, gB_0, gB_1, gB_01, zchk_t, gB_1e, eq_self, gcle, gcnle, gclt, gcnlt, gcne, not_true_eq_false, not_false_eq_true, true_or, or_true, false_or, or_false, true_and, and_true, false_and, and_false, m_isSheet hH hs, r89_14, eM_over]
      · refine ⟨nI (a (48 + s)), ?_, ?_⟩
        · simp (disch := (first | assumption | omega | (refine gRC.row ?_ ?_ <;> first | assumption | omega | (refine gRC.row ?_ ?_ <;> first | assumption | omega)))) only [zlet_ok, zcl_ok, zl_lit, zl_m1, nI_add, zald_nI, nI_ltE, nI_leE, nI_eqE, zm1_lt', zm1_le', zm1_nlt', zm1_nle', zm1_ne, zm1_ne', zm1_add1, gwI, grI_rI, zrI_s, zrI_n, zrI_L, gwL, grL_rL, zrL_s, zrL_n, zrL_I, Nat.zero_add, ↓reduceIte, if_true, if_false, gB_0, gB_1, gB_01, zchk_t, gB_1e, eq_self, gcle, gcnle, gclt, gcnlt, gcne, not_true_eq_false, not_false_eq_true, true_or, or_true, false_or, or_false, true_and, and_true, false_and, and_false, r4_6, r4_7, r4_8, r4_9, r4_10, r0_1, r0_3, c_hasSheet hr hH hs, mf_X3_tellSheet, mf_X3_triesOf, gLab_l.1, gLab_l.2.1, hc', eC_tries]
        · simp (disch := omega) only [zlet_ok, zcl_ok, zl_lit, zl_m1, nI_add, zald_nI, nI_ltE, nI_leE, nI_eqE, zm1_lt', zm1_le', zm1_nlt', zm1_nle', zm1_ne, zm1_ne', zm1_add1, gwI, grI_rI, zrI_s, zrI_n, zrI_L, gwL, grL_rL, zrL_s, zrL_n, zrL_I, Nat.zero_add, ↓reduceIte, if_true, if_false, gB_0, gB_1, gB_01, zchk_t, gB_1e, eq_self, gcle, gcnle, gclt, gcnlt, gcne, not_true_eq_false, not_false_eq_true, true_or, or_true, false_or, or_false, true_and, and_true, false_and, and_false, m_isSheet hH hs, r89_14, eM_tries]
    · refine Or.inl ⟨?_, ?_⟩
      · rcases gOut_cls (n := 6) (by omega) ho with e | ⟨e1, e2⟩
        · simp (disch := (first | assumption | omega | (refine gRC.row ?_ ?_ <;> first | assumption | omega | (refine gRC.row ?_ ?_ <;> first | assumption | omega)))) only [zlet_ok, zcl_ok, zl_lit, zl_m1, nI_add, zald_nI, nI_ltE, nI_leE, nI_eqE, zm1_lt', zm1_le', zm1_nlt', zm1_nle', zm1_ne, zm1_ne', zm1_add1, gwI, grI_rI, zrI_s, zrI_n, zrI_L, gwL, grL_rL, zrL_s, zrL_n, zrL_I, Nat.zero_add, ↓reduceIte, if_true, if_false, gB_0, gB_1, gB_01, zchk_t, gB_1e, eq_self, gcle, gcnle, gclt, gcnlt, gcne, not_true_eq_false, not_false_eq_true, true_or, or_true, false_or, or_false, true_and, and_true, false_and, and_false, r4_6, r4_7, r4_8, r4_9, r4_10, r0_1, c_hasSheet hr hH hs, e]
        · simp (disch := (first | assumption | omega | (refine gRC.row ?_ ?_ <;> first | assumption | omega | (refine gRC.row ?_ ?_ <;> first | assumption | omega)))) only [zlet_ok, zcl_ok, zl_lit, zl_m1, nI_add, zald_nI, nI_ltE, nI_leE, nI_eqE, zm1_lt', zm1_le', zm1_nlt', zm1_nle', zm1_ne, zm1_ne', zm1_add1, gwI, grI_rI, zrI_s, zrI_n, zrI_L, gwL, grL_rL, zrL_s, zrL_n, zrL_I, Nat.zero_add, ↓reduceIte, if_true, if_false, gB_0, gB_1, gB_01, zchk_t, gB_1e, eq_self, gcle, gcnle, gclt, gcnlt, gcne, not_true_eq_false, not_false_eq_true, true_or, or_true, false_or, or_false, true_and, and_true, false_and, and_false, r4_6, r4_7, r4_8, r4_9, r4_10, r0_1, c_hasSheet hr hH hs, e1, e2]
      · simp (disch := omega) only [zlet_ok, zcl_ok, zl_lit, zl_m1, nI_add, zald_nI, nI_ltE, nI_leE, nI_eqE, zm1_lt', zm1_le', zm1_nlt', zm1_nle', zm1_ne, zm1_ne', zm1_add1, gwI, grI_rI, zrI_s, zrI_n, zrI_L, gwL, grL_rL, zrL_s, zrL_n, zrL_I, Nat.zero_add, ↓reduceIte, if_true, if_false, gB_0, gB_1, gB_01, zchk_t, gB_1e, eq_self, gcle, gcnle, gclt, gcnlt, gcne, not_true_eq_false, not_false_eq_true, true_or, or_true, false_or, or_false, true_and, and_true, false_and, and_false, m_isSheet hH hs, gOut.ne (by omega) ho (show 0 < 7 by omega), gOut.ne (by omega) ho (show 1 < 7 by omega), gOut.ne (by omega) ho (show 2 < 7 by omega), gOut.ne (by omega) ho (show 3 < 7 by omega), gOut.ne (by omega) ho (show 4 < 7 by omega), gOut.ne (by omega) ho (show 5 < 7 by omega), gOut.ne (by omega) ho (show 6 < 7 by omega), mf_X12_refuse]
  · refine Or.inl ⟨?_, ?_⟩
    · simp (disch := (first | assumption | omega | (refine gRC.row ?_ ?_ <;> first | assumption | omega | (refine gRC.row ?_ ?_ <;> first | assumption | omega)))) only [zlet_ok, zcl_ok, zl_lit, zl_m1, nI_add, zald_nI, nI_ltE, nI_leE, nI_eqE, zm1_lt', zm1_le', zm1_nlt', zm1_nle', zm1_ne, zm1_ne', zm1_add1, gwI, grI_rI, zrI_s, zrI_n, zrI_L, gwL, grL_rL, zrL_s, zrL_n, zrL_I, Nat.zero_add, ↓reduceIte, if_true, if_false, gB_0, gB_1, gB_01, zchk_t, gB_1e, eq_self, gcle, gcnle, gclt, gcnlt, gcne, not_true_eq_false, not_false_eq_true, true_or, or_true, false_or, or_false, true_and, and_true, false_and, and_false, r4_6, r4_7, r4_8, r4_9, r4_10, r0_1, c_hasSheet_n hr ho]
    · simp (disch := omega) only [zlet_ok, zcl_ok, zl_lit, zl_m1, nI_add, zald_nI, nI_ltE, nI_leE, nI_eqE, zm1_lt', zm1_le', zm1_nlt', zm1_nle', zm1_ne, zm1_ne', zm1_add1, gwI, grI_rI, zrI_s, zrI_n, zrI_L, gwL, grL_rL, zrL_s, zrL_n, zrL_I, Nat.zero_add, ↓reduceIte, if_true, if_false, gB_0, gB_1, gB_01, zchk_t, gB_1e, eq_self, gcle, gcnle, gclt, gcnlt, gcne, not_true_eq_false, not_false_eq_true, true_or, or_true, false_or, or_false, true_and, and_true, false_and, and_false, m_isSheet_n hH ho, mf_X12_refuse]
theorem q2_wear {h a : zN} {t : Nat → Int32} {M Mr : zMem} (W : gW h a t M) (Wr : gW h a t Mr) (x y : Int32) : (mf_X11_wear gR 0 x y M = some (none, M) ∧ mf_X12_wear gR 89 x y Mr = some (nI 0, zwI Mr 89 0 (nI 1))) ∨ ∃ v, mf_X11_wear gR 0 x y M = some (some v, M) ∧ mf_X12_wear gR 89 x y Mr = some (v, zwI Mr 89 0 (nI 0)) := by
  obtain ⟨hr, hc0, hm, hH, hA⟩ := W
  obtain ⟨z, hc⟩ : ∃ z, M.1 17 = eC a z := ⟨_, hc0⟩
  have hc' : M.1 17 = encC a (gIn a) z := hc
  obtain ⟨q0, q1, q2, q3, q4, q5, qh, ql, qp, qa⟩ := id hr
  obtain ⟨k0, k1, k2, k3, k4, k5, kh, kl, ka, kp⟩ := id hH
  have hm0 : (zwI M 89 0 (nI 0)).1 91 = encM h a t := by rw [zwI_n (by decide)]; exact hm
  have hm0 : (zwI Mr 89 0 (nI 0)).1 91 = encM h a t := by rw [zwI_n (by decide)]; exact Wr.2.2.1
  have e99 : zwI Mr 89 0 (nI 1) = zwI (zwI Mr 89 0 (nI 0)) 89 0 (nI 1) := gw9_9.symm
  unfold mf_X11_wear mf_X12_wear
  simp only [zlet_ok, zl_lit]
  rw [e99]
  generalize zwI Mr 89 0 (nI 0) = M1 at hm0
  rw [← grI_id hm0]
  rcases gcase (n := h 0) (by omega) x with ⟨b, hb, rfl⟩ | ho
  · have l3 := hA.2.1 b hb
    have l4 := kl b hb
    rcases gcase (n := 2) (by omega) y with ⟨k, hk, rfl⟩ | ho
    · have hy : mf_X12_isIn gR (nI k) (nI 0) (nI 1) (zrowI M1 91 (encM h a t)) = some (nI 1, zrowI M1 91 (encM h a t)) := m_isIn (n := 2) hk (by decide)
      refine Or.inr ⟨nI (gPart (a (2 + b)) (h (12 + b)) k), ?_, ?_⟩
      · simp (disch := (first | assumption | omega | (refine gRC.row ?_ ?_ <;> first | assumption | omega | (refine gRC.row ?_ ?_ <;> first | assumption | omega)))) only [zlet_ok, zcl_ok, zl_lit, zl_m1, nI_add, zald_nI, nI_ltE, nI_leE, nI_eqE, zm1_lt', zm1_le', zm1_nlt', zm1_nle', zm1_ne, zm1_ne', zm1_add1, gwI, grI_rI, zrI_s, zrI_n, zrI_L, gwL, grL_rL, zrL_s, zrL_n, zrL_I, Nat.zero_add, ↓reduceIte, if_true, if_false, gB_0, gB_1, gB_01, zchk_t, gB_1e, eq_self, gcle, gcnle, gclt, gcnlt, gcne, not_true_eq_false, not_false_eq_true, true_or, or_true, false_or, or_false, true_and, and_true, false_and, and_false, r4_6, r4_7, r4_8, r4_9, r4_10, r0_1, r0_3, c_hasBath hr hH hb, mf_X3_hadBy, gLab_l.1, gLab_l.2.1, hc', eC_had, ql b hb, c_part]
      · simp (disch := omega) only [zlet_ok, zcl_ok, zl_lit, zl_m1, nI_add, zald_nI, nI_ltE, nI_leE, nI_eqE, zm1_lt', zm1_le', zm1_nlt', zm1_nle', zm1_ne, zm1_ne', zm1_add1, gwI, grI_rI, zrI_s, zrI_n, zrI_L, gwL, grL_rL, zrL_s, zrL_n, zrL_I, Nat.zero_add, ↓reduceIte, if_true, if_false, gB_0, gB_1, gB_01, zchk_t, gB_1e, eq_self, gcle, gcnle, gclt, gcnlt, gcne, not_true_eq_false, not_false_eq_true, true_or, or_true, false_or, or_false, true_and, and_true, false_and, and_false, m_isBath hH hb, hy, r89_14, eM_had, eM_h, m_part]
    · have hy : mf_X12_isIn gR y (nI 0) (nI 1) (zrowI M1 91 (encM h a t)) = some (nI 0, zrowI M1 91 (encM h a t)) := m_isIn_n (n := 2) (by decide) ho
      refine Or.inl ⟨?_, ?_⟩
      · rcases gOut_cls (n := 1) (by omega) ho with e | ⟨e1, e2⟩
        · simp (disch := (first | assumption | omega | (refine gRC.row ?_ ?_ <;> first | assumption | omega | (refine gRC.row ?_ ?_ <;> first | assumption | omega)))) only [zlet_ok, zcl_ok, zl_lit, zl_m1, nI_add, zald_nI, nI_ltE, nI_leE, nI_eqE, zm1_lt', zm1_le', zm1_nlt', zm1_nle', zm1_ne, zm1_ne', zm1_add1, gwI, grI_rI, zrI_s, zrI_n, zrI_L, gwL, grL_rL, zrL_s, zrL_n, zrL_I, Nat.zero_add, ↓reduceIte, if_true, if_false, gB_0, gB_1, gB_01, zchk_t, gB_1e, eq_self, gcle, gcnle, gclt, gcnlt, gcne, not_true_eq_false, not_false_eq_true, true_or, or_true, false_or, or_false, true_and, and_true, false_and, and_false, r4_6, r4_7, r4_8, r4_9, r4_10, r0_1, c_hasBath hr hH hb, e]
        · simp (disch := (first | assumption | omega | (refine gRC.row ?_ ?_ <;> first | assumption | omega | (refine gRC.row ?_ ?_ <;> first | assumption | omega)))) only [zlet_ok, zcl_ok, zl_lit, zl_m1, nI_add, zald_nI, nI_ltE, nI_leE, nI_eqE, zm1_lt', zm1_le', zm1_nlt', zm1_nle', zm1_ne, zm1_ne', zm1_add1, gwI, grI_rI, zrI_s, zrI_n, zrI_L, gwL, grL_rL, zrL_s, zrL_n, zrL_I, Nat.zero_add, ↓reduceIte, if_true, if_false, gB_0, gB_1, gB_01, zchk_t, gB_1e, eq_self, gcle, gcnle, gclt, gcnlt, gcne, not_true_eq_false, not_false_eq_true, true_or, or_true, false_or, or_false, true_and, and_true, false_and, and_false, r4_6, r4_7, r4_8, r4_9, r4_10, r0_1, c_hasBath hr hH hb, e1, e2]
      · simp (disch := omega) only [zlet_ok, zcl_ok, zl_lit, zl_m1, nI_add, zald_nI, nI_ltE, nI_leE, nI_eqE, zm1_lt', zm1_le', zm1_nlt', zm1_nle', zm1_ne, zm1_ne', zm1_add1, gwI, grI_rI, zrI_s, zrI_n, zrI_L, gwL, grL_rL, zrL_s, zrL_n, zrL_I, Nat.zero_add, ↓reduceIte, if_true, if_false, gB_0, gB_1, gB_01, zchk_t, gB_1e, eq_self, gcle, gcnle, gclt, gcnlt, gcne, not_true_eq_false, not_false_eq_true, true_or, or_true, false_or, or_false, true_and, and_true, false_and, and_false, m_isBath hH hb, hy, mf_X12_wear_b22, mf_X12_refuse]
  · refine Or.inl ⟨?_, ?_⟩
    · simp (disch := (first | assumption | omega | (refine gRC.row ?_ ?_ <;> first | assumption | omega | (refine gRC.row ?_ ?_ <;> first | assumption | omega)))) only [zlet_ok, zcl_ok, zl_lit, zl_m1, nI_add, zald_nI, nI_ltE, nI_leE, nI_eqE, zm1_lt', zm1_le', zm1_nlt', zm1_nle', zm1_ne, zm1_ne', zm1_add1, gwI, grI_rI, zrI_s, zrI_n, zrI_L, gwL, grL_rL, zrL_s, zrL_n, zrL_I, Nat.zero_add, ↓reduceIte, if_true, if_false, gB_0, gB_1, gB_01, zchk_t, gB_1e, eq_self, gcle, gcnle, gclt, gcnlt, gcne, not_true_eq_false, not_false_eq_true, true_or, or_true, false_or, or_false, true_and, and_true, false_and, and_false, r4_6, r4_7, r4_8, r4_9, r4_10, r0_1, c_hasBath_n hr ho]
    · simp (disch := omega) only [zlet_ok, zcl_ok, zl_lit, zl_m1, nI_add, zald_nI, nI_ltE, nI_leE, nI_eqE, zm1_lt', zm1_le', zm1_nlt', zm1_nle', zm1_ne, zm1_ne', zm1_add1, gwI, grI_rI, zrI_s, zrI_n, zrI_L, gwL, grL_rL, zrL_s, zrL_n, zrL_I, Nat.zero_add, ↓reduceIte, if_true, if_false, gB_0, gB_1, gB_01, zchk_t, gB_1e, eq_self, gcle, gcnle, gclt, gcnlt, gcne, not_true_eq_false, not_false_eq_true, true_or, or_true, false_or, or_false, true_and, and_true, false_and, and_false, m_isBath_n hH ho, mf_X12_wear_b22, mf_X12_refuse]
theorem q2_mean {h a : zN} {t : Nat → Int32} {M Mr : zMem} (W : gW h a t M) (Wr : gW h a t Mr) (hv : ∀ s, s < 8 → a (40 + s) ≤ 10000) (y : Int32) : (mf_X11_mean gR 0 y M = some (none, M) ∧ mf_X12_mean gR 89 y Mr = some (nI 0, zwI Mr 89 0 (nI 1))) ∨ ∃ v, mf_X11_mean gR 0 y M = some (some v, M) ∧ mf_X12_mean gR 89 y Mr = some (v, zwI Mr 89 0 (nI 0)) := by
  obtain ⟨hr, hc0, hm, hH, hA⟩ := W
  obtain ⟨z, hc⟩ : ∃ z, M.1 17 = eC a z := ⟨_, hc0⟩
  have hc' : M.1 17 = encC a (gIn a) z := hc
  obtain ⟨q0, q1, q2, q3, q4, q5, qh, ql, qp, qa⟩ := id hr
  obtain ⟨k0, k1, k2, k3, k4, k5, kh, kl, ka, kp⟩ := id hH
  have hm0 : (zwI M 89 0 (nI 0)).1 91 = encM h a t := by rw [zwI_n (by decide)]; exact hm
  have hm0 : (zwI Mr 89 0 (nI 0)).1 91 = encM h a t := by rw [zwI_n (by decide)]; exact Wr.2.2.1
  have e99 : zwI Mr 89 0 (nI 1) = zwI (zwI Mr 89 0 (nI 0)) 89 0 (nI 1) := gw9_9.symm
  have lo : gOv a (h 2) ≤ h 2 * 10000 := gsm_le (fun k hk => hv k (by omega))
  unfold mf_X11_mean mf_X12_mean
  simp only [zlet_ok, zl_lit]
  rw [e99]
  generalize zwI Mr 89 0 (nI 0) = M1 at hm0
  rw [← grI_id hm0]
  by_cases e0 : h 2 = 0
  · refine Or.inl ⟨?_, ?_⟩
    · simp (disch := (first | assumption | omega | (refine gRC.row ?_ ?_ <;> first | assumption | omega | (refine gRC.row ?_ ?_ <;> first | assumption | omega)))) only [zlet_ok, zcl_ok, zl_lit, zl_m1, nI_add, zald_nI, nI_ltE, nI_leE, nI_eqE, zm1_lt', zm1_le', zm1_nlt', zm1_nle', zm1_ne, zm1_ne', zm1_add1, gwI, grI_rI, zrI_s, zrI_n, zrI_L, gwL, grL_rL, zrL_s, zrL_n, zrL_I, Nat.zero_add, ↓reduceIte, if_true, if_false, gB_0, gB_1, gB_01, zchk_t, gB_1e, eq_self, gcle, gcnle, gclt, gcnlt, gcne, not_true_eq_false, not_false_eq_true, true_or, or_true, false_or, or_false, true_and, and_true, false_and, and_false, r4_6, r4_7, r4_8, r4_9, r4_10, r0_1, q2, e0]
    · simp (disch := omega) only [zlet_ok, zcl_ok, zl_lit, zl_m1, nI_add, zald_nI, nI_ltE, nI_leE, nI_eqE, zm1_lt', zm1_le', zm1_nlt', zm1_nle', zm1_ne, zm1_ne', zm1_add1, gwI, grI_rI, zrI_s, zrI_n, zrI_L, gwL, grL_rL, zrL_s, zrL_n, zrL_I, Nat.zero_add, ↓reduceIte, if_true, if_false, gB_0, gB_1, gB_01, zchk_t, gB_1e, eq_self, gcle, gcnle, gclt, gcnlt, gcne, not_true_eq_false, not_false_eq_true, true_or, or_true, false_or, or_false, true_and, and_true, false_and, and_false, r89_14, eM_h, e0, mf_X12_mean_b25, mf_X12_refuse]
  · rcases gcase (n := 2) (by omega) y with ⟨k, hk, rfl⟩ | ho
    · have hy : mf_X12_isIn gR (nI k) (nI 0) (nI 1) (zrowI M1 91 (encM h a t)) = some (nI 1, zrowI M1 91 (encM h a t)) := m_isIn (n := 2) hk (by decide)
      refine Or.inr ⟨nI (gPart (gOv a (h 2)) (h 2) k), ?_, ?_⟩
      · have key : mf_X3_minutesOver gR 16 M = some (nI (gOv a (h 2)), M) := by
          unfold mf_X3_minutesOver
          refine gfor (G := fun f i => mf_X3_minutesOver_l4 gR 16 f (nI (gOv a i)) (nI i) M) (n := h 2) (fun f i hi => ?_) (fun f => ?_) _ (by first | (show _ < 5000; omega) | omega)
          · rw [show gOv a (i + 1) = gOv a i + a (40 + i) from rfl]
            simp (disch := (first | assumption | omega | (refine gRC.row ?_ ?_ <;> first | assumption | omega | (refine gRC.row ?_ ?_ <;> first | assumption | omega)))) only [zlet_ok, zcl_ok, zl_lit, zl_m1, nI_add, zald_nI, nI_ltE, nI_leE, nI_eqE, zm1_lt', zm1_le', zm1_nlt', zm1_nle', zm1_ne, zm1_ne', zm1_add1, gwI, grI_rI, zrI_s, zrI_n, zrI_L, gwL, grL_rL, zrL_s, zrL_n, zrL_I, Nat.zero_add, ↓reduceIte, if_true, if_false, gB_0, gB_1, gB_01, zchk_t, gB_1e, eq_self, gcle, gcnle, gclt, gcnlt, gcne, not_true_eq_false, not_false_eq_true, true_or, or_true, false_or, or_false, true_and, and_true, false_and, and_false, r4_6, r4_7, r4_8, r4_9, r4_10, mf_X3_minutesOver_l4, gLab_l.1, gLab_l.2.1, q2, hc', eC_over]
          · simp (disch := (first | assumption | omega | (refine gRC.row ?_ ?_ <;> first | assumption | omega | (refine gRC.row ?_ ?_ <;> first | assumption | omega)))) only [zlet_ok, zcl_ok, zl_lit, zl_m1, nI_add, zald_nI, nI_ltE, nI_leE, nI_eqE, zm1_lt', zm1_le', zm1_nlt', zm1_nle', zm1_ne, zm1_ne', zm1_add1, gwI, grI_rI, zrI_s, zrI_n, zrI_L, gwL, grL_rL, zrL_s, zrL_n, zrL_I, Nat.zero_add, ↓reduceIte, if_true, if_false, gB_0, gB_1, gB_01, zchk_t, gB_1e, eq_self, gcle, gcnle, gclt, gcnlt, gcne, not_true_eq_false, not_false_eq_true, true_or, or_true, false_or, or_false, true_and, and_true, false_and, and_false, r4_6, r4_7, r4_8, r4_9, r4_10, mf_X3_minutesOver_l4, gLab_l.1, q2]
        simp (disch := (first | assumption | omega | (refine gRC.row ?_ ?_ <;> first | assumption | omega | (refine gRC.row ?_ ?_ <;> first | assumption | omega)))) only [zlet_ok, zcl_ok, zl_lit, zl_m1, nI_add, zald_nI, nI_ltE, nI_leE, nI_eqE, zm1_lt', zm1_le', zm1_nlt', zm1_nle', zm1_ne, zm1_ne', zm1_add1, gwI, grI_rI, zrI_s, zrI_n, zrI_L, gwL, grL_rL, zrL_s, zrL_n, zrL_I, Nat.zero_add, ↓reduceIte, if_true, if_false, gB_0, gB_1, gB_01, zchk_t, gB_1e, eq_self, gcle, gcnle, gclt, gcnlt, gcne, not_true_eq_false, not_false_eq_true, true_or, or_true, false_or, or_false, true_and, and_true, false_and, and_false, r4_6, r4_7, r4_8, r4_9, r4_10, r0_1, r0_3, q2, key, c_part]
      · have key : mf_X12_mean_l35 gR 89 zF (nI k) (nI (h 2)) (nI 0) (nI 0) (zrowI M1 91 (encM h a t)) = some (nI (gPart (gOv a (h 2)) (h 2) k), zrowI M1 91 (encM h a t)) := by
          refine gfor (G := fun f i => mf_X12_mean_l35 gR 89 f (nI k) (nI (h 2)) (nI (gOv a i)) (nI i) (zrowI M1 91 (encM h a t))) (n := h 2) (fun f i hi => ?_) (fun f => ?_) _ (by first | (show _ < 5000; omega) | omega)
          · rw [show gOv a (i + 1) = gOv a i + a (40 + i) from rfl]
            simp (disch := omega) only [zlet_ok, zcl_ok, zl_lit, zl_m1, nI_add, zald_nI, nI_ltE, nI_leE, nI_eqE, zm1_lt', zm1_le', zm1_nlt', zm1_nle', zm1_ne, zm1_ne', zm1_add1, gwI, grI_rI, zrI_s, zrI_n, zrI_L, gwL, grL_rL, zrL_s, zrL_n, zrL_I, Nat.zero_add, ↓reduceIte, if_true, if_false, gB_0, gB_1, gB_01, zchk_t, gB_1e, eq_self, gcle, gcnle, gclt, gcnlt, gcne, not_true_eq_false, not_false_eq_true, true_or, or_true, false_or, or_false, true_and, and_true, false_and, and_false, mf_X12_mean_l35, r89_14, eM_over]
          · simp (disch := omega) only [zlet_ok, zcl_ok, zl_lit, zl_m1, nI_add, zald_nI, nI_ltE, nI_leE, nI_eqE, zm1_lt', zm1_le', zm1_nlt', zm1_nle', zm1_ne, zm1_ne', zm1_add1, gwI, grI_rI, zrI_s, zrI_n, zrI_L, gwL, grL_rL, zrL_s, zrL_n, zrL_I, Nat.zero_add, ↓reduceIte, if_true, if_false, gB_0, gB_1, gB_01, zchk_t, gB_1e, eq_self, gcle, gcnle, gclt, gcnlt, gcne, not_true_eq_false, not_false_eq_true, true_or, or_true, false_or, or_false, true_and, and_true, false_and, and_false, mf_X12_mean_l35, m_part]
        simp (disch := omega) only [zlet_ok, zcl_ok, zl_lit, zl_m1, nI_add, zald_nI, nI_ltE, nI_leE, nI_eqE, zm1_lt', zm1_le', zm1_nlt', zm1_nle', zm1_ne, zm1_ne', zm1_add1, gwI, grI_rI, zrI_s, zrI_n, zrI_L, gwL, grL_rL, zrL_s, zrL_n, zrL_I, Nat.zero_add, ↓reduceIte, if_true, if_false, gB_0, gB_1, gB_01, zchk_t, gB_1e, eq_self, gcle, gcnle, gclt, gcnlt, gcne, not_true_eq_false, not_false_eq_true, true_or, or_true, false_or, or_false, true_and, and_true, false_and, and_false, r89_14, eM_h, e0, hy, key]
    · have hy : mf_X12_isIn gR y (nI 0) (nI 1) (zrowI M1 91 (encM h a t)) = some (nI 0, zrowI M1 91 (encM h a t)) := m_isIn_n (n := 2) (by decide) ho
      refine Or.inl ⟨?_, ?_⟩
      · rcases gOut_cls (n := 1) (by omega) ho with e | ⟨e1, e2⟩
        · simp (disch := (first | assumption | omega | (refine gRC.row ?_ ?_ <;> first | assumption | omega | (refine gRC.row ?_ ?_ <;> first | assumption | omega)))) only [zlet_ok, zcl_ok, zl_lit, zl_m1, nI_add, zald_nI, nI_ltE, nI_leE, nI_eqE, zm1_lt', zm1_le', zm1_nlt', zm1_nle', zm1_ne, zm1_ne', zm1_add1, gwI, grI_rI, zrI_s, zrI_n, zrI_L, gwL, grL_rL, zrL_s, zrL_n, zrL_I, Nat.zero_add, ↓reduceIte, if_true, if_false, gB_0, gB_1, gB_01, zchk_t, gB_1e, eq_self, gcle, gcnle, gclt, gcnlt, gcne, not_true_eq_false, not_false_eq_true, true_or, or_true, false_or, or_false, true_and, and_true, false_and, and_false, r4_6, r4_7, r4_8, r4_9, r4_10, r0_1, q2, e0, e]
        · simp (disch := (first | assumption | omega | (refine gRC.row ?_ ?_ <;> first | assumption | omega | (refine gRC.row ?_ ?_ <;> first | assumption | omega)))) only [zlet_ok, zcl_ok, zl_lit, zl_m1, nI_add, zald_nI, nI_ltE, nI_leE, nI_eqE, zm1_lt', zm1_le', zm1_nlt', zm1_nle', zm1_ne, zm1_ne', zm1_add1, gwI, grI_rI, zrI_s, zrI_n, zrI_L, gwL, grL_rL, zrL_s, zrL_n, zrL_I, Nat.zero_add, ↓reduceIte, if_true, if_false, gB_0, gB_1, gB_01, zchk_t, gB_1e, eq_self, gcle, gcnle, gclt, gcnlt, gcne, not_true_eq_false, not_false_eq_true, true_or, or_true, false_or, or_false, true_and, and_true, false_and, and_false, r4_6, r4_7, r4_8, r4_9, r4_10, r0_1, q2, e0, e1, e2]
      · simp (disch := omega) only [zlet_ok, zcl_ok, zl_lit, zl_m1, nI_add, zald_nI, nI_ltE, nI_leE, nI_eqE, zm1_lt', zm1_le', zm1_nlt', zm1_nle', zm1_ne, zm1_ne', zm1_add1, gwI, grI_rI, zrI_s, zrI_n, zrI_L, gwL, grL_rL, zrL_s, zrL_n, zrL_I, Nat.zero_add, ↓reduceIte, if_true, if_false, gB_0, gB_1, gB_01, zchk_t, gB_1e, eq_self, gcle, gcnle, gclt, gcnlt, gcne, not_true_eq_false, not_false_eq_true, true_or, or_true, false_or, or_false, true_and, and_true, false_and, and_false, r89_14, eM_h, e0, hy, mf_X12_mean_b25, mf_X12_refuse]
theorem z_sheet {c : Nat} {M : zMem} (Z : gZ c M) (hc : c < 2 ^ 20) (x y : Int32) : ∃ r v M1 M2, mf_L_sheet gR 0 x y 114 M = some (r, M1) ∧ mf_X12_sheet gR 89 x y M1 = some (v, M2) ∧ mf_X12_thrown gR 89 M2 = some (r, M2) ∧ (r = nI 0 → M2.2 114 0 = v.toInt64) ∧ gZ (c + 60) M2 := by
  obtain ⟨h, a, t, sn, n, tl, tb, nu, X, N, I, T, e12, Zo⟩ := id Z
  obtain ⟨K, C, O, A, D, TI, J0, J1⟩ := id Zo
  have e0 : ∀ (N1 : zMem) (w : Int32), mf_X12_thrown gR 89 (zwI N1 89 0 w) = some (w, zwI N1 89 0 w) := fun N1 w => by
    unfold mf_X12_thrown
    rw [zwI_s, upd_s]
  have key : ∀ Mr : zMem, gW h a t Mr → (mf_X11_sheet gR 0 x y M = some (none, M) ∧ mf_X12_sheet gR 89 x y Mr = some (nI 0, zwI Mr 89 0 (nI 1))) ∨ ∃ v, mf_X11_sheet gR 0 x y M = some (some v, M) ∧ mf_X12_sheet gR 89 x y Mr = some (v, zwI Mr 89 0 (nI 0)) := fun Mr Wr => q2_sheet X.1 Wr x y
  rcases key M X.1 with ⟨a1, a2⟩ | ⟨v, a1, a2⟩
  · refine ⟨nI 1, nI 0, M, _, ?_, a2, e0 _ _, fun q => absurd q (by decide +kernel), (Z.z0).mono (by omega)⟩
    unfold mf_L_sheet
    rw [a1, zcl_ok]
    try rfl
  · have hf : gF [114] [] M (zwL M 114 0 v.toInt64) := gF.wL gF.r (by decide)
    have Z2 : gZ c (zwL M 114 0 v.toInt64) := gZ.fr hf (by decide) (by decide) (by decide +kernel) (by decide) (by decide) Z
    rcases key (zwL M 114 0 v.toInt64) (gW.fr hf (by decide) X.1) with ⟨b1, b2⟩ | ⟨v2, b1, b2⟩
    · rw [a1] at b1
      exact absurd b1 (by intro q; cases q)
    · rw [a1] at b1
      have ev : v = v2 := by cases b1; rfl
      subst ev
      refine ⟨nI 0, v, zwL M 114 0 v.toInt64, _, ?_, b2, e0 _ _, fun _ => ?_, (Z2.z0).mono (by omega)⟩
      · unfold mf_L_sheet
        rw [a1, zcl_ok]
        simp only [zl_lit, zlet_ok]
        rw [zald_nI (by omega) (by omega)]
      · rw [zwI_L, zwL_s, updL_s]
theorem z_wear {c : Nat} {M : zMem} (Z : gZ c M) (hc : c < 2 ^ 20) (x y : Int32) : ∃ r v M1 M2, mf_L_wear gR 0 x y 114 M = some (r, M1) ∧ mf_X12_wear gR 89 x y M1 = some (v, M2) ∧ mf_X12_thrown gR 89 M2 = some (r, M2) ∧ (r = nI 0 → M2.2 114 0 = v.toInt64) ∧ gZ (c + 60) M2 := by
  obtain ⟨h, a, t, sn, n, tl, tb, nu, X, N, I, T, e12, Zo⟩ := id Z
  obtain ⟨K, C, O, A, D, TI, J0, J1⟩ := id Zo
  have e0 : ∀ (N1 : zMem) (w : Int32), mf_X12_thrown gR 89 (zwI N1 89 0 w) = some (w, zwI N1 89 0 w) := fun N1 w => by
    unfold mf_X12_thrown
    rw [zwI_s, upd_s]
  have key : ∀ Mr : zMem, gW h a t Mr → (mf_X11_wear gR 0 x y M = some (none, M) ∧ mf_X12_wear gR 89 x y Mr = some (nI 0, zwI Mr 89 0 (nI 1))) ∨ ∃ v, mf_X11_wear gR 0 x y M = some (some v, M) ∧ mf_X12_wear gR 89 x y Mr = some (v, zwI Mr 89 0 (nI 0)) := fun Mr Wr => q2_wear X.1 Wr x y
  rcases key M X.1 with ⟨a1, a2⟩ | ⟨v, a1, a2⟩
  · refine ⟨nI 1, nI 0, M, _, ?_, a2, e0 _ _, fun q => absurd q (by decide +kernel), (Z.z0).mono (by omega)⟩
    unfold mf_L_wear
    rw [a1, zcl_ok]
    try rfl
  · have hf : gF [114] [] M (zwL M 114 0 v.toInt64) := gF.wL gF.r (by decide)
    have Z2 : gZ c (zwL M 114 0 v.toInt64) := gZ.fr hf (by decide) (by decide) (by decide +kernel) (by decide) (by decide) Z
    rcases key (zwL M 114 0 v.toInt64) (gW.fr hf (by decide) X.1) with ⟨b1, b2⟩ | ⟨v2, b1, b2⟩
    · rw [a1] at b1
      exact absurd b1 (by intro q; cases q)
    · rw [a1] at b1
      have ev : v = v2 := by cases b1; rfl
      subst ev
      refine ⟨nI 0, v, zwL M 114 0 v.toInt64, _, ?_, b2, e0 _ _, fun _ => ?_, (Z2.z0).mono (by omega)⟩
      · unfold mf_L_wear
        rw [a1, zcl_ok]
        simp only [zl_lit, zlet_ok]
        rw [zald_nI (by omega) (by omega)]
      · rw [zwI_L, zwL_s, updL_s]
theorem z_mean {c : Nat} {M : zMem} (Z : gZ c M) (hc : c < 2 ^ 20) (x : Int32) : ∃ r v M1 M2, mf_L_mean gR 0 x 114 M = some (r, M1) ∧ mf_X12_mean gR 89 x M1 = some (v, M2) ∧ mf_X12_thrown gR 89 M2 = some (r, M2) ∧ (r = nI 0 → M2.2 114 0 = v.toInt64) ∧ gZ (c + 60) M2 := by
  obtain ⟨h, a, t, sn, n, tl, tb, nu, X, N, I, T, e12, Zo⟩ := id Z
  obtain ⟨K, C, O, A, D, TI, J0, J1⟩ := id Zo
  have e0 : ∀ (N1 : zMem) (w : Int32), mf_X12_thrown gR 89 (zwI N1 89 0 w) = some (w, zwI N1 89 0 w) := fun N1 w => by
    unfold mf_X12_thrown
    rw [zwI_s, upd_s]
  have key : ∀ Mr : zMem, gW h a t Mr → (mf_X11_mean gR 0 x M = some (none, M) ∧ mf_X12_mean gR 89 x Mr = some (nI 0, zwI Mr 89 0 (nI 1))) ∨ ∃ v, mf_X11_mean gR 0 x M = some (some v, M) ∧ mf_X12_mean gR 89 x Mr = some (v, zwI Mr 89 0 (nI 0)) := fun Mr Wr => q2_mean X.1 Wr (fun s hs => by have o := X.2.2.2.2.1; have := (o.2 s hs).1; have := o.1; omega) x
  rcases key M X.1 with ⟨a1, a2⟩ | ⟨v, a1, a2⟩
  · refine ⟨nI 1, nI 0, M, _, ?_, a2, e0 _ _, fun q => absurd q (by decide +kernel), (Z.z0).mono (by omega)⟩
    unfold mf_L_mean
    rw [a1, zcl_ok]
    try rfl
  · have hf : gF [114] [] M (zwL M 114 0 v.toInt64) := gF.wL gF.r (by decide)
    have Z2 : gZ c (zwL M 114 0 v.toInt64) := gZ.fr hf (by decide) (by decide) (by decide +kernel) (by decide) (by decide) Z
    rcases key (zwL M 114 0 v.toInt64) (gW.fr hf (by decide) X.1) with ⟨b1, b2⟩ | ⟨v2, b1, b2⟩
    · rw [a1] at b1
      exact absurd b1 (by intro q; cases q)
    · rw [a1] at b1
      have ev : v = v2 := by cases b1; rfl
      subst ev
      refine ⟨nI 0, v, zwL M 114 0 v.toInt64, _, ?_, b2, e0 _ _, fun _ => ?_, (Z2.z0).mono (by omega)⟩
      · unfold mf_L_mean
        rw [a1, zcl_ok]
        simp only [zl_lit, zlet_ok]
        rw [zald_nI (by omega) (by omega)]
      · rw [zwI_L, zwL_s, updL_s]
