/-! TOKENS: the class's -/
def gT (o : Nat) (N : zMem) (f : Nat → Int32) (g : Nat → Int64) : zMem := zrowL (zrowI N o f) o g
theorem gT_w {o k : Nat} {N : zMem} {f : Nat → Int32} {g : Nat → Int64} {v : Int32} : zwI (gT o N f g) o k v = gT o N (upd f k v) g := by
  show zrowI (zrowL (zrowI N o f) o g) o (upd ((zrowL (zrowI N o f) o g).1 o) k v) = _
  rw [zrL_I, zrI_s]
  show zrowL (zrowI (zrowI N o f) o (upd f k v)) o g = _
  rw [grI_rI]
  try rfl
theorem gT_wL {o k : Nat} {N : zMem} {f : Nat → Int32} {g : Nat → Int64} {v : Int64} : zwL (gT o N f g) o k v = gT o N f (vp_updL g k v) := by
  show zrowL (zrowL (zrowI N o f) o g) o (vp_updL ((zrowL (zrowI N o f) o g).2 o) k v) = _
  rw [zrL_s, grL_rL]
  try rfl
theorem gT_r {o : Nat} {N : zMem} {f : Nat → Int32} {g : Nat → Int64} : (gT o N f g).1 o = f := by
  show (zrowL (zrowI N o f) o g).1 o = f
  rw [zrL_I, zrI_s]
theorem gT_n {o q : Nat} {N : zMem} {f : Nat → Int32} {g : Nat → Int64} (h : q ≠ o) : (gT o N f g).1 q = N.1 q := by
  show (zrowL (zrowI N o f) o g).1 q = N.1 q
  rw [zrL_I, zrI_n h]
theorem gT_L {o : Nat} {N : zMem} {f : Nat → Int32} {g : Nat → Int64} : (gT o N f g).2 o = g := by
  show (zrowL (zrowI N o f) o g).2 o = g
  rw [zrL_s]
theorem gT_Ln {o q : Nat} {N : zMem} {f : Nat → Int32} {g : Nat → Int64} (h : q ≠ o) : (gT o N f g).2 q = N.2 q := by
  show (zrowL (zrowI N o f) o g).2 q = N.2 q
  rw [zrL_n h]
  try rfl
theorem gT_id {o : Nat} {M : zMem} : gT o M (M.1 o) (M.2 o) = M := by
  show zrowL (zrowI M o (M.1 o)) o (M.2 o) = M
  rw [grI_id rfl]
  obtain ⟨a, b⟩ := M
  show (a, fun q => if q = o then b o else b q) = (a, b)
  congr 1
  funext q
  split
  · rename_i e; rw [e]
  · rfl
theorem upd_u {f : Nat → Int32} {k : Nat} {v w : Int32} : upd (upd f k v) k w = upd f k w := by
  funext j
  unfold upd
  split <;> rfl
theorem upd_c {f : Nat → Int32} {k j : Nat} {v w : Int32} (h : k ≠ j) : upd (upd f k v) j w = upd (upd f j w) k v := by
  funext i
  unfold upd
  by_cases e : i = k
  · rw [if_pos e, if_neg (by omega), if_pos e]
  · rw [if_neg e, if_neg e]
theorem upd_id {f : Nat → Int32} {k : Nat} {v : Int32} (h : f k = v) : upd f k v = f := by
  funext j
  unfold upd
  split
  · rename_i e; rw [e, h]
  · rfl
theorem updL_s {f : Nat → Int64} {k : Nat} {v : Int64} : vp_updL f k v k = v := if_pos rfl
theorem updL_u {f : Nat → Int64} {k : Nat} {v w : Int64} : vp_updL (vp_updL f k v) k w = vp_updL f k w := by
  funext j
  unfold vp_updL
  split <;> rfl
theorem lN_shl {a : Nat} : lN a <<< ((nI 5).toInt64 &&& lN 63) = lN (a * 32) := by
  rw [lN_m63 5 (by omega)]
  apply Int64.toBitVec_inj.1
  rw [Int64.toBitVec_shiftLeft, lN_sm 5 (by omega)]
  apply BitVec.eq_of_toNat_eq
  show (BitVec.ofNat 64 a <<< BitVec.ofNat 64 5).toNat = (BitVec.ofNat 64 (a * 32)).toNat
  rw [BitVec.shiftLeft_eq', BitVec.toNat_shiftLeft, BitVec.toNat_ofNat, BitVec.toNat_ofNat, BitVec.toNat_ofNat, Nat.shiftLeft_eq, show (5 % 2 ^ 64 : Nat) = 5 by decide, show (2 ^ 5 : Nat) = 32 by decide]
  omega
def gBl (c : Nat) : Bool := decide (c = 32 ∨ c = 10)
def gIl (c : Nat) : Bool := decide (97 ≤ c ∧ c ≤ 122)
def gId (c : Nat) : Bool := decide (48 ≤ c ∧ c ≤ 57)
def gMk (c : Nat) : Bool := decide (c = 59 ∨ c = 60 ∨ c = 61 ∨ c = 62 ∨ c = 40 ∨ c = 41)
/-- the bytes of a tape from i on, n of them -/
def gU (tb : Nat → Nat) : Nat → Nat → List Nat
  | _, 0 => []
  | i, n + 1 => tb i :: gU tb (i + 1) n
theorem gU_l {tb : Nat → Nat} : ∀ {n i : Nat}, (gU tb i n).length = n
  | 0, _ => rfl
  | n + 1, i => by show (gU tb (i + 1) n).length + 1 = n + 1; rw [gU_l]
theorem gU_mem {tb : Nat → Nat} : ∀ {n i c : Nat}, c ∈ gU tb i n → ∃ j, i ≤ j ∧ j < i + n ∧ c = tb j
  | 0, _, _, h => by cases h
  | n + 1, i, c, h => by
    rcases List.mem_cons.mp h with e | e
    · exact ⟨i, by omega, by omega, e⟩
    · obtain ⟨j, h1, h2, h3⟩ := gU_mem e
      exact ⟨j, by omega, by omega, h3⟩
/-- how the class reads a run -/
def gRs (c : Nat) (s : Nat × Nat × Int32 × Int64) : Nat × Nat × Int32 × Int64 :=
  if gIl c then (s.1 + 1, s.2.1, s.2.2.1, (s.2.2.2 <<< ((nI 5).toInt64 &&& lN 63)) + (nI c).toInt64 - lN 96) else (s.1, s.2.1 + 1, s.2.2.1 * nI 10 + nI c - nI 48, s.2.2.2)
def gRu : List Nat → Nat × Nat × Int32 × Int64 → Nat × Nat × Int32 × Int64
  | [], s => s
  | c :: u, s => gRu u (gRs c s)
def gTH (tl lim : Nat) (tb : Nat → Nat) (N : zMem) (f : Nat → Int32) : Prop := (tl ≤ 940) ∧ (lim ≤ 1000) ∧ (∀ j, j < tl → tb j < 256 ∧ N.1 2 j = nI (tb j)) ∧ (f 1 = nI tl) ∧ (f 10 = nI lim) ∧ (∀ k, k < 24 → N.2 3 k = lN (gPk 32 (gKw k) 0))
theorem gTH.l {tl lim : Nat} {tb : Nat → Nat} {N : zMem} {f : Nat → Int32} (H : gTH tl lim tb N f) : tl ≤ 940 := H.1
theorem gTH.m {tl lim : Nat} {tb : Nat → Nat} {N : zMem} {f : Nat → Int32} (H : gTH tl lim tb N f) : lim ≤ 1000 := H.2.1
theorem gTH.b {tl lim : Nat} {tb : Nat → Nat} {N : zMem} {f : Nat → Int32} (H : gTH tl lim tb N f) : ∀ j, j < tl → tb j < 256 ∧ N.1 2 j = nI (tb j) := H.2.2.1
theorem gTH.f1 {tl lim : Nat} {tb : Nat → Nat} {N : zMem} {f : Nat → Int32} (H : gTH tl lim tb N f) : f 1 = nI tl := H.2.2.2.1
theorem gTH.f10 {tl lim : Nat} {tb : Nat → Nat} {N : zMem} {f : Nat → Int32} (H : gTH tl lim tb N f) : f 10 = nI lim := H.2.2.2.2.1
theorem gTH.k {tl lim : Nat} {tb : Nat → Nat} {N : zMem} {f : Nat → Int32} (H : gTH tl lim tb N f) : ∀ k, k < 24 → N.2 3 k = lN (gPk 32 (gKw k) 0) := H.2.2.2.2.2
theorem c_skipT {tl lim : Nat} {tb : Nat → Nat} {N : zMem} {f : Nat → Int32} {g : Nat → Int64} (H : gTH tl lim tb N f) {q : Nat} (hq : q ≤ tl) (he : q < tl → gBl (tb q) = false) : ∀ (m p fu : Nat), p + m = q → m < fu → (∀ j, p ≤ j → j < q → gBl (tb j) = true) → mf_X10_next_l0 gR 1 fu (gT 1 N (upd f 9 (nI p)) g) = mf_X10_next_b52 gR 1 (gT 1 N (upd f 9 (nI q)) g)
  | 0, p, fu + 1, hp, _, hb => by
    have hl := H.l
    have : p = q := by omega
    subst this
    rw [mf_X10_next_l0]
    simp only [zl_lit]
    rw [gT_r, upd_s, upd_n (by decide), H.f1, r1_0, gT_n (by decide)]
    by_cases e : p < tl
    · have h1 := he e
      have h2 : ¬ (tb p = 32 ∨ tb p = 10) := of_decide_eq_false h1
      obtain ⟨b1, b2⟩ := H.b p e
      rw [if_neg (by rw [nI_leI (by omega) (by omega)]; omega), zald_nI (by omega) (by omega), b2, if_neg (by rw [nI_eq (by omega) (by omega)]; omega), zald_nI (by omega) (by omega), b2, if_neg (by rw [nI_eq (by omega) (by omega)]; omega)]
    · rw [if_pos (by rw [nI_leI (by omega) (by omega)]; omega)]
  | m + 1, p, fu + 1, hp, hf, hb => by
    have hl := H.l
    have ih := c_skipT (g := g) H hq he m (p + 1) fu (by omega) (by omega) (fun j h1 h2 => hb j (by omega) h2)
    rw [mf_X10_next_l0]
    simp only [zl_lit]
    have h1 := hb p (by omega) (by omega)
    have h2 : tb p = 32 ∨ tb p = 10 := of_decide_eq_true h1
    obtain ⟨b1, b2⟩ := H.b p (by omega)
    have e39 : mf_X10_next_b39 gR 1 (mf_X10_next_l0 gR 1 fu) (gT 1 N (upd f 9 (nI p)) g) = mf_X10_next_b52 gR 1 (gT 1 N (upd f 9 (nI q)) g) := by
      unfold mf_X10_next_b39
      rw [zlet_ok, gT_w, gT_r, upd_s]
      simp only [zl_lit]
      rw [nI_add, upd_u]
      exact ih
    rw [gT_r, upd_s, upd_n (by decide), H.f1, r1_0, gT_n (by decide), if_neg (by rw [nI_leI (by omega) (by omega)]; omega), zald_nI (by omega) (by omega), b2, e39]
    by_cases e : tb p = 32
    · rw [if_pos (by rw [e])]
    · rw [if_neg (by rw [nI_eq (by omega) (by omega)]; exact e), zald_nI (by omega) (by omega), b2, if_pos (by rw [show tb p = 10 by omega])]
theorem c_run {tl lim : Nat} {tb : Nat → Nat} {N : zMem} {f : Nat → Int32} {g : Nat → Int64} (H : gTH tl lim tb N f) {e : Nat} (he : e ≤ tl) (hz : e < tl → gIl (tb e) = false ∧ gId (tb e) = false) : ∀ (m p fu : Nat) (s : Nat × Nat × Int32 × Int64), p + m = e → m < fu → (∀ j, p ≤ j → j < e → gIl (tb j) = true ∨ gId (tb j) = true) → mf_X10_readRun_l14 gR 1 fu (nI s.1) (nI s.2.1) (gT 1 N (upd (upd f 6 s.2.2.1) 9 (nI p)) (vp_updL g 7 s.2.2.2)) = mf_X10_readRun_b114 gR 1 (nI (gRu (gU tb p m) s).1) (nI (gRu (gU tb p m) s).2.1) (gT 1 N (upd (upd f 6 (gRu (gU tb p m) s).2.2.1) 9 (nI e)) (vp_updL g 7 (gRu (gU tb p m) s).2.2.2))
  | 0, p, fu + 1, s, hp, _, hb => by
    have hl := H.l
    have : p = e := by omega
    subst this
    show _ = mf_X10_readRun_b114 gR 1 (nI s.1) (nI s.2.1) (gT 1 N (upd (upd f 6 s.2.2.1) 9 (nI p)) (vp_updL g 7 s.2.2.2))
    rw [mf_X10_readRun_l14]
    simp only [zl_lit, zlet_ok]
    rw [gT_r, upd_s, upd_n (by decide), upd_n (by decide), H.f1, r1_0, gT_n (by decide)]
    by_cases w : p < tl
    · obtain ⟨z1, z2⟩ := hz w
      have z3 : ¬ (97 ≤ tb p ∧ tb p ≤ 122) := of_decide_eq_false z1
      have z4 : ¬ (48 ≤ tb p ∧ tb p ≤ 57) := of_decide_eq_false z2
      obtain ⟨b1, b2⟩ := H.b p w
      rw [if_neg (by rw [nI_leI (by omega) (by omega)]; omega), zald_nI (by omega) (by omega), b2]
      have e70 : ∀ i1 i2 : Int32, mf_X10_readRun_b70 gR 1 (mf_X10_readRun_l14 gR 1 fu) i1 i2 (nI (tb p)) (gT 1 N (upd (upd f 6 s.2.2.1) 9 (nI p)) (vp_updL g 7 s.2.2.2)) = mf_X10_readRun_b114 gR 1 i1 i2 (gT 1 N (upd (upd f 6 s.2.2.1) 9 (nI p)) (vp_updL g 7 s.2.2.2)) := fun i1 i2 => by
        unfold mf_X10_readRun_b70
        simp only [zl_lit]
        by_cases w1 : tb p < 48
        · rw [if_pos ((nI_ltI (by omega) (by omega)).mpr w1)]
        · rw [if_neg (by rw [nI_ltI (by omega) (by omega)]; exact w1), if_pos ((nI_ltI (by omega) (by omega)).mpr (by omega))]
      rw [e70]
      by_cases w1 : tb p < 97
      · rw [if_pos ((nI_ltI (by omega) (by omega)).mpr w1)]
      · rw [if_neg (by rw [nI_ltI (by omega) (by omega)]; exact w1), if_pos ((nI_ltI (by omega) (by omega)).mpr (by omega))]
    · rw [if_pos (by rw [nI_leI (by omega) (by omega)]; omega)]
  | m + 1, p, fu + 1, s, hp, hf, hb => by
    have hl := H.l
    have ih := c_run (g := g) H he hz m (p + 1) fu (gRs (tb p) s) (by omega) (by omega) (fun j h1 h2 => hb j (by omega) h2)
    show _ = mf_X10_readRun_b114 gR 1 (nI (gRu (gU tb (p + 1) m) (gRs (tb p) s)).1) (nI (gRu (gU tb (p + 1) m) (gRs (tb p) s)).2.1) (gT 1 N (upd (upd f 6 (gRu (gU tb (p + 1) m) (gRs (tb p) s)).2.2.1) 9 (nI e)) (vp_updL g 7 (gRu (gU tb (p + 1) m) (gRs (tb p) s)).2.2.2))
    rw [← ih]
    obtain ⟨b1, b2⟩ := H.b p (by omega)
    rw [mf_X10_readRun_l14]
    simp only [zl_lit, zL_lit, zlet_ok]
    rw [gT_r, upd_s, upd_n (by decide), upd_n (by decide), H.f1, r1_0, gT_n (by decide), if_neg (by rw [nI_leI (by omega) (by omega)]; omega), zald_nI (by omega) (by omega), b2]
    by_cases w : gIl (tb p) = true
    · have w1 : 97 ≤ tb p ∧ tb p ≤ 122 := of_decide_eq_true w
      rw [if_neg (by rw [nI_ltI (by omega) (by omega)]; omega), if_neg (by rw [nI_ltI (by omega) (by omega)]; omega)]
      unfold mf_X10_readRun_b101
      simp only [zl_lit, zL_lit, zlet_ok]
      rw [gT_L, gT_wL, gT_w, gT_r, upd_s, updL_s, updL_u, nI_add, nI_add, upd_u]
      unfold gRs
      rw [if_pos w]
    · have w1 : ¬ (97 ≤ tb p ∧ tb p ≤ 122) := fun q => w (decide_eq_true q)
      have w2 : 48 ≤ tb p ∧ tb p ≤ 57 := by
        rcases hb p (by omega) (by omega) with q | q
        · exact absurd q w
        · exact of_decide_eq_true q
      rw [if_pos ((nI_ltI (by omega) (by omega)).mpr (by omega))]
      unfold mf_X10_readRun_b70 mf_X10_readRun_b101
      simp only [zl_lit, zL_lit, zlet_ok]
      rw [if_neg (by rw [nI_ltI (by omega) (by omega)]; omega), if_neg (by rw [nI_ltI (by omega) (by omega)]; omega), gT_w, gT_w, gT_r, gT_r, upd_n (show 6 ≠ 9 by decide), upd_s, upd_n (show 9 ≠ 6 by decide), upd_s, nI_add, nI_add, upd_c (show 9 ≠ 6 by decide), upd_u, upd_u]
      unfold gRs
      rw [if_neg w]
