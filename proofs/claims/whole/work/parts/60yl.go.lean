/-! TOKENS: the reference's go -/
def gMH (tl lim : Nat) (tb : Nat → Nat) (N : zMem) (f : Nat → Int32) : Prop := (tl ≤ 940) ∧ (lim ≤ 1000) ∧ (∀ j, j < tl → tb j < 256 ∧ N.1 90 j = nI (tb j)) ∧ (f 3 = nI tl) ∧ (f 4 = nI lim)
def gMt (ka : Nat) (w : List Nat) (v : Nat) (f : Nat → Int32) (g : Nat → Int64) : Prop := (ka = 0 ∧ f 7 = nI 0) ∨ (ka = 1 ∧ gWd w ∧ g 12 = lN (gPk 27 w 0) ∧ f 7 = nI 2) ∨ (ka = 2 ∧ v ≤ 999 ∧ f 7 = nI 3 ∧ f 8 = nI v) ∨ (ka = 3 ∧ gMk v = true ∧ f 7 = nI 4 ∧ f 9 = nI v) ∨ (ka = 4 ∧ f 7 = nI 1)
theorem gMH.fk {tl lim : Nat} {tb : Nat → Nat} {N : zMem} {f f1 : Nat → Int32} {ks : List Nat} (h : gFk ks f f1) (h3 : 3 ∉ ks) (h4 : 4 ∉ ks) (H : gMH tl lim tb N f) : gMH tl lim tb N f1 := ⟨H.1, H.2.1, H.2.2.1, (h 3 h3).trans H.2.2.2.1, (h 4 h4).trans H.2.2.2.2⟩
theorem m_isLet {c : Nat} {M : zMem} (hc : c < 256) : mf_X12_isLetter gR (nI c) M = some (gB (gIl c), M) := by
  unfold mf_X12_isLetter gIl
  simp only [zl_lit]
  simp (disch := omega) only [nI_ltE]
  by_cases h1 : c < 97
  · rw [if_pos h1, decide_eq_false (by omega)]; rfl
  rw [if_neg h1]
  by_cases h2 : 122 < c
  · rw [if_pos h2, decide_eq_false (by omega)]; rfl
  rw [if_neg h2, decide_eq_true (by omega)]
  try rfl
theorem m_isDig {c : Nat} {M : zMem} (hc : c < 256) : mf_X12_isDigit gR (nI c) M = some (gB (gId c), M) := by
  unfold mf_X12_isDigit gId
  simp only [zl_lit]
  simp (disch := omega) only [nI_ltE]
  by_cases h1 : c < 48
  · rw [if_pos h1, decide_eq_false (by omega)]; rfl
  rw [if_neg h1]
  by_cases h2 : 57 < c
  · rw [if_pos h2, decide_eq_false (by omega)]; rfl
  rw [if_neg h2, decide_eq_true (by omega)]
  try rfl
theorem m_skipT {tl lim : Nat} {tb : Nat → Nat} {N : zMem} {f : Nat → Int32} {g : Nat → Int64} (H : gMH tl lim tb N f) {q : Nat} (hq : q ≤ tl) (he : q < tl → gBl (tb q) = false) : ∀ (m p fu : Nat), p + m = q → m < fu → (∀ j, p ≤ j → j < q → gBl (tb j) = true) → mf_X12_go_l0 gR 89 fu (gT 89 N (upd f 5 (nI p)) g) = mf_X12_go_b52 gR 89 (gT 89 N (upd f 5 (nI q)) g)
  | 0, p, fu + 1, hp, _, hb => by
    obtain ⟨hl, hlm, hB, h3, h4⟩ := H
    have : p = q := by omega
    subst this
    rw [mf_X12_go_l0]
    simp only [zl_lit]
    rw [gT_r, upd_s, upd_n (by decide), h3, r89_1, gT_n (by decide)]
    by_cases e : p < tl
    · have h1 := he e
      have h2 : ¬ (tb p = 32 ∨ tb p = 10) := of_decide_eq_false h1
      obtain ⟨b1, b2⟩ := hB p e
      rw [if_neg (by rw [nI_leI (by omega) (by omega)]; omega), zald_nI (by omega) (by omega), b2, if_neg (by rw [nI_eq (by omega) (by omega)]; omega), zald_nI (by omega) (by omega), b2, if_neg (by rw [nI_eq (by omega) (by omega)]; omega)]
    · rw [if_pos (by rw [nI_leI (by omega) (by omega)]; omega)]
  | m + 1, p, fu + 1, hp, hf, hb => by
    have ih := m_skipT (g := g) H hq he m (p + 1) fu (by omega) (by omega) (fun j h1 h2 => hb j (by omega) h2)
    obtain ⟨hl, hlm, hB, h3, h4⟩ := H
    rw [mf_X12_go_l0]
    simp only [zl_lit]
    have h1 := hb p (by omega) (by omega)
    have h2 : tb p = 32 ∨ tb p = 10 := of_decide_eq_true h1
    obtain ⟨b1, b2⟩ := hB p (by omega)
    have e39 : mf_X12_go_b39 gR 89 (mf_X12_go_l0 gR 89 fu) (gT 89 N (upd f 5 (nI p)) g) = mf_X12_go_b52 gR 89 (gT 89 N (upd f 5 (nI q)) g) := by
      unfold mf_X12_go_b39
      rw [zlet_ok, gT_w, gT_r, upd_s]
      simp only [zl_lit]
      rw [nI_add, upd_u]
      exact ih
    rw [gT_r, upd_s, upd_n (by decide), h3, r89_1, gT_n (by decide), if_neg (by rw [nI_leI (by omega) (by omega)]; omega), zald_nI (by omega) (by omega), b2, e39]
    by_cases e : tb p = 32
    · rw [if_pos (by rw [e])]
    · rw [if_neg (by rw [nI_eq (by omega) (by omega)]; exact e), zald_nI (by omega) (by omega), b2, if_pos (by rw [show tb p = 10 by omega])]
def gMz (l : Bool) (c : Nat) (s : Nat × Bool × Int32 × Int64) : Nat × Bool × Int32 × Int64 := (s.1 + 1, s.2.1 && (gIl c == l), if s.1 < 3 then nI 10 * s.2.2.1 + nI c - nI 48 else s.2.2.1, if s.1 < 7 then lN 27 * s.2.2.2 + (nI c).toInt64 - lN 96 else s.2.2.2)
def gMr (l : Bool) : List Nat → Nat × Bool × Int32 × Int64 → Nat × Bool × Int32 × Int64
  | [], s => s
  | c :: u, s => gMr l u (gMz l c s)
def gMk1 (l good : Bool) (m : Nat) : Int32 := if good = false then nI 1 else if l then (if m ≤ 7 then nI 2 else nI 1) else (if m ≤ 3 then nI 3 else nI 1)
theorem gBeq {a b : Bool} : (gB a = gB b) = (a = b) := by
  cases a <;> cases b <;> simp <;> decide +kernel
theorem gB_t0 : ¬ gB true = nI 0 := by decide +kernel
theorem gB_f0 : gB false = nI 0 := by decide +kernel
theorem m_run {tl lim : Nat} {tb : Nat → Nat} {N : zMem} {f : Nat → Int32} {g : Nat → Int64} {l : Bool} {q : Nat} (H : gMH tl lim tb N f) (h6 : f 6 = nI q) {e : Nat} (he : e ≤ tl) (hz : e < tl → gIl (tb e) = false ∧ gId (tb e) = false) : ∀ (m p fu : Nat) (s : Nat × Bool × Int32 × Int64), p + m = e → p = q + s.1 → m < fu → (∀ j, p ≤ j → j < e → gIl (tb j) = true ∨ gId (tb j) = true) → mf_X12_go_l215 gR 89 fu (gB l) (gB s.2.1) (gT 89 N (upd (upd f 8 s.2.2.1) 5 (nI p)) (vp_updL g 12 s.2.2.2)) = some ((), gT 89 N (upd (upd (upd f 8 (gMr l (gU tb p m) s).2.2.1) 5 (nI e)) 7 (gMk1 l (gMr l (gU tb p m) s).2.1 (gMr l (gU tb p m) s).1)) (vp_updL g 12 (gMr l (gU tb p m) s).2.2.2))
  | 0, p, fu + 1, s, hp, hq, _, hb => by
    obtain ⟨hl, hlm, hB, h3, h4⟩ := H
    have : p = e := by omega
    subst this
    show _ = some ((), gT 89 N (upd (upd (upd f 8 s.2.2.1) 5 (nI p)) 7 (gMk1 l s.2.1 s.1)) (vp_updL g 12 s.2.2.2))
    have et : ∃ c, c < 256 ∧ gIl c = false ∧ gId c = false ∧ mf_X12_tapeAt gR 89 (nI p) (gT 89 N (upd (upd f 8 s.2.2.1) 5 (nI p)) (vp_updL g 12 s.2.2.2)) = some (nI c, gT 89 N (upd (upd f 8 s.2.2.1) 5 (nI p)) (vp_updL g 12 s.2.2.2)) := by
      unfold mf_X12_tapeAt
      simp only [zl_lit]
      rw [gT_r, upd_n (by decide), upd_n (by decide), h3, r89_1, gT_n (by decide)]
      by_cases w : p < tl
      · obtain ⟨z1, z2⟩ := hz w
        obtain ⟨b1, b2⟩ := hB p w
        exact ⟨tb p, b1, z1, z2, by rw [if_neg (by rw [nI_leI (by omega) (by omega)]; omega), zald_nI (by omega) (by omega), b2]⟩
      · exact ⟨0, by omega, rfl, rfl, by rw [if_pos (by rw [nI_leI (by omega) (by omega)]; omega)]⟩
    obtain ⟨c, c1, c2, c3, c4⟩ := et
    rw [mf_X12_go_l215]
    simp only [zl_lit, zlet_ok]
    rw [gT_r, upd_s, c4, zcl_ok, m_isLet c1, zcl_ok, c2, if_pos gB_f0, gT_r, upd_s, c4, zcl_ok, m_isDig c1, zcl_ok, c3, if_pos gB_f0, gT_r, upd_s, upd_n (by decide), upd_n (by decide), h6, nI_subE (by omega), show p - q = s.1 by omega, gT_w]
    unfold mf_X12_go_b374 gMk1
    simp only [zl_lit, zlet_ok]
    rw [gT_w, gT_w, gT_w]
    cases s.2.1
    · rw [if_pos gB_f0, if_pos rfl]
    · rw [if_neg gB_t0, if_neg (show ¬ true = false by decide)]
      cases l
      · rw [if_pos gB_f0, if_neg (show ¬ false = true by decide)]
        by_cases w : s.1 ≤ 3
        · rw [if_pos ((nI_leI (by omega) (by omega)).mpr w), if_pos gB_f0, if_pos w]
        · rw [if_neg (by rw [nI_leI (by omega) (by omega)]; exact w), if_neg w]
      · rw [if_neg gB_t0, if_pos rfl]
        by_cases w : s.1 ≤ 7
        · rw [if_pos ((nI_leI (by omega) (by omega)).mpr w), if_neg gB_t0, if_pos w]
        · rw [if_neg (by rw [nI_leI (by omega) (by omega)]; exact w), if_neg w]
  | m + 1, p, fu + 1, s, hp, hq, hf, hb => by
    have ih := m_run (g := g) (l := l) H h6 he hz m (p + 1) fu (gMz l (tb p) s) (by omega) (by show p + 1 = q + (s.1 + 1); omega) (by omega) (fun j h1 h2 => hb j (by omega) h2)
    obtain ⟨hl, hlm, hB, h3, h4⟩ := H
    show _ = some ((), gT 89 N (upd (upd (upd f 8 (gMr l (gU tb (p + 1) m) (gMz l (tb p) s)).2.2.1) 5 (nI e)) 7 (gMk1 l (gMr l (gU tb (p + 1) m) (gMz l (tb p) s)).2.1 (gMr l (gU tb (p + 1) m) (gMz l (tb p) s)).1)) (vp_updL g 12 (gMr l (gU tb (p + 1) m) (gMz l (tb p) s)).2.2.2))
    rw [← ih]
    obtain ⟨b1, b2⟩ := hB p (by omega)
    have c4 : mf_X12_tapeAt gR 89 (nI p) (gT 89 N (upd (upd f 8 s.2.2.1) 5 (nI p)) (vp_updL g 12 s.2.2.2)) = some (nI (tb p), gT 89 N (upd (upd f 8 s.2.2.1) 5 (nI p)) (vp_updL g 12 s.2.2.2)) := by
      unfold mf_X12_tapeAt
      simp only [zl_lit]
      rw [gT_r, upd_n (by decide), upd_n (by decide), h3, r89_1, gT_n (by decide), if_neg (by rw [nI_leI (by omega) (by omega)]; omega), zald_nI (by omega) (by omega), b2]
    have e243 : mf_X12_go_b243 gR 89 (mf_X12_go_l215 gR 89 fu) (gB l) (gB s.2.1) (gT 89 N (upd (upd f 8 s.2.2.1) 5 (nI p)) (vp_updL g 12 s.2.2.2)) = mf_X12_go_l215 gR 89 fu (gB l) (gB (gMz l (tb p) s).2.1) (gT 89 N (upd (upd f 8 (gMz l (tb p) s).2.2.1) 5 (nI (p + 1))) (vp_updL g 12 (gMz l (tb p) s).2.2.2)) := by
      have e337 : ∀ (i3 : Int32) (v : Int32) (w : Int64), mf_X12_go_b337 gR 89 (mf_X12_go_l215 gR 89 fu) (gB l) i3 (gT 89 N (upd (upd f 8 v) 5 (nI p)) (vp_updL g 12 w)) = mf_X12_go_l215 gR 89 fu (gB l) i3 (gT 89 N (upd (upd f 8 v) 5 (nI (p + 1))) (vp_updL g 12 w)) := fun i3 v w => by
        unfold mf_X12_go_b337
        simp only [zl_lit, zlet_ok]
        rw [gT_w, gT_r, upd_s, nI_add, upd_u]
      have e307 : ∀ (i3 : Int32) (w : Int64), mf_X12_go_b307 gR 89 (mf_X12_go_l215 gR 89 fu) (gB l) i3 (nI (tb p)) (gT 89 N (upd (upd f 8 s.2.2.1) 5 (nI p)) (vp_updL g 12 w)) = mf_X12_go_l215 gR 89 fu (gB l) i3 (gT 89 N (upd (upd f 8 (gMz l (tb p) s).2.2.1) 5 (nI (p + 1))) (vp_updL g 12 w)) := fun i3 w => by
        unfold mf_X12_go_b307
        simp only [zl_lit, zlet_ok]
        rw [gT_r, upd_s, upd_n (by decide), upd_n (by decide), h6, nI_subE (by omega), show p - q = s.1 by omega]
        show _ = mf_X12_go_l215 gR 89 fu (gB l) i3 (gT 89 N (upd (upd f 8 (if s.1 < 3 then nI 10 * s.2.2.1 + nI (tb p) - nI 48 else s.2.2.1)) 5 (nI (p + 1))) (vp_updL g 12 w))
        by_cases w3 : s.1 < 3
        · rw [if_neg (by rw [nI_leI (by omega) (by omega)]; omega), if_pos w3, gT_w, upd_n (by decide), upd_s, upd_c (show 5 ≠ 8 by decide), upd_u, e337]
        · rw [if_pos (by rw [nI_leI (by omega) (by omega)]; omega), if_neg w3, e337]
      have e272 : ∀ i3 : Int32, mf_X12_go_b272 gR 89 (mf_X12_go_l215 gR 89 fu) (gB l) (nI (tb p)) i3 (gT 89 N (upd (upd f 8 s.2.2.1) 5 (nI p)) (vp_updL g 12 s.2.2.2)) = mf_X12_go_l215 gR 89 fu (gB l) i3 (gT 89 N (upd (upd f 8 (gMz l (tb p) s).2.2.1) 5 (nI (p + 1))) (vp_updL g 12 (gMz l (tb p) s).2.2.2)) := fun i3 => by
        unfold mf_X12_go_b272
        simp only [zl_lit, zL_lit, zlet_ok]
        rw [gT_r, upd_s, upd_n (by decide), upd_n (by decide), h6, nI_subE (by omega), show p - q = s.1 by omega]
        show _ = mf_X12_go_l215 gR 89 fu (gB l) i3 (gT 89 N (upd (upd f 8 (gMz l (tb p) s).2.2.1) 5 (nI (p + 1))) (vp_updL g 12 (if s.1 < 7 then lN 27 * s.2.2.2 + (nI (tb p)).toInt64 - lN 96 else s.2.2.2)))
        by_cases w7 : s.1 < 7
        · rw [if_neg (by rw [nI_leI (by omega) (by omega)]; omega), if_pos w7, gT_L, updL_s, gT_wL, updL_u, e307]
        · rw [if_pos (by rw [nI_leI (by omega) (by omega)]; omega), if_neg w7, e307]
      unfold mf_X12_go_b243
      simp only [zl_lit, zlet_ok]
      rw [gT_r, upd_s, zald_nI (by omega) (by omega), r89_1, gT_n (by decide), b2]
      unfold mf_X12_go_b271
      simp only [zl_lit]
      rw [e272, m_isLet b1, zcl_ok, e272, show (gMz l (tb p) s).2.1 = (s.2.1 && (gIl (tb p) == l)) from rfl]
      cases s.2.1
      · rw [if_pos gB_f0]
        try rfl
      · rw [if_neg gB_t0, Bool.true_and]
        by_cases w : gIl (tb p) = l
        · rw [if_pos (by rw [w]), w, beq_self_eq_true]
          try rfl
        · rw [if_neg (by rw [gBeq]; exact w), beq_eq_false_iff_ne.mpr w, e272]
          try rfl
    rw [mf_X12_go_l215]
    simp only [zl_lit, zlet_ok]
    rw [gT_r, upd_s, c4, zcl_ok, m_isLet b1, zcl_ok, gT_r, upd_s, c4, zcl_ok, m_isDig b1, zcl_ok, e243]
    rcases hb p (by omega) (by omega) with w | w
    · rw [w, if_neg gB_t0]
    · rw [w, if_neg gB_t0]
      split <;> rfl
