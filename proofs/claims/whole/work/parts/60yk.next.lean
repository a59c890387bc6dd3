/-! TOKENS: the class's next -/
theorem gFk.r {ks : List Nat} {f : Nat → Int32} : gFk ks f f := fun _ _ => rfl
theorem gFk.u {ks : List Nat} {f f1 : Nat → Int32} {k : Nat} {v : Int32} (h : gFk ks f f1) (hk : k ∈ ks) : gFk ks f (upd f1 k v) := fun j hj => by
  rw [upd_n (fun e => hj (by rw [e]; exact hk))]
  exact h j hj
theorem gFk.trans {ks : List Nat} {f f1 f2 : Nat → Int32} (h1 : gFk ks f f1) (h2 : gFk ks f1 f2) : gFk ks f f2 := fun k hk => (h2 k hk).trans (h1 k hk)
theorem gFk.mono {ks ks2 : List Nat} {f f1 : Nat → Int32} (h : gFk ks f f1) (hs : ∀ k ∈ ks, k ∈ ks2) : gFk ks2 f f1 := fun k hk => h k (fun q => hk (hs k q))
theorem gTH.fk {tl lim : Nat} {tb : Nat → Nat} {N : zMem} {f f1 : Nat → Int32} {ks : List Nat} (h : gFk ks f f1) (h1 : 1 ∉ ks) (h10 : 10 ∉ ks) (H : gTH tl lim tb N f) : gTH tl lim tb N f1 := ⟨H.l, H.m, H.b, (h 1 h1).trans H.f1, (h 10 h10).trans H.f10, H.k⟩
theorem c_isMark {c : Nat} {M : zMem} (hc : c < 256) : mf_X10_isMark gR (nI c) M = some (gB (gMk c), M) := by
  unfold mf_X10_isMark gMk
  simp only [zl_lit]
  simp (disch := omega) only [nI_eqE]
  by_cases h1 : c = 59
  · rw [if_pos h1, decide_eq_true (by omega)]; rfl
  rw [if_neg h1]
  by_cases h2 : c = 60
  · rw [if_pos h2, decide_eq_true (by omega)]; rfl
  rw [if_neg h2]
  by_cases h3 : c = 61
  · rw [if_pos h3, decide_eq_true (by omega)]; rfl
  rw [if_neg h3]
  by_cases h4 : c = 62
  · rw [if_pos h4, decide_eq_true (by omega)]; rfl
  rw [if_neg h4]
  by_cases h5 : c = 40
  · rw [if_pos h5, decide_eq_true (by omega)]; rfl
  rw [if_neg h5]
  by_cases h6 : c = 41
  · rw [if_pos h6, decide_eq_true (by omega)]; rfl
  rw [if_neg h6, decide_eq_false (by omega)]
  try rfl
theorem c_161n {N : zMem} {F : Nat → Int32} {G : Nat → Int64} (h4 : ¬ F 4 = nI 1) : mf_X10_readRun_b161 gR 1 (gT 1 N F G) = some ((), gT 1 N F G) := by
  unfold mf_X10_readRun_b161
  show mf_X10_readRun_l163 gR 1 (4999 + 1) 0 (gT 1 N F G) = _
  rw [mf_X10_readRun_l163]
  simp only [zl_lit]
  rw [gT_r, if_neg (by rw [nI_leI (by omega) (by omega)]; omega), if_neg h4]
theorem gSq_f {tl p : Nat} {tb : Nat → Nat} (hp : p ≤ tl) : p ≤ gSq tl tb p ∧ gSq tl tb p ≤ tl ∧ (∀ j, p ≤ j → j < gSq tl tb p → gBl (tb j) = true) ∧ (gSq tl tb p < tl → gBl (tb (gSq tl tb p)) = false) := by
  have h1 := gff_le (fun j => !gBl (tb j)) (tl - p) p
  refine ⟨h1.1, by unfold gSq; omega, fun j a b => ?_, fun h => ?_⟩
  · have := gff_n (p := fun j => !gBl (tb j)) j a b
    simp only [Bool.not_eq_false'] at this
    exact this
  · have := gff_p (p := fun j => !gBl (tb j)) (n := tl - p) (k := p) (by unfold gSq at h; omega)
    simp only [Bool.not_eq_true'] at this
    exact this
theorem gE_f {tl q : Nat} {tb : Nat → Nat} (hq : q ≤ tl) : q ≤ gE tl tb q ∧ gE tl tb q ≤ tl ∧ (∀ j, q ≤ j → j < gE tl tb q → gIl (tb j) = true ∨ gId (tb j) = true) ∧ (gE tl tb q < tl → gIl (tb (gE tl tb q)) = false ∧ gId (tb (gE tl tb q)) = false) := by
  have h1 := gff_le (fun j => !(gIl (tb j) || gId (tb j))) (tl - q) q
  refine ⟨h1.1, by unfold gE; omega, fun j a b => ?_, fun h => ?_⟩
  · have := gff_n (p := fun j => !(gIl (tb j) || gId (tb j))) j a b
    simp only [Bool.not_eq_false', Bool.or_eq_true] at this
    exact this
  · have := gff_p (p := fun j => !(gIl (tb j) || gId (tb j))) (n := tl - q) (k := q) (by unfold gE at h; omega)
    simp only [Bool.not_eq_true', Bool.or_eq_false_iff] at this
    exact this
theorem gLet_w {u : List Nat} (h : gLn u = u.length) (h1 : 1 ≤ u.length) (h7 : u.length ≤ 7) : gWd (gLet u) := by
  have ha := gLn_all h
  refine ⟨by rw [show (gLet u).length = u.length from List.length_map _]; exact h1, by rw [show (gLet u).length = u.length from List.length_map _]; exact h7, fun c hc => ?_⟩
  obtain ⟨d, hd, e⟩ := List.mem_map.mp hc
  have : 97 ≤ d ∧ d ≤ 122 := of_decide_eq_true (ha d hd)
  have e2 : d - 96 = c := e
  omega
theorem c_runs {tl lim : Nat} {tb : Nat → Nat} {N : zMem} {F : Nat → Int32} {g : Nat → Int64} {q : Nat} (H : gTH tl lim tb N F) (hq : q < tl) (h9 : F 9 = nI q) (h5 : F 5 = zm1) : ∃ f1 g1, mf_X10_readRun gR 1 (gT 1 N F g) = some ((), gT 1 N f1 g1) ∧ gCt (gKd0 (gUr tl tb q)) (gLet (gUr tl tb q)) (gDec (gUr tl tb q) 0) f1 g1 ∧ f1 9 = nI (gE tl tb q) ∧ gFk [4, 5, 6, 9] F f1 := by
  have hl := H.l
  obtain ⟨e1, e2, e3, e4⟩ := gE_f (tb := tb) (q := q) (tl := tl) (by omega)
  have hu : gUr tl tb q = gU tb q (gE tl tb q - q) := rfl
  have hul : (gUr tl tb q).length = gE tl tb q - q := by rw [hu, gU_l]
  have cr := c_run (g := g) H e2 e4 (gE tl tb q - q) q 5000 (0, 0, nI 0, lN 0) (by omega) (by omega) e3
  rw [← hu] at cr
  obtain ⟨cL, cD⟩ := gRu_L (u := gUr tl tb q) (s := (0, 0, nI 0, lN 0))
  have lle := gLn_le (u := gUr tl tb q)
  have y1 : (gRu (gUr tl tb q) (0, 0, nI 0, lN 0)).1 = gLn (gUr tl tb q) := by rw [cL]; exact Nat.zero_add _
  have y2 : (gRu (gUr tl tb q) (0, 0, nI 0, lN 0)).1 + (gRu (gUr tl tb q) (0, 0, nI 0, lN 0)).2.1 = (gUr tl tb q).length := by rw [cD]; show 0 + 0 + _ = _; omega
  have hd : ∀ c, c ∈ gUr tl tb q → gIl c = true ∨ gId c = true := fun c hc => by
    obtain ⟨j, j1, j2, j3⟩ := gU_mem hc
    rw [j3]
    exact e3 j j1 (by omega)
  have e0 : mf_X10_readRun gR 1 (gT 1 N F g) = mf_X10_readRun_b161 gR 1 (gT 1 N (upd (upd (upd F 6 (gRu (gUr tl tb q) (0, 0, nI 0, lN 0)).2.2.1) 9 (nI (gE tl tb q))) 4 (if (gRu (gUr tl tb q) (0, 0, nI 0, lN 0)).2.1 = 0 ∧ 1 ≤ (gRu (gUr tl tb q) (0, 0, nI 0, lN 0)).1 ∧ (gRu (gUr tl tb q) (0, 0, nI 0, lN 0)).1 ≤ 7 then nI 1 else if (gRu (gUr tl tb q) (0, 0, nI 0, lN 0)).1 = 0 ∧ 1 ≤ (gRu (gUr tl tb q) (0, 0, nI 0, lN 0)).2.1 ∧ (gRu (gUr tl tb q) (0, 0, nI 0, lN 0)).2.1 ≤ 3 then nI 3 else nI 5)) (vp_updL g 7 (gRu (gUr tl tb q) (0, 0, nI 0, lN 0)).2.2.2)) := by
    rw [← c_kind (by omega) (by omega), ← cr]
    unfold mf_X10_readRun
    simp only [zl_lit, zL_lit, zlet_ok]
    rw [gT_wL, gT_w, upd_id (f := upd F 6 (nI 0)) (k := 9) (by rw [upd_n (by decide)]; exact h9)]
    exact rfl
  rw [e0]
  generalize hR : gRu (gUr tl tb q) (0, 0, nI 0, lN 0) = R at *
  have fr : ∀ v, gFk [4, 5, 6, 9] F (upd (upd (upd F 6 R.2.2.1) 9 (nI (gE tl tb q))) 4 v) := fun v => gFk.u (gFk.u (gFk.u gFk.r (by decide)) (by decide)) (by decide)
  have g9 : ∀ v, upd (upd (upd F 6 R.2.2.1) 9 (nI (gE tl tb q))) 4 v 9 = nI (gE tl tb q) := fun v => by rw [upd_n (by decide), upd_s]
  have g5 : ∀ v, upd (upd (upd F 6 R.2.2.1) 9 (nI (gE tl tb q))) 4 v 5 = zm1 := fun v => by rw [upd_n (by decide), upd_n (by decide), upd_n (by decide)]; exact h5
  have g6 : ∀ v, upd (upd (upd F 6 R.2.2.1) 9 (nI (gE tl tb q))) 4 v 6 = R.2.2.1 := fun v => by rw [upd_n (by decide), upd_n (by decide), upd_s]
  unfold gKd0
  by_cases w1 : gLn (gUr tl tb q) = (gUr tl tb q).length ∧ 1 ≤ (gUr tl tb q).length ∧ (gUr tl tb q).length ≤ 7
  · rw [if_pos w1, if_pos (by omega)]
    have hw := gLet_w w1.1 w1.2.1 w1.2.2
    have hg : vp_updL g 7 R.2.2.2 7 = lN (gPk 32 (gLet (gUr tl tb q)) 0) := by
      rw [updL_s, ← hR]
      exact gRu_w (gLn_all w1.1) rfl
    have lk : gKi (gLet (gUr tl tb q)) ≤ 24 := by have := gff_le (fun k => decide (gKw k = gLet (gUr tl tb q))) 24 0; unfold gKi; omega
    refine ⟨_, _, c_keys hw H.k hg upd_s, Or.inr (Or.inl ⟨rfl, hw, hg, ?_⟩), ?_, ?_⟩
    · by_cases e : gKi (gLet (gUr tl tb q)) = 24
      · rw [if_pos e]
        exact Or.inl ⟨e, upd_s, g5 _⟩
      · rw [if_neg e]
        exact Or.inr ⟨by omega, upd_s, by rw [upd_n (by decide), upd_s]⟩
    · by_cases e : gKi (gLet (gUr tl tb q)) = 24
      · rw [if_pos e]; exact g9 _
      · rw [if_neg e, upd_n (by decide), upd_n (by decide)]; exact g9 _
    · by_cases e : gKi (gLet (gUr tl tb q)) = 24
      · rw [if_pos e]; exact fr _
      · rw [if_neg e]; exact gFk.u (gFk.u (fr _) (by decide)) (by decide)
  · rw [if_neg w1, if_neg (by omega)]
    by_cases w2 : gLn (gUr tl tb q) = 0 ∧ 1 ≤ (gUr tl tb q).length ∧ (gUr tl tb q).length ≤ 3
    · rw [if_pos w2, if_pos (by omega)]
      have h0 := gLn_0 w2.1
      have hdg : ∀ c, c ∈ gUr tl tb q → gIl c = false ∧ gId c = true := fun c hc => ⟨h0 c hc, by
        rcases hd c hc with x | x
        · rw [h0 c hc] at x; cases x
        · exact x⟩
      have hn : R.2.2.1 = nI (gDec (gUr tl tb q) 0) := by
        rw [← hR]
        exact gRu_n hdg rfl
      have hb := gDec_lt (u := gUr tl tb q) (a := 0) (fun c hc => (hdg c hc).2)
      have hb2 : 10 ^ (gUr tl tb q).length ≤ 10 ^ 3 := Nat.pow_le_pow_right (by omega) w2.2.2
      have hb3 : 10 ^ 3 = 1000 := by decide
      exact ⟨_, _, c_161n (by rw [upd_s]; decide +kernel), Or.inr (Or.inr (Or.inl ⟨rfl, by omega, upd_s, g5 _, (g6 _).trans hn⟩)), g9 _, fr _⟩
    · rw [if_neg w2, if_neg (by omega)]
      exact ⟨_, _, c_161n (by rw [upd_s]; decide +kernel), Or.inr (Or.inr (Or.inr (Or.inr ⟨rfl, upd_s, g5 _⟩))), g9 _, fr _⟩
theorem c_nextT {tl lim : Nat} {tb : Nat → Nat} {N : zMem} {f : Nat → Int32} {g : Nat → Int64} {p : Nat} (H : gTH tl lim tb N f) (hp : p ≤ tl) (h9 : f 9 = nI p) : ∃ f1 g1, mf_X10_next gR 1 (gT 1 N f g) = some ((), gT 1 N f1 g1) ∧ gCt (gKd tl lim tb (gSq tl tb p)) (gLet (gUr tl tb (gSq tl tb p))) (gKv tl tb (gSq tl tb p)) f1 g1 ∧ f1 8 = nI (gKl tl lim (gSq tl tb p)) ∧ (gKd tl lim tb (gSq tl tb p) ≠ 4 → f1 9 = nI (gKp tl tb (gSq tl tb p))) ∧ gFk [4, 5, 6, 8, 9] f f1 := by
  have hl := H.l
  have hlm := H.m
  obtain ⟨s1, s2, s3, s4⟩ := gSq_f (tb := tb) hp
  have sk := c_skipT (g := g) H s2 s4 (gSq tl tb p - p) p 5000 (by omega) (by omega) s3
  rw [upd_id h9] at sk
  generalize gSq tl tb p = q at *
  have hF : gFk [4, 5, 6, 8, 9] f (upd (upd (upd f 9 (nI q)) 8 (nI q)) 5 zm1) := gFk.u (gFk.u (gFk.u gFk.r (by decide)) (by decide)) (by decide)
  have HF := H.fk hF (by decide) (by decide)
  have F9 : upd (upd (upd f 9 (nI q)) 8 (nI q)) 5 zm1 9 = nI q := by rw [upd_n (by decide), upd_n (by decide), upd_s]
  have F8 : upd (upd (upd f 9 (nI q)) 8 (nI q)) 5 zm1 8 = nI q := by rw [upd_n (by decide), upd_s]
  have F5 : upd (upd (upd f 9 (nI q)) 8 (nI q)) 5 zm1 5 = zm1 := upd_s
  have e0 : mf_X10_next gR 1 (gT 1 N f g) = (if tl ≤ lim then mf_X10_next_b103 gR 1 (gT 1 N (upd (upd (upd f 9 (nI q)) 8 (nI q)) 5 zm1) g) else if q < lim then mf_X10_next_b103 gR 1 (gT 1 N (upd (upd (upd f 9 (nI q)) 8 (nI q)) 5 zm1) g) else some ((), gT 1 N (upd (upd (upd (upd (upd f 9 (nI q)) 8 (nI q)) 5 zm1) 8 (nI lim)) 4 (nI 5)) g)) := by
    unfold mf_X10_next
    refine Eq.trans sk ?_
    unfold mf_X10_next_b52
    simp only [zl_lit, zlet_ok, zl_m1]
    rw [gT_r, upd_s, gT_w, gT_w, gT_r, HF.f1, HF.f10, F9, gT_w, gT_w]
    simp (disch := omega) only [nI_leE, nI_ltE]
  rw [e0]
  generalize hFd : upd (upd (upd f 9 (nI q)) 8 (nI q)) 5 zm1 = F at *
  unfold gKd gKl
  by_cases wl : lim < tl ∧ lim ≤ q
  · rw [if_pos wl, if_pos wl, if_neg (by omega), if_neg (by omega)]
    exact ⟨_, _, rfl, Or.inr (Or.inr (Or.inr (Or.inr ⟨rfl, upd_s, by rw [upd_n (by decide), upd_n (by decide)]; exact F5⟩))), by rw [upd_n (by decide), upd_s], fun h => absurd rfl h, gFk.u (gFk.u hF (by decide)) (by decide)⟩
  · rw [if_neg wl, if_neg wl]
    have e1 : ∀ X Y : Option (Unit × zMem), (if tl ≤ lim then X else if q < lim then X else Y) = X := fun X Y => by
      by_cases a1 : tl ≤ lim
      · rw [if_pos a1]
      · rw [if_neg a1, if_pos (by omega)]
    rw [e1]
    unfold mf_X10_next_b103
    rw [gT_r, F9, HF.f1]
    by_cases wt : tl ≤ q
    · rw [if_pos wt, if_neg (by rw [nI_ltI (by omega) (by omega)]; omega), zlet_ok, gT_w]
      simp only [zl_lit]
      exact ⟨_, _, rfl, Or.inl ⟨rfl, upd_s, by rw [upd_n (by decide)]; exact F5⟩, by rw [upd_n (by decide)]; exact F8, fun _ => by unfold gKp; rw [if_pos wt, upd_n (by decide)]; exact F9, gFk.u hF (by decide)⟩
    · obtain ⟨b1, b2⟩ := H.b q (by omega)
      rw [if_neg wt, if_pos ((nI_ltI (by omega) (by omega)).mpr (by omega)), zald_nI (by omega) (by omega), r1_0, gT_n (by decide), b2, c_isMark b1, zcl_ok]
      by_cases wm : gMk (tb q) = true
      · rw [wm, if_pos rfl]
        simp only [zl_lit, zlet_ok]
        rw [if_neg (by decide +kernel), gT_r, F9, zald_nI (by omega) (by omega), gT_w, gT_w, gT_r, upd_n (by decide), upd_n (by decide), F9, gT_w, nI_add, gT_n (by decide), b2]
        refine ⟨_, _, rfl, Or.inr (Or.inr (Or.inr (Or.inl ⟨rfl, ?_, by rw [upd_n (by decide), upd_s], by rw [upd_n (by decide), upd_n (by decide), upd_n (by decide)]; exact F5, ?_⟩))), by rw [upd_n (by decide), upd_n (by decide), upd_n (by decide)]; exact F8, fun _ => by unfold gKp; rw [if_neg wt, if_pos wm, upd_s], gFk.u (gFk.u (gFk.u hF (by decide)) (by decide)) (by decide)⟩
        · unfold gKv; rw [if_pos wm]; exact wm
        · unfold gKv; rw [if_pos wm, upd_n (by decide), upd_n (by decide), upd_s]
      · have wm2 : gMk (tb q) = false := by
          cases h : gMk (tb q)
          · rfl
          · exact absurd h wm
        obtain ⟨f1, g1, r1, r2, r3, r4⟩ := c_runs (g := g) HF (by omega) F9 F5
        rw [wm2, if_pos (show gB false = 0 from rfl), r1, zcl_ok, if_neg (by decide)]
        refine ⟨f1, g1, rfl, ?_, (r4 8 (by decide)).trans F8, fun _ => ?_, hF.trans (r4.mono (by decide))⟩
        · unfold gKv; rw [if_neg wm]; exact r2
        · unfold gKp; rw [if_neg wt, if_neg wm]; exact r3
