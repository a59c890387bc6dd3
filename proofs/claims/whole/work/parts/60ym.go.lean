/-! TOKENS: the reference's go -/
theorem gMr_m {l : Bool} : ∀ {u : List Nat} {s : Nat × Bool × Int32 × Int64}, (gMr l u s).1 = s.1 + u.length
  | [], _ => rfl
  | c :: u, s => by
    show (gMr l u (gMz l c s)).1 = s.1 + (u.length + 1)
    rw [gMr_m, show (gMz l c s).1 = s.1 + 1 from rfl]
    omega
theorem gMr_g {l : Bool} : ∀ {u : List Nat} {s : Nat × Bool × Int32 × Int64}, (gMr l u s).2.1 = (s.2.1 && u.all (fun c => gIl c == l))
  | [], s => by show s.2.1 = (s.2.1 && true); rw [Bool.and_true]
  | c :: u, s => by
    show (gMr l u (gMz l c s)).2.1 = (s.2.1 && ((gIl c == l) && u.all (fun c => gIl c == l)))
    rw [gMr_g, show (gMz l c s).2.1 = (s.2.1 && (gIl c == l)) from rfl, Bool.and_assoc]
theorem gMr_w {l : Bool} : ∀ {u : List Nat} {s : Nat × Bool × Int32 × Int64} {a : Nat}, (∀ c, c ∈ u → gIl c = true) → s.1 + u.length ≤ 7 → s.2.2.2 = lN a → (gMr l u s).2.2.2 = lN (gPk 27 (gLet u) a)
  | [], s, a, _, _, h => h
  | c :: u, s, a, hu, hl, h => by
    rw [show (c :: u).length = u.length + 1 from rfl] at hl
    have hc := hu c List.mem_cons_self
    have h1 : 97 ≤ c ∧ c ≤ 122 := of_decide_eq_true hc
    refine gMr_w (u := u) (s := gMz l c s) (a := a * 27 + (c - 96)) (fun x hx => hu x (List.mem_cons_of_mem _ hx)) (by show s.1 + 1 + u.length ≤ 7; omega) ?_
    show (if s.1 < 7 then lN 27 * s.2.2.2 + (nI c).toInt64 - lN 96 else s.2.2.2) = _
    rw [if_pos (by omega), h, lN_64 (by omega), lN_mul, lN_add, lN_sub (by omega), show 27 * a + c - 96 = a * 27 + (c - 96) by omega]
theorem gMr_n {l : Bool} : ∀ {u : List Nat} {s : Nat × Bool × Int32 × Int64} {a : Nat}, (∀ c, c ∈ u → gId c = true) → s.1 + u.length ≤ 3 → s.2.2.1 = nI a → (gMr l u s).2.2.1 = nI (gDec u a)
  | [], s, a, _, _, h => h
  | c :: u, s, a, hu, hl, h => by
    rw [show (c :: u).length = u.length + 1 from rfl] at hl
    have hc := hu c List.mem_cons_self
    have h1 : 48 ≤ c ∧ c ≤ 57 := of_decide_eq_true hc
    refine gMr_n (u := u) (s := gMz l c s) (a := a * 10 + (c - 48)) (fun x hx => hu x (List.mem_cons_of_mem _ hx)) (by show s.1 + 1 + u.length ≤ 3; omega) ?_
    show (if s.1 < 3 then nI 10 * s.2.2.1 + nI c - nI 48 else s.2.2.1) = _
    rw [if_pos (by omega), h, nI_mulE, nI_add, nI_subE (by omega), show 10 * a + c - 48 = a * 10 + (c - 48) by omega]
theorem gLn_t : ∀ {u : List Nat}, u.all (fun c => gIl c == true) = decide (gLn u = u.length)
  | [] => rfl
  | c :: u => by
    have ih := gLn_t (u := u)
    have lle := gLn_le (u := u)
    show ((gIl c == true) && u.all (fun c => gIl c == true)) = decide (gLn u + (if gIl c then 1 else 0) = u.length + 1)
    rw [ih]
    cases gIl c
    · rw [if_neg (by decide), decide_eq_false (show ¬ gLn u + 0 = u.length + 1 by omega)]
      try rfl
    · rw [if_pos rfl]
      by_cases w : gLn u = u.length
      · rw [decide_eq_true w, decide_eq_true (show gLn u + 1 = u.length + 1 by omega)]
        try rfl
      · rw [decide_eq_false w, decide_eq_false (show ¬ gLn u + 1 = u.length + 1 by omega)]
        try rfl
theorem gLn_f : ∀ {u : List Nat}, u.all (fun c => gIl c == false) = decide (gLn u = 0)
  | [] => rfl
  | c :: u => by
    have ih := gLn_f (u := u)
    show ((gIl c == false) && u.all (fun c => gIl c == false)) = decide (gLn u + (if gIl c then 1 else 0) = 0)
    rw [ih]
    cases gIl c
    · rw [if_neg (by decide), Nat.add_zero]
      try rfl
    · rw [if_pos rfl, decide_eq_false (show ¬ gLn u + 1 = 0 by omega)]
      try rfl
theorem m_runs {tl lim : Nat} {tb : Nat → Nat} {N : zMem} {F : Nat → Int32} {g : Nat → Int64} {q : Nat} (H : gMH tl lim tb N F) (hq : q < tl) (h5 : F 5 = nI q) (h6 : F 6 = nI q) (ha : gIl (tb q) = true ∨ gId (tb q) = true) : ∃ f1 g1, mf_X12_go_b198 gR 89 (nI (tb q)) (gT 89 N F g) = some ((), gT 89 N f1 g1) ∧ gMt (gKd0 (gUr tl tb q)) (gLet (gUr tl tb q)) (gDec (gUr tl tb q) 0) f1 g1 ∧ f1 5 = nI (gE tl tb q) ∧ gFk [5, 7, 8] F f1 := by
  have hl := H.1
  have hB := H.2.2.1
  obtain ⟨e1, e2, e3, e4⟩ := gE_f (tb := tb) (q := q) (tl := tl) (by omega)
  have hqe : q < gE tl tb q := by
    rcases Nat.lt_or_ge q (gE tl tb q) with w | w
    · exact w
    · have e : gE tl tb q = q := by omega
      rw [e] at e4
      obtain ⟨x, y⟩ := e4 hq
      rcases ha with z | z
      · rw [x] at z; cases z
      · rw [y] at z; cases z
  obtain ⟨n, hn⟩ : ∃ n, gE tl tb q - q = n + 1 := ⟨gE tl tb q - q - 1, by omega⟩
  have hu : gUr tl tb q = gU tb q (gE tl tb q - q) := rfl
  have hu2 : gUr tl tb q = tb q :: gU tb (q + 1) n := by rw [hu, hn]; rfl
  have hul : (gUr tl tb q).length = gE tl tb q - q := by rw [hu, gU_l]
  have hd : ∀ c, c ∈ gUr tl tb q → gIl c = true ∨ gId c = true := fun c hc => by
    obtain ⟨j, j1, j2, j3⟩ := gU_mem hc
    rw [j3]
    exact e3 j j1 (by omega)
  have cr := m_run (g := g) (l := gIl (tb q)) H h6 e2 e4 (gE tl tb q - q) q 5000 (0, true, nI 0, lN 0) (by omega) rfl (by omega) e3
  rw [← hu] at cr
  have y1 : (gMr (gIl (tb q)) (gUr tl tb q) (0, true, nI 0, lN 0)).1 = (gUr tl tb q).length := by rw [gMr_m]; exact Nat.zero_add _
  have y2 : (gMr (gIl (tb q)) (gUr tl tb q) (0, true, nI 0, lN 0)).2.1 = (gUr tl tb q).all (fun c => gIl c == gIl (tb q)) := by rw [gMr_g]; exact Bool.true_and _
  have y3 : gLn (gUr tl tb q) = (gUr tl tb q).length → (gUr tl tb q).length ≤ 7 → (gMr (gIl (tb q)) (gUr tl tb q) (0, true, nI 0, lN 0)).2.2.2 = lN (gPk 27 (gLet (gUr tl tb q)) 0) := fun h1 h2 => gMr_w (gLn_all h1) (by show 0 + _ ≤ 7; omega) rfl
  have y4 : gLn (gUr tl tb q) = 0 → (gUr tl tb q).length ≤ 3 → (gMr (gIl (tb q)) (gUr tl tb q) (0, true, nI 0, lN 0)).2.2.1 = nI (gDec (gUr tl tb q) 0) := fun h1 h2 => gMr_n (fun c hc => by
    rcases hd c hc with x | x
    · rw [gLn_0 h1 c hc] at x; cases x
    · exact x) (by show 0 + _ ≤ 3; omega) rfl
  have e0 : mf_X12_go_b198 gR 89 (nI (tb q)) (gT 89 N F g) = mf_X12_go_l215 gR 89 5000 (gB (gIl (tb q))) (gB true) (gT 89 N (upd (upd F 8 (nI 0)) 5 (nI q)) (vp_updL g 12 (lN 0))) := by
    unfold mf_X12_go_b198
    simp only [zl_lit, zL_lit, zlet_ok]
    rw [m_isLet (hB q hq).1, zcl_ok, gT_wL, gT_w, upd_id (f := upd F 8 (nI 0)) (k := 5) (by rw [upd_n (by decide)]; exact h5)]
    exact rfl
  rw [e0]
  refine ⟨_, _, cr, ?_, by rw [upd_n (by decide), upd_s], gFk.u (gFk.u (gFk.u gFk.r (by decide)) (by decide)) (by decide)⟩
  rw [y1, y2]
  have g8 : ∀ v w : Int32, upd (upd (upd F 8 v) 5 (nI (gE tl tb q))) 7 w 8 = v := fun v w => by rw [upd_n (by decide), upd_n (by decide), upd_s]
  have hc0 : gLn (gUr tl tb q) = gLn (gU tb (q + 1) n) + if gIl (tb q) then 1 else 0 := by rw [hu2]; rfl
  have hl0 : (gUr tl tb q).length = (gU tb (q + 1) n).length + 1 := by rw [hu2]; rfl
  have lle := gLn_le (u := gU tb (q + 1) n)
  unfold gKd0
  by_cases w : gIl (tb q) = true
  · rw [w, if_pos rfl] at hc0
    have y2' : (gUr tl tb q).all (fun c => gIl c == gIl (tb q)) = decide (gLn (gUr tl tb q) = (gUr tl tb q).length) := by rw [w]; exact gLn_t
    rw [y2', w]
    by_cases w1 : gLn (gUr tl tb q) = (gUr tl tb q).length
    · have eg : decide (gLn (gUr tl tb q) = (gUr tl tb q).length) = true := decide_eq_true w1
      rw [eg]
      by_cases w7 : (gUr tl tb q).length ≤ 7
      · rw [if_pos ⟨w1, by omega, w7⟩]
        refine Or.inr (Or.inl ⟨rfl, gLet_w w1 (by omega) w7, ?_, ?_⟩)
        · rw [updL_s, ← y3 w1 w7, w]
        · rw [upd_s]
          exact (if_pos w7)
      · rw [if_neg (fun z => w7 z.2.2), if_neg (by omega)]
        refine Or.inr (Or.inr (Or.inr (Or.inr ⟨rfl, ?_⟩)))
        rw [upd_s]
        exact (if_neg w7)
    · have eg : decide (gLn (gUr tl tb q) = (gUr tl tb q).length) = false := decide_eq_false w1
      rw [eg, if_neg (fun z => w1 z.1), if_neg (by omega)]
      refine Or.inr (Or.inr (Or.inr (Or.inr ⟨rfl, ?_⟩)))
      rw [upd_s]
      exact rfl
  · have wf : gIl (tb q) = false := by
      cases h : gIl (tb q)
      · rfl
      · exact absurd h w
    rw [wf, if_neg (by decide)] at hc0
    have y2' : (gUr tl tb q).all (fun c => gIl c == gIl (tb q)) = decide (gLn (gUr tl tb q) = 0) := by rw [wf]; exact gLn_f
    rw [y2', wf]
    rw [if_neg (show ¬ (gLn (gUr tl tb q) = (gUr tl tb q).length ∧ 1 ≤ (gUr tl tb q).length ∧ (gUr tl tb q).length ≤ 7) by omega)]
    by_cases w1 : gLn (gUr tl tb q) = 0
    · have eg : decide (gLn (gUr tl tb q) = 0) = true := decide_eq_true w1
      rw [eg]
      by_cases w3 : (gUr tl tb q).length ≤ 3
      · rw [if_pos ⟨w1, by omega, w3⟩]
        have hb := gDec_lt (u := gUr tl tb q) (a := 0) (fun c hc => by
          rcases hd c hc with x | x
          · rw [gLn_0 w1 c hc] at x; cases x
          · exact x)
        have hb2 : 10 ^ (gUr tl tb q).length ≤ 10 ^ 3 := Nat.pow_le_pow_right (by omega) w3
        have hb3 : 10 ^ 3 = 1000 := by decide
        refine Or.inr (Or.inr (Or.inl ⟨rfl, by omega, ?_, ?_⟩))
        · rw [upd_s]
          exact (if_pos w3)
        · rw [g8, ← y4 w1 w3, wf]
      · rw [if_neg (fun z => w3 z.2.2)]
        refine Or.inr (Or.inr (Or.inr (Or.inr ⟨rfl, ?_⟩)))
        rw [upd_s]
        exact (if_neg w3)
    · have eg : decide (gLn (gUr tl tb q) = 0) = false := decide_eq_false w1
      rw [eg, if_neg (fun z => w1 z.1)]
      refine Or.inr (Or.inr (Or.inr (Or.inr ⟨rfl, ?_⟩)))
      rw [upd_s]
      exact rfl
theorem m_goT {tl lim : Nat} {tb : Nat → Nat} {N : zMem} {f : Nat → Int32} {g : Nat → Int64} {p : Nat} (H : gMH tl lim tb N f) (hp : p ≤ tl) (h5 : f 5 = nI p) : ∃ f1 g1, mf_X12_go gR 89 (gT 89 N f g) = some ((), gT 89 N f1 g1) ∧ gMt (gKd tl lim tb (gSq tl tb p)) (gLet (gUr tl tb (gSq tl tb p))) (gKv tl tb (gSq tl tb p)) f1 g1 ∧ f1 6 = nI (gKl tl lim (gSq tl tb p)) ∧ (gKd tl lim tb (gSq tl tb p) ≠ 4 → f1 5 = nI (gKp tl tb (gSq tl tb p))) ∧ gFk [5, 6, 7, 8, 9] f f1 := by
  have hl := H.1
  have hlm := H.2.1
  obtain ⟨s1, s2, s3, s4⟩ := gSq_f (tb := tb) hp
  have sk := m_skipT (g := g) H s2 s4 (gSq tl tb p - p) p 5000 (by omega) (by omega) s3
  rw [upd_id h5] at sk
  generalize gSq tl tb p = q at *
  have hF : gFk [5, 6, 7, 8, 9] f (upd (upd f 5 (nI q)) 6 (nI q)) := gFk.u (gFk.u gFk.r (by decide)) (by decide)
  have HF := H.fk hF (by decide) (by decide)
  have F5 : upd (upd f 5 (nI q)) 6 (nI q) 5 = nI q := by rw [upd_n (by decide), upd_s]
  have F6 : upd (upd f 5 (nI q)) 6 (nI q) 6 = nI q := upd_s
  have e0 : mf_X12_go gR 89 (gT 89 N f g) = (if tl ≤ lim then mf_X12_go_b96 gR 89 (gT 89 N (upd (upd f 5 (nI q)) 6 (nI q)) g) else if q < lim then mf_X12_go_b96 gR 89 (gT 89 N (upd (upd f 5 (nI q)) 6 (nI q)) g) else some ((), gT 89 N (upd (upd (upd (upd f 5 (nI q)) 6 (nI q)) 6 (nI lim)) 7 (nI 1)) g)) := by
    unfold mf_X12_go
    refine Eq.trans sk ?_
    unfold mf_X12_go_b52
    simp only [zl_lit, zlet_ok]
    rw [gT_r, upd_s, gT_w, gT_r, HF.2.2.2.1, HF.2.2.2.2, F6, gT_w, gT_w]
    simp (disch := omega) only [nI_leE, nI_ltE]
  rw [e0]
  generalize hFd : upd (upd f 5 (nI q)) 6 (nI q) = F at *
  unfold gKd gKl
  by_cases wl : lim < tl ∧ lim ≤ q
  · rw [if_pos wl, if_pos wl, if_neg (by omega), if_neg (by omega)]
    exact ⟨_, _, rfl, Or.inr (Or.inr (Or.inr (Or.inr ⟨rfl, upd_s⟩))), by rw [upd_n (by decide), upd_s], fun h => absurd rfl h, gFk.u (gFk.u hF (by decide)) (by decide)⟩
  · rw [if_neg wl, if_neg wl]
    have e1 : ∀ X Y : Option (Unit × zMem), (if tl ≤ lim then X else if q < lim then X else Y) = X := fun X Y => by
      by_cases a1 : tl ≤ lim
      · rw [if_pos a1]
      · rw [if_neg a1, if_pos (by omega)]
    rw [e1]
    unfold mf_X12_go_b96
    rw [gT_r, F5, HF.2.2.2.1]
    by_cases wt : tl ≤ q
    · rw [if_pos wt, if_neg (by rw [nI_ltI (by omega) (by omega)]; omega), zlet_ok, gT_w]
      simp only [zl_lit]
      exact ⟨_, _, rfl, Or.inl ⟨rfl, upd_s⟩, by rw [upd_n (by decide)]; exact F6, fun _ => by unfold gKp; rw [if_pos wt, upd_n (by decide)]; exact F5, gFk.u hF (by decide)⟩
    · obtain ⟨b1, b2⟩ := H.2.2.1 q (by omega)
      rw [if_neg wt, if_pos ((nI_ltI (by omega) (by omega)).mpr (by omega)), zald_nI (by omega) (by omega), r89_1, gT_n (by decide), b2]
      simp only [zlet_ok]
      rw [m_isLet b1, zcl_ok, m_isDig b1, zcl_ok]
      simp only [zl_lit]
      by_cases wa : gIl (tb q) = true ∨ gId (tb q) = true
      · have wm : gMk (tb q) = false := by
          refine decide_eq_false (fun z => ?_)
          rcases wa with x | x
          · have : 97 ≤ tb q ∧ tb q ≤ 122 := of_decide_eq_true x
            omega
          · have : 48 ≤ tb q ∧ tb q ≤ 57 := of_decide_eq_true x
            omega
        obtain ⟨f1, g1, r1, r2, r3, r4⟩ := m_runs (g := g) HF (by omega) F5 F6 wa
        have e2 : ∀ X : Option (Unit × zMem), (if gB (gIl (tb q)) = nI 0 then if gB (gId (tb q)) = nI 0 then X else mf_X12_go_b198 gR 89 (nI (tb q)) (gT 89 N F g) else mf_X12_go_b198 gR 89 (nI (tb q)) (gT 89 N F g)) = mf_X12_go_b198 gR 89 (nI (tb q)) (gT 89 N F g) := fun X => by
          rcases wa with x | x
          · rw [x, if_neg gB_t0]
          · rw [x, if_neg gB_t0]
            split <;> rfl
        rw [e2, r1, wm, if_neg (show ¬ false = true by decide)]
        refine ⟨f1, g1, rfl, ?_, (r4 6 (by decide)).trans F6, fun _ => ?_, hF.trans (r4.mono (by decide))⟩
        · unfold gKv; rw [wm, if_neg (show ¬ false = true by decide)]; exact r2
        · unfold gKp; rw [if_neg wt, wm, if_neg (show ¬ false = true by decide)]; exact r3
      · have wl1 : gIl (tb q) = false := by
          cases h : gIl (tb q)
          · rfl
          · exact absurd (Or.inl h) wa
        have wd1 : gId (tb q) = false := by
          cases h : gId (tb q)
          · rfl
          · exact absurd (Or.inr h) wa
        rw [wl1, wd1, if_pos gB_f0, if_pos gB_f0]
        unfold mf_X12_go_b174
        simp only [zl_lit]
        have e179 : ∀ s0 : Int32, mf_X12_go_b179 gR 89 (nI (tb q)) s0 (gT 89 N F g) = some ((), gT 89 N (upd (upd (upd F 7 s0) 9 (nI (tb q))) 5 (nI (q + 1))) g) := fun s0 => by
          unfold mf_X12_go_b179
          simp only [zl_lit, zlet_ok]
          rw [gT_w, gT_w, gT_r, upd_n (by decide), upd_n (by decide), F5, gT_w, nI_add]
        have e3 : ∀ X Y : Option (Unit × zMem), (if nI (tb q) = nI 59 then X else if nI (tb q) = nI 60 then X else if nI (tb q) = nI 61 then X else if nI (tb q) = nI 62 then X else if nI (tb q) = nI 40 then X else if nI (tb q) = nI 41 then X else Y) = if gMk (tb q) then X else Y := fun X Y => by
          simp (disch := omega) only [nI_eqE]
          unfold gMk
          by_cases h1 : tb q = 59
          · rw [if_pos h1, if_pos (decide_eq_true (by omega))]
          rw [if_neg h1]
          by_cases h2 : tb q = 60
          · rw [if_pos h2, if_pos (decide_eq_true (by omega))]
          rw [if_neg h2]
          by_cases h3 : tb q = 61
          · rw [if_pos h3, if_pos (decide_eq_true (by omega))]
          rw [if_neg h3]
          by_cases h4 : tb q = 62
          · rw [if_pos h4, if_pos (decide_eq_true (by omega))]
          rw [if_neg h4]
          by_cases h5 : tb q = 40
          · rw [if_pos h5, if_pos (decide_eq_true (by omega))]
          rw [if_neg h5]
          by_cases h6 : tb q = 41
          · rw [if_pos h6, if_pos (decide_eq_true (by omega))]
          rw [if_neg h6, if_neg (fun z => by have := of_decide_eq_true z; omega)]
        rw [e3, e179, e179]
        have fr : ∀ v, gFk [5, 6, 7, 8, 9] f (upd (upd (upd F 7 v) 9 (nI (tb q))) 5 (nI (q + 1))) := fun v => gFk.u (gFk.u (gFk.u hF (by decide)) (by decide)) (by decide)
        have g6 : ∀ v, upd (upd (upd F 7 v) 9 (nI (tb q))) 5 (nI (q + 1)) 6 = nI q := fun v => by rw [upd_n (by decide), upd_n (by decide), upd_n (by decide)]; exact F6
        have g7 : ∀ v, upd (upd (upd F 7 v) 9 (nI (tb q))) 5 (nI (q + 1)) 7 = v := fun v => by rw [upd_n (by decide), upd_n (by decide), upd_s]
        by_cases wm : gMk (tb q) = true
        · rw [if_pos wm, if_pos wm]
          refine ⟨_, _, rfl, Or.inr (Or.inr (Or.inr (Or.inl ⟨rfl, ?_, g7 _, ?_⟩))), g6 _, fun _ => by unfold gKp; rw [if_neg wt, if_pos wm, upd_s], fr _⟩
          · unfold gKv; rw [if_pos wm]; exact wm
          · unfold gKv; rw [if_pos wm, upd_n (by decide), upd_s]
        · rw [if_neg wm, if_neg wm]
          have hu0 : gKd0 (gUr tl tb q) = 4 := by
            obtain ⟨e1, e2, e3, e4⟩ := gE_f (tb := tb) (q := q) (tl := tl) (by omega)
            have : gE tl tb q = q := by
              rcases Nat.lt_or_ge q (gE tl tb q) with z | z
              · exact absurd (e3 q (Nat.le_refl _) z) wa
              · omega
            have hn : (gUr tl tb q).length = 0 := by
              rw [show gUr tl tb q = gU tb q (gE tl tb q - q) from rfl, gU_l]
              omega
            unfold gKd0
            try rw [if_neg (by omega)]
            try rw [if_neg (by omega)]
          rw [hu0]
          exact ⟨_, _, rfl, Or.inr (Or.inr (Or.inr (Or.inr ⟨rfl, g7 _⟩))), g6 _, fun h => absurd rfl h, fr _⟩
