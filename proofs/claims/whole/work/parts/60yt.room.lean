/-! PARSERS: reading begins; all LINES of a ROOM -/
theorem k_begin {tl lim : Nat} {tb : Nat → Nat} {Mc Mr : zMem} (hl : tl ≤ 940) (hm : lim ≤ 1000) (c1 : Mc.1 1 1 = nI tl) (cb : ∀ j, j < tl → tb j < 256 ∧ Mc.1 2 j = nI (tb j)) (ck : ∀ k, k < 24 → Mc.2 3 k = lN (gPk 32 (gKw k) 0)) (m2 : Mr.1 89 2 = nI tl) (mb : ∀ j, j < tl → Mr.1 90 j = nI (tb j)) : ∃ (k : gTk) (Mc1 Mr1 : zMem), mf_X10_begin gR 1 (nI lim) Mc = some ((), Mc1) ∧ mf_X12_begin gR 89 (nI lim) Mr = some ((), Mr1) ∧ gTS tl lim tb k Mc1 Mr1 ∧ gF [1] [] Mc Mc1 ∧ gF [89] [0, 2, 3, 4, 5, 6, 7, 8, 9, 10] Mr Mr1 ∧ Mr1.1 89 2 = nI 0 := by
  have fc : gF [1] [] Mc (zwI (zwI (zwI (zwI Mc 1 10 (nI lim)) 1 2 (nI 0)) 1 3 (nI 0)) 1 9 (nI 0)) := gF.wI (gF.wI (gF.wI (gF.wI gF.r (by decide) (by decide)) (by decide) (by decide)) (by decide) (by decide)) (by decide) (by decide)
  have fm : gF [89] [0, 2, 3, 4, 5, 6, 7, 8, 9, 10] Mr (zwI (zwI (zwI (zwI (zwI (zwI Mr 89 0 (nI 0)) 89 2 (nI 0)) 89 3 (nI tl)) 89 4 (nI lim)) 89 10 (nI 0)) 89 5 (nI 0)) := gF.w9 (gF.w9 (gF.w9 (gF.w9 (gF.w9 (gF.w9 gF.r (by decide)) (by decide)) (by decide)) (by decide)) (by decide)) (by decide)
  have H : gTH tl lim tb (zwI (zwI (zwI (zwI Mc 1 10 (nI lim)) 1 2 (nI 0)) 1 3 (nI 0)) 1 9 (nI 0)) ((zwI (zwI (zwI (zwI Mc 1 10 (nI lim)) 1 2 (nI 0)) 1 3 (nI 0)) 1 9 (nI 0)).1 1) := by
    refine ⟨hl, hm, fun j hj => ?_, ?_, ?_, fun k hk => ?_⟩
    · rw [fc.1 2 (by decide) (by decide)]; exact cb j hj
    · rw [zwI_s, upd_n (by decide), zwI_s, upd_n (by decide), zwI_s, upd_n (by decide), zwI_s, upd_n (by decide)]; exact c1
    · rw [zwI_s, upd_n (by decide), zwI_s, upd_n (by decide), zwI_s, upd_n (by decide), zwI_s, upd_s]
    · rw [fc.2.1 3 (by decide)]; exact ck k hk
  have G : gMH tl lim tb (zwI (zwI (zwI (zwI (zwI (zwI Mr 89 0 (nI 0)) 89 2 (nI 0)) 89 3 (nI tl)) 89 4 (nI lim)) 89 10 (nI 0)) 89 5 (nI 0)) ((zwI (zwI (zwI (zwI (zwI (zwI Mr 89 0 (nI 0)) 89 2 (nI 0)) 89 3 (nI tl)) 89 4 (nI lim)) 89 10 (nI 0)) 89 5 (nI 0)).1 89) := by
    refine ⟨hl, hm, fun j hj => ?_, ?_, ?_⟩
    · rw [fm.1 90 (by decide) (by decide)]; exact ⟨(cb j hj).1, mb j hj⟩
    · rw [zwI_s, upd_n (by decide), zwI_s, upd_n (by decide), zwI_s, upd_n (by decide), zwI_s, upd_s]
    · rw [zwI_s, upd_n (by decide), zwI_s, upd_n (by decide), zwI_s, upd_s]
  obtain ⟨k, Mc1, Mr1, a1, a2, a3, a4, a5, a6⟩ := k_adv0 (p := 0) (Nat.zero_le _) H (by rw [zwI_s, upd_s]) (by rw [zwI_s, upd_n (by decide), zwI_s, upd_n (by decide), zwI_s, upd_s]) G (by rw [zwI_s, upd_s]) (by rw [zwI_s, upd_n (by decide), zwI_s, upd_s])
  refine ⟨k, Mc1, Mr1, ?_, ?_, a3, fc.trans a5, fm.trans (a6.mono (by decide) (by decide)), ?_⟩
  · unfold mf_X10_begin
    simp only [zl_lit, zlet_ok]
    rw [a1, zcl_ok]
  · have e2 : (zwI Mr 89 0 (nI 0)).1 89 2 = nI tl := by rw [zwI_s, upd_n (by decide)]; exact m2
    unfold mf_X12_begin mf_X12_take
    simp only [zl_lit, zlet_ok]
    rw [e2, zcl_ok, a2, zcl_ok]
  · rw [a6.2.2 2 (by decide), zwI_s, upd_n (by decide), zwI_s, upd_n (by decide), zwI_s, upd_n (by decide), zwI_s, upd_n (by decide), zwI_s, upd_s]
theorem k_line4 {tl lim : Nat} {tb : Nat → Nat} {k : gTk} {Mc Mr : zMem} (S : gTS tl lim tb k Mc Mr) (h4 : k.1 = 4) : ∃ Mc1, mf_X7_readLine gR 10 1 Mc = some (nI 0, Mc1) := by
  obtain ⟨Mc1, Mr1, a1, _⟩ := k_fail (j := 1) S (fun _ => rfl) (by omega) (by omega)
  have e5 : Mc.1 1 5 = zm1 := by
    have h24 : gKy k = 24 := by
      unfold gKy
      rw [if_neg (show ¬ k.1 = 1 by omega)]
    rw [c_key S, h24]
    exact if_pos rfl
  refine ⟨Mc1, ?_⟩
  unfold mf_X7_readLine
  simp only [zl_lit]
  rw [e5]
  simp (disch := omega) only [zm1_ne', if_false]
  rw [a1, zcl_ok, zchk_ok (Or.inl rfl)]
/-- a ROOM read by both: how many LINES, or the FAULT of both -/
def gRd (h0 : Nat) (Mc0 Mr0 : zMem) (rc rm : Option (Int32 × zMem)) : Prop := (∃ (n : Nat) (h : zN) (nu : Nat → List Nat) (oc : Int32) (Mc1 Mr1 : zMem), n ≤ 900 ∧ rc = some (nI n, Mc1) ∧ rm = mf_X12_room_l78 gR 89 zF (nI n) (nI 0) Mr1 ∧ gDC h nu oc Mc1 ∧ gDM h nu oc Mr1 ∧ gH h ∧ Mc1.1 1 2 = nI 0 ∧ Mr1.1 89 10 = nI 0 ∧ gF [1, 10, 11, 12, 13, 14, 15] [] Mc0 Mc1 ∧ gF [89, 92, 99] [5, 6, 7, 8, 9, 10, 11, 13, 25] Mr0 Mr1) ∨ (∃ Mc1 Mr1, rc = some (zm1, Mc1) ∧ rm = some (zm1 - Mr1.1 89 11, Mr1) ∧ gBad Mc1 Mr1 ∧ gF [1, 10, 11, 12, 13, 14, 15] [] Mc0 Mc1 ∧ gF [89, 92, 99] [5, 6, 7, 8, 9, 10, 11, 13, 25] Mr0 Mr1)
theorem k_lines {tl : Nat} {tb : Nat → Nat} {Mc0 Mr0 : zMem} : ∀ (m i fu fv : Nat) (h : zN) (nu : Nat → List Nat) (oc : Int32) (k : gTk) (Mc Mr : zMem), i + m = 900 → m < fu → m < fv → (k.1 ≠ 4 → i ≤ k.2.2.2.1) → gTS tl 900 tb k Mc Mr → gDC h nu oc Mc → gDM h nu oc Mr → gH h → gF [1, 10, 11, 12, 13, 14, 15] [] Mc0 Mc → gF [89, 92, 99] [5, 6, 7, 8, 9, 10, 11, 13, 25] Mr0 Mr → gRd 0 Mc0 Mr0 (mf_X7_readLines_l13 gR 10 1 fu (nI i) Mc) (mf_X12_room_l42 gR 89 fv (nI i) Mr) := by
  intro m
  induction m with
  | zero =>
    intro i fu fv h nu oc k Mc Mr hi hf hf2 hpl S D E hH fc fm
    match fu, hf, fv, hf2 with
    | fu + 1, _, fv + 1, _ =>
      rw [mf_X7_readLines_l13, mf_X12_room_l42]
      simp only [zl_lit, zl_m1]
      rw [if_neg (by rw [nI_ltI (by omega) (by omega)]; omega), c_isEnd S, zcl_ok]
      by_cases k0 : k.1 = 0
      · rw [decide_eq_true k0, if_neg gB_t0, if_pos (by rw [m_isEnd S]; exact k0)]
        exact Or.inl ⟨i, h, nu, oc, Mc, Mr, by omega, rfl, rfl, D, E, hH, S.2.2.2.2.2.2.1, S.2.2.2.2.2.2.2.2.2.2.2, fc, fm⟩
      · rw [decide_eq_false k0, if_pos gB_f0, if_neg (by rw [m_isEnd S]; exact k0)]
        rcases k_line S D E hH with ⟨h1, nu1, oc1, k1, Mc1, Mr1, a1, a2, a3, a4, _⟩ | ⟨Mc1, Mr1, a1, a2, a3, a4, a5⟩
        · exfalso
          by_cases k4 : k.1 = 4
          · obtain ⟨Mx, hx⟩ := k_line4 S k4
            rw [hx] at a1
            have := congrArg (fun o : Option (Int32 × zMem) => o.map (·.1)) a1
            have h01 : some (nI 0) = some (nI 1) := this
            have h02 : nI 0 = nI 1 := Option.some.inj h01
            exact absurd h02 (by decide +kernel)
          · have q1 := S.2.1 k0 k4
            have q2 := hpl k4
            omega
        · rw [a1, a2, zcl_ok, zcl_ok, if_pos rfl, if_pos rfl]
          unfold mf_X12_room_b63
          simp only [zl_lit, zl_m1]
          exact Or.inr ⟨Mc1, Mr1, rfl, rfl, a3, fc.trans a4, fm.trans a5⟩
  | succ m ih =>
    intro i fu fv h nu oc k Mc Mr hi hf hf2 hpl S D E hH fc fm
    match fu, hf, fv, hf2 with
    | fu + 1, hf, fv + 1, hf2 =>
      rw [mf_X7_readLines_l13, mf_X12_room_l42]
      simp only [zl_lit, zl_m1]
      rw [if_neg (by rw [nI_ltI (by omega) (by omega)]; omega), c_isEnd S, zcl_ok]
      by_cases k0 : k.1 = 0
      · rw [decide_eq_true k0, if_neg gB_t0, if_pos (by rw [m_isEnd S]; exact k0)]
        exact Or.inl ⟨i, h, nu, oc, Mc, Mr, by omega, rfl, rfl, D, E, hH, S.2.2.2.2.2.2.1, S.2.2.2.2.2.2.2.2.2.2.2, fc, fm⟩
      · rw [decide_eq_false k0, if_pos gB_f0, if_neg (by rw [m_isEnd S]; exact k0)]
        rcases k_line S D E hH with ⟨h1, nu1, oc1, k1, Mc1, Mr1, a1, a2, a3, a4, a5, a6, a7, a8, a9⟩ | ⟨Mc1, Mr1, a1, a2, a3, a4, a5⟩
        · have k4 : k.1 ≠ 4 := fun k4 => by
            obtain ⟨Mx, hx⟩ := k_line4 S k4
            rw [hx] at a1
            have := congrArg (fun o : Option (Int32 × zMem) => o.map (·.1)) a1
            have h01 : some (nI 0) = some (nI 1) := this
            have h02 : nI 0 = nI 1 := Option.some.inj h01
            exact absurd h02 (by decide +kernel)
          rw [a1, a2, zcl_ok, zcl_ok, if_neg (by decide +kernel), if_neg (by decide +kernel)]
          have gc := fc.trans a8
          have gm := fm.trans a9
          rcases k_semi a3 with ⟨k2, Mc2, Mr2, b1, b2, b3, b4, b5, b6⟩ | ⟨Mc2, Mr2, b1, b2, b3, b4, b5⟩
          · rw [b1, b2, zcl_ok, zcl_ok, if_neg (by decide +kernel), if_neg (by decide +kernel), nI_add]
            refine ih (i + 1) fu fv h1 nu1 oc1 k2 Mc2 Mr2 (by omega) (by omega) (by omega) (fun q => ?_) b3 (a5.fr b5 (by decide)) (a6.fr b6 (by decide) (by decide)) a7 (gc.trans (b5.mono (by decide) (by decide))) (gm.trans (b6.mono (by decide) (by decide)))
            have q2 := b4 q
            have q0 := hpl k4
            by_cases k14 : k1.1 = 4
            · have x := c_isSg a3 (c := 59) (by omega)
              unfold mf_X10_passSign at b1
              simp only [zl_lit] at b1
              rw [x, zcl_ok, decide_eq_false (by omega), if_pos gB_f0] at b1
              obtain ⟨Mx, My, y1, _⟩ := k_fail (j := 1) a3 (fun _ => rfl) (by omega) (by omega)
              rw [y1, zcl_ok, zchk_ok (Or.inl rfl)] at b1
              have := congrArg (fun o : Option (Int32 × zMem) => o.map (·.1)) b1
              have h01 : some (nI 0) = some (nI 1) := this
              have h02 : nI 0 = nI 1 := Option.some.inj h01
              exact absurd h02 (by decide +kernel)
            · have q1 := a4 k14
              omega
          · rw [b1, b2, zcl_ok, zcl_ok, if_pos rfl, if_pos rfl]
            unfold mf_X12_room_b63
            simp only [zl_lit, zl_m1]
            exact Or.inr ⟨Mc2, Mr2, rfl, rfl, b3, gc.trans (b4.mono (by decide) (by decide)), gm.trans (b5.mono (by decide) (by decide))⟩
        · rw [a1, a2, zcl_ok, zcl_ok, if_pos rfl, if_pos rfl]
          unfold mf_X12_room_b63
          simp only [zl_lit, zl_m1]
          exact Or.inr ⟨Mc1, Mr1, rfl, rfl, a3, fc.trans a4, fm.trans a5⟩
