/-! PARSERS: the token of both, how it goes on, how it fails -/
def gTk : Type := Nat × List Nat × Nat × Nat × Nat
def gTS (tl lim : Nat) (tb : Nat → Nat) (k : gTk) (Mc Mr : zMem) : Prop := (k.1 ≠ 4 → k.2.2.2.2 ≤ tl) ∧ (k.1 ≠ 0 → k.1 ≠ 4 → k.2.2.2.1 < lim ∧ k.2.2.2.1 < k.2.2.2.2) ∧ gTH tl lim tb Mc (Mc.1 1) ∧ gCt k.1 k.2.1 k.2.2.1 (Mc.1 1) (Mc.2 1) ∧ Mc.1 1 8 = nI k.2.2.2.1 ∧ (k.1 ≠ 4 → Mc.1 1 9 = nI k.2.2.2.2) ∧ Mc.1 1 2 = nI 0 ∧ gMH tl lim tb Mr (Mr.1 89) ∧ gMt k.1 k.2.1 k.2.2.1 (Mr.1 89) (Mr.2 89) ∧ Mr.1 89 6 = nI k.2.2.2.1 ∧ (k.1 ≠ 4 → Mr.1 89 5 = nI k.2.2.2.2) ∧ Mr.1 89 10 = nI 0
theorem gK_f {tl lim p : Nat} {tb : Nat → Nat} (hp : p ≤ tl) : (gKd tl lim tb (gSq tl tb p) ≠ 4 → gKp tl tb (gSq tl tb p) ≤ tl) ∧ (gKd tl lim tb (gSq tl tb p) ≠ 0 → gKd tl lim tb (gSq tl tb p) ≠ 4 → gKl tl lim (gSq tl tb p) < lim ∧ gKl tl lim (gSq tl tb p) < gKp tl tb (gSq tl tb p)) ∧ (gKd tl lim tb (gSq tl tb p) ≠ 4 → p ≤ gKl tl lim (gSq tl tb p)) := by
  obtain ⟨s1, s2, s3, s4⟩ := gSq_f (tb := tb) hp
  generalize gSq tl tb p = q at *
  obtain ⟨e1, e2, e3, e4⟩ := gE_f (tb := tb) (q := q) (tl := tl) s2
  unfold gKd gKl gKp
  by_cases wl : lim < tl ∧ lim ≤ q
  · rw [if_pos wl]
    exact ⟨fun h => absurd rfl h, fun _ h => absurd rfl h, fun h => absurd rfl h⟩
  · rw [if_neg wl, if_neg wl]
    by_cases wt : tl ≤ q
    · rw [if_pos wt, if_pos wt]
      exact ⟨fun _ => s2, fun h => absurd rfl h, fun _ => s1⟩
    · rw [if_neg wt, if_neg wt]
      by_cases wm : gMk (tb q) = true
      · rw [if_pos wm, if_pos wm]
        exact ⟨fun _ => by omega, fun _ _ => ⟨by omega, by omega⟩, fun _ => s1⟩
      · rw [if_neg wm, if_neg wm]
        refine ⟨fun _ => e2, fun _ h => ⟨by omega, ?_⟩, fun _ => s1⟩
        have hn : (gUr tl tb q).length = gE tl tb q - q := by rw [show gUr tl tb q = gU tb q (gE tl tb q - q) from rfl, gU_l]
        unfold gKd0 at h
        by_cases w1 : gLn (gUr tl tb q) = (gUr tl tb q).length ∧ 1 ≤ (gUr tl tb q).length ∧ (gUr tl tb q).length ≤ 7
        · omega
        · rw [if_neg w1] at h
          by_cases w2 : gLn (gUr tl tb q) = 0 ∧ 1 ≤ (gUr tl tb q).length ∧ (gUr tl tb q).length ≤ 3
          · omega
          · rw [if_neg w2] at h
            exact absurd rfl h
/-- from a place of both, the next token of both -/
theorem k_adv0 {tl lim : Nat} {tb : Nat → Nat} {p : Nat} {Mc Mr : zMem} (hp : p ≤ tl) (H : gTH tl lim tb Mc (Mc.1 1)) (h9 : Mc.1 1 9 = nI p) (h2 : Mc.1 1 2 = nI 0) (G : gMH tl lim tb Mr (Mr.1 89)) (h5 : Mr.1 89 5 = nI p) (h10 : Mr.1 89 10 = nI 0) : ∃ (k : gTk) (Mc1 Mr1 : zMem), mf_X10_next gR 1 Mc = some ((), Mc1) ∧ mf_X12_go gR 89 Mr = some ((), Mr1) ∧ gTS tl lim tb k Mc1 Mr1 ∧ (k.1 ≠ 4 → p ≤ k.2.2.2.1) ∧ gF [1] [] Mc Mc1 ∧ gF [89] [5, 6, 7, 8, 9] Mr Mr1 := by
  obtain ⟨f1, g1, a1, a2, a3, a4, a5⟩ := c_nextT (g := Mc.2 1) H hp h9
  obtain ⟨f2, g2, b1, b2, b3, b4, b5⟩ := m_goT (g := Mr.2 89) G hp h5
  rw [gT_id] at a1 b1
  obtain ⟨x1, x2, x3⟩ := gK_f (lim := lim) (tb := tb) hp
  have H1 : gTH tl lim tb (gT 1 Mc f1 g1) f1 := by
    have := H.fk a5 (by decide) (by decide)
    refine ⟨this.l, this.m, fun j hj => ?_, this.f1, this.f10, fun k hk => ?_⟩
    · rw [gT_n (by decide)]; exact H.b j hj
    · rw [gT_Ln (by decide)]; exact H.k k hk
  have G1 : gMH tl lim tb (gT 89 Mr f2 g2) f2 := by
    have := G.fk b5 (by decide) (by decide)
    refine ⟨this.1, this.2.1, fun j hj => ?_, this.2.2.2⟩
    rw [gT_n (by decide)]; exact G.2.2.1 j hj
  refine ⟨(gKd tl lim tb (gSq tl tb p), gLet (gUr tl tb (gSq tl tb p)), gKv tl tb (gSq tl tb p), gKl tl lim (gSq tl tb p), gKp tl tb (gSq tl tb p)), gT 1 Mc f1 g1, gT 89 Mr f2 g2, a1, b1, ⟨x1, x2, ?_, ?_, ?_, ?_, ?_, ?_, ?_, ?_, ?_, ?_⟩, x3, ⟨fun o ho _ => ?_, fun o ho => ?_, fun k _ => ?_⟩, ⟨fun o ho h9 => ?_, fun o ho => ?_, fun k hk => ?_⟩⟩
  · rw [gT_r]; exact H1
  · rw [gT_r, gT_L]; exact a2
  · rw [gT_r]; exact a3
  · rw [gT_r]; exact a4
  · rw [gT_r, a5 2 (by decide)]; exact h2
  · rw [gT_r]; exact G1
  · rw [gT_r, gT_L]; exact b2
  · rw [gT_r]; exact b3
  · rw [gT_r]; exact b4
  · rw [gT_r, b5 10 (by decide)]; exact h10
  · exact gT_n (fun e => ho (by rw [e]; decide))
  · exact gT_Ln (fun e => ho (by rw [e]; decide))
  · rw [gT_n (by decide)]
  · exact gT_n h9
  · exact gT_Ln (fun e => ho (by rw [e]; decide))
  · rw [gT_r]; exact b5 k hk
theorem k_adv {tl lim : Nat} {tb : Nat → Nat} {k : gTk} {Mc Mr : zMem} (S : gTS tl lim tb k Mc Mr) (h4 : k.1 ≠ 4) (h0 : k.1 ≠ 0) : ∃ (k1 : gTk) (Mc1 Mr1 : zMem), mf_X10_next gR 1 Mc = some ((), Mc1) ∧ mf_X12_go gR 89 Mr = some ((), Mr1) ∧ gTS tl lim tb k1 Mc1 Mr1 ∧ (k1.1 ≠ 4 → k.2.2.2.1 < k1.2.2.2.1) ∧ gF [1] [] Mc Mc1 ∧ gF [89] [5, 6, 7, 8, 9] Mr Mr1 := by
  obtain ⟨s1, s2, s3, s4, s5, s6, s7, s8, s9, s10, s11, s12⟩ := S
  obtain ⟨k1, Mc1, Mr1, r1, r2, r3, r4, r5, r6⟩ := k_adv0 (s1 h4) s3 (s6 h4) s7 s8 (s11 h4) s12
  exact ⟨k1, Mc1, Mr1, r1, r2, r3, fun h => by have := r4 h; have := (s2 h0 h4).2; omega, r5, r6⟩
theorem gTS.fr {tl lim : Nat} {tb : Nat → Nat} {k : gTk} {Mc Mr Mc1 Mr1 : zMem} {ids ids2 ks ks2 : List Nat} (S : gTS tl lim tb k Mc Mr) (fc : gF ids ks Mc Mc1) (hc : ∀ o ∈ [1, 2, 3], o ∉ ids) (fm : gF ids2 ks2 Mr Mr1) (hm : ∀ o ∈ [89, 90], o ∉ ids2) (hk : ∀ o ∈ [3, 4, 5, 6, 7, 8, 9, 10], o ∉ ks2) : gTS tl lim tb k Mc1 Mr1 := by
  obtain ⟨s1, s2, s3, s4, s5, s6, s7, s8, s9, s10, s11, s12⟩ := S
  have e1 : Mc1.1 1 = Mc.1 1 := fc.1 1 (hc 1 (by decide)) (by decide)
  have e1L : Mc1.2 1 = Mc.2 1 := fc.2.1 1 (hc 1 (by decide))
  have e2 : Mc1.1 2 = Mc.1 2 := fc.1 2 (hc 2 (by decide)) (by decide)
  have e3 : Mc1.2 3 = Mc.2 3 := fc.2.1 3 (hc 3 (by decide))
  have e90 : Mr1.1 90 = Mr.1 90 := fm.1 90 (hm 90 (by decide)) (by decide)
  have e89 : Mr1.2 89 = Mr.2 89 := fm.2.1 89 (hm 89 (by decide))
  have ek : ∀ j ∈ [3, 4, 5, 6, 7, 8, 9, 10], Mr1.1 89 j = Mr.1 89 j := fun j hj => fm.2.2 j (hk j hj)
  refine ⟨s1, s2, ?_, by rw [e1, e1L]; exact s4, by rw [e1]; exact s5, by rw [e1]; exact s6, by rw [e1]; exact s7, ?_, ?_, by rw [ek 6 (by decide)]; exact s10, by rw [ek 5 (by decide)]; exact s11, by rw [ek 10 (by decide)]; exact s12⟩
  · rw [e1]
    exact ⟨s3.l, s3.m, fun j hj => by rw [e2]; exact s3.b j hj, s3.f1, s3.f10, fun j hj => by rw [e3]; exact s3.k j hj⟩
  · exact ⟨s8.1, s8.2.1, fun j hj => by rw [e90]; exact s8.2.2.1 j hj, by rw [ek 3 (by decide)]; exact s8.2.2.2.1, by rw [ek 4 (by decide)]; exact s8.2.2.2.2⟩
  · unfold gMt at s9 ⊢
    rw [ek 7 (by decide), ek 8 (by decide), ek 9 (by decide), e89]
    exact s9
/-- both failed alike -/
def gBad (Mc Mr : zMem) : Prop := (∃ j, 1 ≤ j ∧ j ≤ 4 ∧ Mc.1 1 2 = nI j ∧ Mr.1 89 10 = nI j) ∧ Mc.1 1 3 = Mr.1 89 11
theorem k_fail {tl lim : Nat} {tb : Nat → Nat} {k : gTk} {Mc Mr : zMem} {j : Nat} (S : gTS tl lim tb k Mc Mr) (hj : k.1 = 4 → j = 1) (h1 : 1 ≤ j) (h4 : j ≤ 4) : ∃ Mc1 Mr1, mf_X10_fail gR 1 (nI j) Mc = some (nI 0, Mc1) ∧ mf_X12_bad gR 89 (nI j) Mr = some (nI 0, Mr1) ∧ gBad Mc1 Mr1 ∧ gF [1] [] Mc Mc1 ∧ gF [89] [10, 11] Mr Mr1 := by
  obtain ⟨s1, s2, s3, s4, s5, s6, s7, s8, s9, s10, s11, s12⟩ := S
  have em : mf_X12_bad gR 89 (nI j) Mr = some (nI 0, zwI (zwI Mr 89 10 (nI j)) 89 11 (nI k.2.2.2.1)) := by
    have e6 : (zwI Mr 89 10 (nI j)).1 89 6 = nI k.2.2.2.1 := by rw [zwI_s, upd_n (by decide)]; exact s10
    unfold mf_X12_bad mf_X12_bad_b14
    simp only [zl_lit, zlet_ok]
    by_cases w : k.1 = 4
    · have : j = 1 := hj w
      subst this
      rw [e6]
      split <;> rfl
    · have h7 : ¬ Mr.1 89 7 = nI 1 := by
        rcases s9 with ⟨_, z⟩ | ⟨_, _, _, z⟩ | ⟨_, _, z, _⟩ | ⟨_, _, z, _⟩ | ⟨z, _⟩
        · rw [z]; decide +kernel
        · rw [z]; decide +kernel
        · rw [z]; decide +kernel
        · rw [z]; decide +kernel
        · exact absurd z w
      rw [if_neg h7, e6]
  refine ⟨zwI (zwI Mc 1 2 (nI j)) 1 3 (nI k.2.2.2.1), _, ?_, em, ⟨⟨j, h1, h4, ?_, ?_⟩, ?_⟩, gF.wI (gF.wI gF.r (by decide) (by decide)) (by decide) (by decide), gF.w9 (gF.w9 gF.r (by decide)) (by decide)⟩
  · have e8 : (zwI Mc 1 2 (nI j)).1 1 8 = nI k.2.2.2.1 := by rw [zwI_s, upd_n (by decide)]; exact s5
    unfold mf_X10_fail
    simp only [zl_lit, zlet_ok]
    rw [e8]
  · rw [zwI_s, upd_n (by decide), zwI_s, upd_s]
  · rw [zwI_s, upd_n (by decide), zwI_s, upd_s]
  · rw [zwI_s, upd_s, zwI_s, upd_s]
theorem m_isInH {k lo hi : Nat} {M : zMem} (h1 : hi < k) (h2 : k < 2 ^ 30) (h3 : lo < 2 ^ 30) : mf_X12_isIn gR (nI k) (nI lo) (nI hi) M = some (nI 0, M) := by
  unfold mf_X12_isIn
  simp only [zl_lit]
  rw [if_pos (show nI hi < nI k from (nI_ltI (by omega) (by omega)).mpr h1)]
  split <;> rfl
/-- a NUMBER comes, from lo to hi -/
theorem k_num {tl lim : Nat} {tb : Nat → Nat} {k : gTk} {Mc Mr : zMem} {lo hi : Nat} (S : gTS tl lim tb k Mc Mr) (hh : hi ≤ 999) (hl : lo ≤ 999) : (∃ (v : Nat) (k1 : gTk) (Mc1 Mr1 : zMem), k.1 = 2 ∧ lo ≤ v ∧ v ≤ hi ∧ mf_X10_passNumber gR 1 (nI lo) (nI hi) Mc = some (nI v, Mc1) ∧ mf_X12_readNumber gR 89 (nI lo) (nI hi) Mr = some (nI 1, Mr1) ∧ Mr1.1 89 13 = nI v ∧ gTS tl lim tb k1 Mc1 Mr1 ∧ (k1.1 ≠ 4 → k.2.2.2.1 < k1.2.2.2.1) ∧ gF [1] [] Mc Mc1 ∧ gF [89] [5, 6, 7, 8, 9, 13] Mr Mr1) ∨ (∃ Mc1 Mr1, mf_X10_passNumber gR 1 (nI lo) (nI hi) Mc = some (zm1, Mc1) ∧ mf_X12_readNumber gR 89 (nI lo) (nI hi) Mr = some (nI 0, Mr1) ∧ gBad Mc1 Mr1 ∧ gF [1] [] Mc Mc1 ∧ gF [89] [10, 11] Mr Mr1) := by
  have S0 := S
  obtain ⟨s1, s2, s3, s4, s5, s6, s7, s8, s9, s10, s11, s12⟩ := S
  unfold mf_X10_passNumber mf_X12_readNumber
  simp only [zl_lit, zlet_ok, zl_m1]
  by_cases w : k.1 = 2
  · obtain ⟨c1, c2, c3, c4⟩ : k.2.2.1 ≤ 999 ∧ Mc.1 1 4 = nI 3 ∧ Mc.1 1 5 = zm1 ∧ Mc.1 1 6 = nI k.2.2.1 := by
      rcases s4 with ⟨z, _⟩ | ⟨z, _⟩ | ⟨_, z⟩ | ⟨z, _⟩ | ⟨z, _⟩
      · omega
      · omega
      · exact z
      · omega
      · omega
    obtain ⟨m1, m2, m3⟩ : k.2.2.1 ≤ 999 ∧ Mr.1 89 7 = nI 3 ∧ Mr.1 89 8 = nI k.2.2.1 := by
      rcases s9 with ⟨z, _⟩ | ⟨z, _⟩ | ⟨_, z⟩ | ⟨z, _⟩ | ⟨z, _⟩
      · omega
      · omega
      · exact z
      · omega
      · omega
    rw [c2, if_pos rfl, m2, if_pos rfl, c4, m3]
    generalize k.2.2.1 = v at *
    have failing : (∃ Mc1 Mr1, mf_X10_passNumber_b31 gR 1 Mc = some (zm1, Mc1) ∧ (zcl (mf_X12_bad gR 89 (nI 2) Mr) fun r9 M8 => zchk (r9 = nI 0 ∨ r9 = nI 1) (some (r9, M8))) = some (nI 0, Mr1) ∧ gBad Mc1 Mr1 ∧ gF [1] [] Mc Mc1 ∧ gF [89] [10, 11] Mr Mr1) := by
      obtain ⟨Mc1, Mr1, a1, a2, a3, a4, a5⟩ := k_fail (j := 2) S0 (fun h => by omega) (by omega) (by omega)
      refine ⟨Mc1, Mr1, ?_, ?_, a3, a4, a5⟩
      · unfold mf_X10_passNumber_b31
        simp only [zl_lit, zl_m1]
        rw [a1, zcl_ok]
      · rw [a2, zcl_ok, zchk_ok (Or.inl rfl)]
    by_cases w1 : v < lo
    · refine Or.inr ?_
      rw [if_pos ((nI_ltI (by omega) (by omega)).mpr w1), m_isInN w1 (by omega), zcl_ok, if_pos rfl]
      exact failing
    · rw [if_neg (by rw [nI_ltI (by omega) (by omega)]; exact w1)]
      by_cases w2 : v ≤ hi
      · refine Or.inl ?_
        rw [if_pos ((nI_leI (by omega) (by omega)).mpr w2), m_isInY (by omega) w2 (by omega), zcl_ok, if_neg (by decide +kernel), m3]
        have f13 : gF [] [13] Mr (zwI Mr 89 13 (nI v)) := gF.w9 gF.r (by decide)
        have S1 : gTS tl lim tb k Mc (zwI Mr 89 13 (nI v)) := S0.fr (gF.r (ids := []) (ks := [])) (by decide) f13 (by decide) (by decide)
        obtain ⟨k1, Mc1, Mr1, a1, a2, a3, a4, a5, a6⟩ := k_adv S1 (by omega) (by omega)
        rw [a1, a2, zcl_ok, zcl_ok]
        refine ⟨v, k1, Mc1, Mr1, w, by omega, w2, rfl, rfl, ?_, a3, a4, a5, (f13.mono (by decide) (by decide)).trans (a6.mono (by decide) (by decide))⟩
        rw [a6.2.2 13 (by decide), zwI_s, upd_s]
      · refine Or.inr ?_
        rw [if_neg (by rw [nI_leI (by omega) (by omega)]; exact w2), m_isInH (by omega) (by omega) (by omega), zcl_ok, if_pos rfl]
        exact failing
  · refine Or.inr ?_
    have c2 : ¬ Mc.1 1 4 = nI 3 := by
      rcases s4 with ⟨_, z, _⟩ | ⟨_, _, _, z⟩ | ⟨z, _⟩ | ⟨_, _, z, _⟩ | ⟨_, z, _⟩
      · rw [z]; decide +kernel
      · rcases z with ⟨_, z, _⟩ | ⟨_, z, _⟩
        · rw [z]; decide +kernel
        · rw [z]; decide +kernel
      · exact absurd z w
      · rw [z]; decide +kernel
      · rw [z]; decide +kernel
    have m2 : ¬ Mr.1 89 7 = nI 3 := by
      rcases s9 with ⟨_, z⟩ | ⟨_, _, _, z⟩ | ⟨z, _⟩ | ⟨_, _, z, _⟩ | ⟨_, z⟩
      · rw [z]; decide +kernel
      · rw [z]; decide +kernel
      · exact absurd z w
      · rw [z]; decide +kernel
      · rw [z]; decide +kernel
    obtain ⟨Mc1, Mr1, a1, a2, a3, a4, a5⟩ := k_fail (j := 1) S0 (fun _ => rfl) (by omega) (by omega)
    rw [if_neg c2, if_neg m2, a1, a2, zcl_ok, zcl_ok, zchk_ok (Or.inl rfl)]
    exact ⟨Mc1, Mr1, rfl, rfl, a3, a4, a5⟩
