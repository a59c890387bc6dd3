/-! SENTENCE: a COND, read by both, if a ONE is -/
def gP1 (tl lim : Nat) (tb : Nat → Nat) (h : zN) (nu : Nat → List Nat) (w dc dr : Nat) : Prop := ∀ (n o : Nat) (st : List Nat) (K A B : zN) (k : gTk) (Mc Mr : zMem), gTS tl lim tb k Mc Mr → gZI h n o w st K A B Mc Mr → gKC h nu Mc → gKM h nu Mr → gZO tl lim tb h n o w st Mc Mr ((mg_X8 dc).2 gR 25 1 4 (nI (w + 1)) Mc) ((mg_X12a dr).2.2.1 gR 89 Mr)
def gP2 (tl lim : Nat) (tb : Nat → Nat) (h : zN) (nu : Nat → List Nat) (w dc dr : Nat) : Prop := ∀ (n o : Nat) (st : List Nat) (K A B : zN) (k : gTk) (Mc Mr : zMem), gTS tl lim tb k Mc Mr → gZI h n o w st K A B Mc Mr → gKC h nu Mc → gKM h nu Mr → gZO tl lim tb h n o w st Mc Mr ((mg_X8 dc).1 gR 25 1 4 (nI (w + 1)) Mc) ((mg_X12a dr).1 gR 89 Mr)
def gCL (d f : Nat) (i3 i4 i5 : Int32) (M : zMem) : Option (Int32 × zMem) := mf_X8_readCond_l18 gR (mg_X8 d).1 (mg_X8 d).2 25 1 4 f i3 i4 i5 M
def gRO (d f : Nat) (i1 : Int32) (M : zMem) : Option (Int32 × zMem) := mf_X12_readOr_l14 gR (mg_X12a d).1 (mg_X12a d).2.1 (mg_X12a d).2.2.1 (mg_X12a d).2.2.2.1 (mg_X12a d).2.2.2.2 89 f i1 M
def gRA (d f : Nat) (i1 : Int32) (M : zMem) : Option (Int32 × zMem) := mf_X12_readAnd_l14 gR (mg_X12a d).1 (mg_X12a d).2.1 (mg_X12a d).2.2.1 (mg_X12a d).2.2.2.1 (mg_X12a d).2.2.2.2 89 f i1 M
theorem gRO_s {d f : Nat} {i1 : Int32} {M : zMem} : gRO d (f + 1) i1 M = zcl (mf_X12_isWord gR 89 (nI 11) M) fun r6 M5 => if r6 = nI 0 then zlet (zwI M5 89 51 i1) fun M8 => some (nI 1, M8) else zcl (mf_X12_go gR 89 M5) fun _ M9 => zcl ((mg_X12a d).2.1 gR 89 M9) fun r12 M11 => if r12 = nI 0 then some (nI 0, M11) else zcl (mf_X12_saysOne gR 89 (nI 3) i1 (M11.1 89 51) (nI 0) M11) fun r15 M14 => gRO d f r15 M14 := rfl
theorem gRA_s {d f : Nat} {i1 : Int32} {M : zMem} : gRA d (f + 1) i1 M = zcl (mf_X12_isWord gR 89 (nI 12) M) fun r6 M5 => if r6 = nI 0 then zlet (zwI M5 89 51 i1) fun M8 => some (nI 1, M8) else zcl (mf_X12_go gR 89 M5) fun _ M9 => zcl ((mg_X12a d).2.2.1 gR 89 M9) fun r12 M11 => if r12 = nI 0 then some (nI 0, M11) else zcl (mf_X12_saysOne gR 89 (nI 2) i1 (M11.1 89 51) (nI 0) M11) fun r15 M14 => gRA d f r15 M14 := rfl
theorem mA_or {d : Nat} {M : zMem} : (mg_X12a (d + 1)).1 gR 89 M = zcl ((mg_X12a d).2.1 gR 89 M) fun r2 M1 => if r2 = nI 0 then some (nI 0, M1) else zlet (M1.1 89 51) fun x4 => gRO d zF x4 M1 := rfl
theorem mA_and {d : Nat} {M : zMem} : (mg_X12a (d + 1)).2.1 gR 89 M = zcl ((mg_X12a d).2.2.1 gR 89 M) fun r2 M1 => if r2 = nI 0 then some (nI 0, M1) else zlet (M1.1 89 51) fun x4 => gRA d zF x4 M1 := rfl
theorem m8_cond {d : Nat} {x : Int32} {M : zMem} : (mg_X8 (d + 1)).1 gR 25 1 4 x M = zcl ((mg_X8 d).2 gR 25 1 4 x M) fun r2 M1 => if r2 = nI 0 then some (nI 0, M1) else gCL d zF x (nI 0) (nI 0) M1 := rfl
/-- behind a key: one more ONE, in the class -/
def gCn (d f : Nat) (i3 i4 i5 : Int32) (M : zMem) : Option (Int32 × zMem) := zcl (mf_X10_next gR 1 M) fun _ M14 => zcl ((mg_X8 d).2 gR 25 1 4 i3 M14) fun r17 M16 => if r17 = nI 0 then some (nI 0, M16) else gCL d f i3 i4 (i5 + nI 1) M16
def gCa (d f : Nat) (i3 i4 i5 : Int32) (M : zMem) : Option (Int32 × zMem) := zcl (mf_X10_next gR 1 M) fun _ M14 => zcl ((mg_X8 d).2 gR 25 1 4 i3 M14) fun r17 M16 => if r17 = nI 0 then some (nI 0, M16) else zcl (mf_X8_addStep gR 25 (nI 12) (nI 0) (nI 0) M16) fun _ M20 => gCL d f i3 i4 (i5 + nI 1) M20
/-- behind no 'and': an 'or', or it is over -/
def gCo (d f : Nat) (i3 i5 : Int32) (M : zMem) : Option (Int32 × zMem) := if M.1 1 5 = nI 11 then gCn d f i3 (nI 1) i5 M else some (nI 1, M)
theorem gCL_s {d f i : Nat} {i3 : Int32} {b : Bool} {M : zMem} (hi : i ≤ 20) : gCL d (f + 1) i3 (gB b) (nI i) M = if M.1 1 5 = nI 12 then gCa d f i3 (gB b) (nI i) M else if b = true then (zcl (mf_X8_addStep gR 25 (nI 11) (nI 0) (nI 0) M) fun _ M10 => gCo d f i3 (nI i) M10) else gCo d f i3 (nI i) M := by
  unfold gCL
  rw [mf_X8_readCond_l18]
  simp only [zl_lit]
  rw [if_neg (by rw [nI_ltI (by omega) (by omega)]; omega)]
  have e10 : ¬ nI 1 = nI 0 := by decide +kernel
  unfold mf_X8_readCond_b39 mf_X8_readCond_b60 mf_X8_readCond_b76 mf_X8_readCond_b112
  simp only [zl_lit, e10, if_false, eq_self, if_true]
  by_cases e : M.1 1 5 = nI 12
  · rw [if_pos e, if_pos e]
    cases b
    · rw [if_pos gB_f0]; rfl
    · rw [if_neg gB_t0]; rfl
  · rw [if_neg e, if_neg e]
    cases b
    · rw [if_pos gB_f0, if_neg (show ¬ (false = true) by decide)]; rfl
    · rw [if_neg gB_t0, if_pos rfl]; rfl
theorem k_keyE {tl lim : Nat} {tb : Nat → Nat} {k : gTk} {Mc Mr : zMem} (S : gTS tl lim tb k Mc Mr) {j : Nat} (hj : j < 24) : (Mc.1 1 5 = nI j) = (gKy k = j) := by
  have lk := gKy_le (k := k)
  rw [c_key S]
  by_cases e : gKy k = 24
  · rw [show enX 24 (gKy k) = zm1 from if_pos e, zm1_ne' (by omega)]
    exact (eq_false (by omega)).symm
  · rw [enX_ne e, nI_eqE (by omega) (by omega)]
theorem k_key1 {k : gTk} (h : gKy k < 24) : k.1 = 1 := by
  unfold gKy at h
  by_cases z : k.1 = 1
  · exact z
  · rw [if_neg z] at h; omega
/-- the two ways on -/
def gLpA (tl lim : Nat) (tb : Nat → Nat) (h : zN) (nu : Nat → List Nat) (w dc dr m : Nat) : Prop := ∀ (n o n0 o0 i fu f1 : Nat) (st : List Nat) (K A B : zN) (k : gTk) (Mc Mr Mc0 Mr0 : zMem), 21 - o ≤ m → m < fu → m < f1 → i < o → gTS tl lim tb k Mc Mr → gZI h (n + 1) o w (n :: st) K A B Mc Mr → gKC h nu Mc → gKM h nu Mr → o0 < o → n + 2 + 2 * o0 ≤ 2 * o + n0 → gF gIz [] Mc0 Mc → gF gJz gFz Mr0 Mr → gZO tl lim tb h n0 o0 w st Mc0 Mr0 (gCL dc fu (nI (w + 1)) (nI 0) (nI i) Mc) (zcl (gRA dr f1 (nI n) Mr) fun r2 M1 => if r2 = nI 0 then some (nI 0, M1) else zlet (M1.1 89 51) fun x4 => gRO (dr + 1) zF x4 M1)
def gLpB (tl lim : Nat) (tb : Nat → Nat) (h : zN) (nu : Nat → List Nat) (w dc dr m : Nat) : Prop := ∀ (n t1 o n0 o0 i fu f1 f2 : Nat) (st : List Nat) (K A B : zN) (k : gTk) (Mc Mr Mc0 Mr0 : zMem), 21 - o ≤ m → m < fu → m < f1 → m < f2 → i < o → gTS tl lim tb k Mc Mr → gZI h (n + 1) o w (n :: t1 :: st) K A B Mc Mr → gKC h nu Mc → gKM h nu Mr → o0 < o → n + 3 + 2 * o0 ≤ 2 * o + n0 → gF gIz [] Mc0 Mc → gF gJz gFz Mr0 Mr → gZO tl lim tb h n0 o0 w st Mc0 Mr0 (gCL dc fu (nI (w + 1)) (nI 1) (nI i) Mc) (zcl (gRA dr f1 (nI n) Mr) fun r12 M11 => if r12 = nI 0 then some (nI 0, M11) else zcl (mf_X12_saysOne gR 89 (nI 3) (nI t1) (M11.1 89 51) (nI 0) M11) fun r15 M14 => gRO (dr + 1) f2 r15 M14)
/-- one more ONE behind a key: what all ways share -/
theorem k_more {tl lim : Nat} {tb : Nat → Nat} {h : zN} {nu : Nat → List Nat} {w dc dr n o : Nat} {st : List Nat} {K A B : zN} {k : gTk} {Mc Mr Mc0 Mr0 : zMem} (P : gP1 tl lim tb h nu w dc dr) (hk : gKy k < 24) (S : gTS tl lim tb k Mc Mr) (Z : gZI h n o w st K A B Mc Mr) (KC : gKC h nu Mc) (KM : gKM h nu Mr) (fc : gF gIz [] Mc0 Mc) (fm : gF gJz gFz Mr0 Mr) : ∃ Mca Mra, mf_X10_next gR 1 Mc = some ((), Mca) ∧ mf_X12_go gR 89 Mr = some ((), Mra) ∧ ((∃ (n' o' : Nat) (K A B : zN) (k1 : gTk) (Mc1 Mr1 : zMem), (mg_X8 dc).2 gR 25 1 4 (nI (w + 1)) Mca = some (nI 1, Mc1) ∧ (mg_X12a dr).2.2.1 gR 89 Mra = some (nI 1, Mr1) ∧ gTS tl lim tb k1 Mc1 Mr1 ∧ gZI h (n' + 1) o' w (n' :: st) K A B Mc1 Mr1 ∧ Mr1.1 89 51 = nI n' ∧ o < o' ∧ n' + 2 + 2 * o ≤ 2 * o' + n ∧ gKC h nu Mc1 ∧ gKM h nu Mr1 ∧ gF gIz [] Mc0 Mc1 ∧ gF gJz gFz Mr0 Mr1) ∨ (∃ Mc1 Mr1, (mg_X8 dc).2 gR 25 1 4 (nI (w + 1)) Mca = some (nI 0, Mc1) ∧ (mg_X12a dr).2.2.1 gR 89 Mra = some (nI 0, Mr1) ∧ gBad Mc1 Mr1 ∧ gF gIz [] Mc0 Mc1 ∧ gF gJz gFz Mr0 Mr1)) := by
  obtain ⟨ka, Mca, Mra, a1, a2, a3, a4, a5, a6⟩ := k_adv S (by rw [k_key1 hk]; decide) (by rw [k_key1 hk]; decide)
  refine ⟨Mca, Mra, a1, a2, ?_⟩
  have gc := fc.trans (a5.mono (ids' := gIz) (ks' := []) (by decide) (by decide))
  have gm := fm.trans (a6.mono (ids' := gJz) (ks' := gFz) (by decide) (by decide))
  rcases P n o st K A B ka Mca Mra a3 (Z.fr a5 (by decide) a6 (by decide) (by decide)) (KC.fr a5 (by decide)) (KM.fr a6 (by decide)) with ⟨n', o', K1, A1, B1, k1, Mc1, Mr1, b1, b2, b3, b4, b5, b6, b7, b8, b9⟩ | ⟨Mc1, Mr1, b1, b2, b3, b4, b5⟩
  · exact Or.inl ⟨n', o', K1, A1, B1, k1, Mc1, Mr1, b1, b2, b3, b4, b5, b6, b7, (KC.fr a5 (by decide)).fr b8 (by decide), (KM.fr a6 (by decide)).fr b9 (by decide), gc.trans b8, gm.trans b9⟩
  · exact Or.inr ⟨Mc1, Mr1, b1, b2, b3, gc.trans b4, gm.trans b5⟩
/-- an 'or', or it is over -/
theorem k_orc {tl lim : Nat} {tb : Nat → Nat} {h : zN} {nu : Nat → List Nat} {w dc dr m : Nat} (P : gP1 tl lim tb h nu w dc dr) (IB : gLpB tl lim tb h nu w dc dr m) {n o n0 o0 i fu f2 : Nat} {st : List Nat} {K A B : zN} {k : gTk} {Mc Mr Mc0 Mr0 : zMem} (hm : 21 - o ≤ m + 1) (hf : m < fu) (hf2 : m < f2) (hm9 : m < 5000) (hi : i < o) (S : gTS tl lim tb k Mc Mr) (Z : gZI h (n + 1) o w (n :: st) K A B Mc Mr) (KC : gKC h nu Mc) (KM : gKM h nu Mr) (ho : o0 < o) (hs : n + 2 + 2 * o0 ≤ 2 * o + n0) (fc : gF gIz [] Mc0 Mc) (fm : gF gJz gFz Mr0 Mr) : gZO tl lim tb h n0 o0 w st Mc0 Mr0 (gCo dc fu (nI (w + 1)) (nI i) Mc) (gRO (dr + 1) (f2 + 1) (nI n) Mr) := by
  have ho20 := Z.2.2.2.2.2.2.2.2.2.2
  unfold gCo
  rw [gRO_s, m_isWd S (by omega), zcl_ok]
  by_cases e : gKy k = 11
  · rw [if_pos (by rw [k_keyE S (by omega)]; exact e), decide_eq_true e, if_neg gB_t0]
    obtain ⟨Mca, Mra, a1, a2, a3⟩ := k_more P (by omega) S Z KC KM fc fm
    unfold gCn
    rw [a1, a2, zcl_ok, zcl_ok, mA_and]
    rcases a3 with ⟨n', o', K1, A1, B1, k1, Mc1, Mr1, b1, b2, b3, b4, b5, b6, b7, b8, b9, b10, b11⟩ | ⟨Mc1, Mr1, b1, b2, b3, b4, b5⟩
    · have ho21 := b4.2.2.2.2.2.2.2.2.2.2
      rw [b1, b2, zcl_ok, zcl_ok, if_neg (by decide +kernel), if_neg (by decide +kernel), zlet_ok, b5, nI_add]
      exact IB n' n o' n0 o0 (i + 1) fu zF f2 st K1 A1 B1 k1 Mc1 Mr1 Mc0 Mr0 (by omega) hf (by show _ < 5000; omega) hf2 (by omega) b3 b4 b8 b9 (by omega) (by omega) b10 b11
    · rw [b1, b2, zcl_ok, zcl_ok, if_pos rfl, if_pos rfl, zcl_ok, if_pos rfl]
      exact Or.inr ⟨Mc1, Mr1, rfl, rfl, b3, b4, b5⟩
  · rw [if_neg (by rw [k_keyE S (by omega)]; exact e), decide_eq_false e, if_pos gB_f0, zlet_ok]
    have f51 : gF [] [51] Mr (zwI Mr 89 51 (nI n)) := gF.w9 gF.r (by decide)
    exact Or.inl ⟨n, o, K, A, B, k, Mc, _, rfl, rfl, S.fr (gF.r (ids := []) (ks := [])) (by decide) f51 (by decide) (by decide), Z.fr (gF.r (ids := []) (ks := [])) (by decide) f51 (by decide) (by decide), by rw [zwI_s, upd_s], ho, hs, fc, fm.trans (f51.mono (by decide) (by decide))⟩
theorem k_loop {tl lim : Nat} {tb : Nat → Nat} {h : zN} {nu : Nat → List Nat} {w dc dr : Nat} (P : gP1 tl lim tb h nu w dc dr) : ∀ m, m < 100 → gLpA tl lim tb h nu w dc dr m ∧ gLpB tl lim tb h nu w dc dr m := by
  intro m
  induction m with
  | zero =>
    intro _
    refine ⟨?_, ?_⟩
    · intro n o n0 o0 i fu f1 st K A B k Mc Mr Mc0 Mr0 hm _ _ _ _ Z
      have := Z.2.2.2.2.2.2.2.2.2.2
      omega
    · intro n t1 o n0 o0 i fu f1 f2 st K A B k Mc Mr Mc0 Mr0 hm _ _ _ _ _ Z
      have := Z.2.2.2.2.2.2.2.2.2.2
      omega
  | succ m ih =>
    intro hm100
    obtain ⟨IA, IB⟩ := ih (by omega)
    refine ⟨?_, ?_⟩
    · intro n o n0 o0 i fu f1 st K A B k Mc Mr Mc0 Mr0 hm hf hf1 hi S Z KC KM ho hs fc fm
      have ho20 := Z.2.2.2.2.2.2.2.2.2.2
      match fu, hf, f1, hf1 with
      | fu + 1, hf, f1 + 1, hf1 =>
        have e0 : nI 0 = gB false := gB_f0.symm
        rw [show gCL dc (fu + 1) (nI (w + 1)) (nI 0) (nI i) Mc = gCL dc (fu + 1) (nI (w + 1)) (gB false) (nI i) Mc by rw [gB_f0], gCL_s (by omega), gRA_s, m_isWd S (by omega), zcl_ok]
        by_cases e : gKy k = 12
        · rw [if_pos (by rw [k_keyE S (by omega)]; exact e), decide_eq_true e, if_neg gB_t0]
          obtain ⟨Mca, Mra, a1, a2, a3⟩ := k_more P (by omega) S Z KC KM fc fm
          unfold gCa
          rw [a1, a2, zcl_ok, zcl_ok]
          rcases a3 with ⟨n', o', K1, A1, B1, k1, Mc1, Mr1, b1, b2, b3, b4, b5, b6, b7, b8, b9, b10, b11⟩ | ⟨Mc1, Mr1, b1, b2, b3, b4, b5⟩
          · have ho21 := b4.2.2.2.2.2.2.2.2.2.2
            have hs21 := b4.2.2.2.2.2.2.2.2.2.1
            have hl2 : (n' :: n :: st).length = st.length + 2 := rfl
            have hl1 : ((n' + 1) :: st).length = st.length + 1 := rfl
            rw [b1, b2, zcl_ok, zcl_ok, if_neg (by decide +kernel), if_neg (by decide +kernel), b5]
            obtain ⟨Mc2, Mr2, c1, c2, c3, c4, c5⟩ := k_addZ (k := 12) (x := n) (y := n') (cf := nI 0) (cs := nI 0) (p1 := nI n) (p2 := nI n') (p3 := nI 0) (st' := (n' + 1) :: st) b4 (by omega) (by omega) (by omega) (fun q => by omega) (fun _ => ⟨st, rfl⟩) (fun q => by omega) (fun q => by omega) (fun q => by omega) (fun q => by omega) (fun q => by omega) (fun _ => rfl) (fun _ => rfl) (fun q => by omega) rfl (by omega)
            have g12 : gNk 12 = 2 := rfl
            rw [g12] at c2
            rw [c1, c2, zcl_ok, zcl_ok, nI_add, gB_f0]
            exact IA (n' + 1) o' n0 o0 (i + 1) fu f1 st _ _ _ k1 Mc2 Mr2 Mc0 Mr0 (by omega) (by omega) (by omega) (by omega) (b3.fr c4 (by decide) c5 (by decide) (by decide)) c3 (b8.fr c4 (by decide)) (b9.fr c5 (by decide)) (by omega) (by omega) (b10.trans (c4.mono (by decide) (by decide))) (b11.trans (c5.mono (by decide) (by decide)))
          · rw [b1, b2, zcl_ok, zcl_ok, if_pos rfl, if_pos rfl, zcl_ok, if_pos rfl]
            exact Or.inr ⟨Mc1, Mr1, rfl, rfl, b3, b4, b5⟩
        · rw [if_neg (by rw [k_keyE S (by omega)]; exact e), decide_eq_false e, if_pos gB_f0, if_neg (by decide), zlet_ok, zcl_ok, if_neg (by decide +kernel), zlet_ok, zwI_s, upd_s]
          have f51 : gF [] [51] Mr (zwI Mr 89 51 (nI n)) := gF.w9 gF.r (by decide)
          exact k_orc (f2 := 4999) P IB hm (by omega) (by omega) (by omega) hi (S.fr (gF.r (ids := []) (ks := [])) (by decide) f51 (by decide) (by decide)) (Z.fr (gF.r (ids := []) (ks := [])) (by decide) f51 (by decide) (by decide)) KC (KM.fr f51 (by decide)) ho hs fc (fm.trans (f51.mono (by decide) (by decide)))
    · intro n t1 o n0 o0 i fu f1 f2 st K A B k Mc Mr Mc0 Mr0 hm hf hf1 hf2 hi S Z KC KM ho hs fc fm
      have ho20 := Z.2.2.2.2.2.2.2.2.2.2
      have hs20 := Z.2.2.2.2.2.2.2.2.2.1
      have hl0 : (n :: t1 :: st).length = st.length + 2 := rfl
      match fu, hf, f1, hf1 with
      | fu + 1, hf, f1 + 1, hf1 =>
        rw [show gCL dc (fu + 1) (nI (w + 1)) (nI 1) (nI i) Mc = gCL dc (fu + 1) (nI (w + 1)) (gB true) (nI i) Mc from rfl, gCL_s (by omega), gRA_s, m_isWd S (by omega), zcl_ok]
        by_cases e : gKy k = 12
        · rw [if_pos (by rw [k_keyE S (by omega)]; exact e), decide_eq_true e, if_neg gB_t0]
          obtain ⟨Mca, Mra, a1, a2, a3⟩ := k_more P (by omega) S Z KC KM fc fm
          unfold gCa
          rw [a1, a2, zcl_ok, zcl_ok]
          rcases a3 with ⟨n', o', K1, A1, B1, k1, Mc1, Mr1, b1, b2, b3, b4, b5, b6, b7, b8, b9, b10, b11⟩ | ⟨Mc1, Mr1, b1, b2, b3, b4, b5⟩
          · have ho21 := b4.2.2.2.2.2.2.2.2.2.2
            have hs21 := b4.2.2.2.2.2.2.2.2.2.1
            have hl2 : (n' :: n :: t1 :: st).length = st.length + 3 := rfl
            have hl1 : ((n' + 1) :: t1 :: st).length = st.length + 2 := rfl
            rw [b1, b2, zcl_ok, zcl_ok, if_neg (by decide +kernel), if_neg (by decide +kernel), b5]
            obtain ⟨Mc2, Mr2, c1, c2, c3, c4, c5⟩ := k_addZ (k := 12) (x := n) (y := n') (cf := nI 0) (cs := nI 0) (p1 := nI n) (p2 := nI n') (p3 := nI 0) (st' := (n' + 1) :: t1 :: st) b4 (by omega) (by omega) (by omega) (fun q => by omega) (fun _ => ⟨t1 :: st, rfl⟩) (fun q => by omega) (fun q => by omega) (fun q => by omega) (fun q => by omega) (fun q => by omega) (fun _ => rfl) (fun _ => rfl) (fun q => by omega) rfl (by omega)
            have g12 : gNk 12 = 2 := rfl
            rw [g12] at c2
            rw [c1, c2, zcl_ok, zcl_ok, nI_add]
            exact IB (n' + 1) t1 o' n0 o0 (i + 1) fu f1 f2 st _ _ _ k1 Mc2 Mr2 Mc0 Mr0 (by omega) (by omega) (by omega) (by omega) (by omega) (b3.fr c4 (by decide) c5 (by decide) (by decide)) c3 (b8.fr c4 (by decide)) (b9.fr c5 (by decide)) (by omega) (by omega) (b10.trans (c4.mono (by decide) (by decide))) (b11.trans (c5.mono (by decide) (by decide)))
          · rw [b1, b2, zcl_ok, zcl_ok, if_pos rfl, if_pos rfl, zcl_ok, if_pos rfl]
            exact Or.inr ⟨Mc1, Mr1, rfl, rfl, b3, b4, b5⟩
        · have f51 : gF [] [51] Mr (zwI Mr 89 51 (nI n)) := gF.w9 gF.r (by decide)
          have S1 := S.fr (gF.r (ids := []) (ks := [])) (by decide) f51 (by decide) (by decide)
          have Z1 := Z.fr (gF.r (ids := []) (ks := [])) (by decide) f51 (by decide) (by decide)
          have hl1 : ((n + 1) :: st).length = st.length + 1 := rfl
          obtain ⟨Mc2, Mr2, c1, c2, c3, c4, c5⟩ := k_addZ (k := 11) (x := t1) (y := n) (cf := nI 0) (cs := nI 0) (p1 := nI t1) (p2 := nI n) (p3 := nI 0) (st' := (n + 1) :: st) Z1 (by omega) (by omega) (by omega) (fun q => by omega) (fun _ => ⟨st, rfl⟩) (fun q => by omega) (fun q => by omega) (fun q => by omega) (fun q => by omega) (fun q => by omega) (fun _ => rfl) (fun _ => rfl) (fun q => by omega) rfl (by omega)
          have g11 : gNk 11 = 3 := rfl
          rw [g11] at c2
          rw [if_neg (by rw [k_keyE S (by omega)]; exact e), decide_eq_false e, if_pos gB_f0, if_pos rfl, zlet_ok, zcl_ok, if_neg (by decide +kernel), show (zwI Mr 89 51 (nI n)).1 89 51 = nI n by rw [zwI_s, upd_s], c1, c2, zcl_ok, zcl_ok]
          obtain ⟨f3, rfl⟩ : ∃ f3, f2 = f3 + 1 := ⟨f2 - 1, by omega⟩
          exact k_orc P IB hm (by omega) (by omega) (by omega) hi (S1.fr c4 (by decide) c5 (by decide) (by decide)) c3 (KC.fr c4 (by decide)) ((KM.fr f51 (by decide)).fr c5 (by decide)) ho (by omega) (fc.trans (c4.mono (by decide) (by decide))) ((fm.trans (f51.mono (by decide) (by decide))).trans (c5.mono (by decide) (by decide)))
theorem k_cond {tl lim : Nat} {tb : Nat → Nat} {h : zN} {nu : Nat → List Nat} {w dc dr : Nat} (P : gP1 tl lim tb h nu w dc dr) : gP2 tl lim tb h nu w (dc + 1) (dr + 2) := by
  intro n o st K A B k Mc Mr S Z KC KM
  rw [m8_cond, mA_or, mA_and]
  rcases P n o st K A B k Mc Mr S Z KC KM with ⟨n', o', K1, A1, B1, k1, Mc1, Mr1, b1, b2, b3, b4, b5, b6, b7, b8, b9⟩ | ⟨Mc1, Mr1, b1, b2, b3, b4, b5⟩
  · rw [b1, b2, zcl_ok, zcl_ok, if_neg (by decide +kernel), if_neg (by decide +kernel), zlet_ok, b5]
    exact (k_loop P 21 (by omega)).1 n' o' n o 0 zF zF st K1 A1 B1 k1 Mc1 Mr1 Mc Mr (by omega) (by show _ < 5000; omega) (by show _ < 5000; omega) (by omega) b3 b4 (KC.fr b8 (by decide)) (KM.fr b9 (by decide)) b6 b7 b8 b9
  · rw [b1, b2, zcl_ok, zcl_ok, if_pos rfl, if_pos rfl, zcl_ok, if_pos rfl]
    exact Or.inr ⟨Mc1, Mr1, rfl, rfl, b3, b4, b5⟩
