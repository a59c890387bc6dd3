/-! IMAGES -/
def gRQ (q : Nat) (h : zN) (M : zMem) : Prop := M.1 q 0 = nI (h 0) ∧ M.1 q 1 = nI (h 1) ∧ M.1 q 2 = nI (h 2) ∧ M.1 q 3 = nI (h 3) ∧ M.1 q 4 = nI (h 4) ∧ M.1 q 5 = nI (h 5) ∧ (∀ b, b < h 0 → M.1 (q + 1) b = nI (h (6 + b))) ∧ (∀ b, b < h 0 → M.1 (q + 2) b = nI (h (12 + b))) ∧ (∀ s, s < h 2 → M.1 (q + 3) s = nI (h (48 + s))) ∧ ∀ p b, p < h 1 → b < h 0 → M.1 (q + 5) (6 * p + b) = nI (h (18 + 6 * p + b))
theorem gRQ_4 {h : zN} {M : zMem} : gRQ 4 h M ↔ gRC h M := Iff.rfl
theorem c_copyRoomQ {p q : Nat} {h : zN} {M : zMem} (hH : gH h) (D : gRQ p h M) (rp : zrf gR p 6 = p + 1 ∧ zrf gR p 7 = p + 2 ∧ zrf gR p 8 = p + 3 ∧ zrf gR p 9 = p + 4 ∧ zrf gR p 10 = p + 5) (rq : zrf gR q 6 = q + 1 ∧ zrf gR q 7 = q + 2 ∧ zrf gR q 8 = q + 3 ∧ zrf gR q 9 = q + 4 ∧ zrf gR q 10 = q + 5) (hpq : p + 6 ≤ q ∨ q + 6 ≤ p) (h89 : q + 6 ≤ 89) : ∃ M1, mf_X7_copyFrom gR q p M = some ((), M1) ∧ gRQ q h M1 ∧ (∀ j, j < 19 → M1.2 (q + 4) j = M.2 (p + 4) j) ∧ gF [q, q + 1, q + 2, q + 3, q + 4, q + 5] [] M M1 := by
  obtain ⟨k0, k1, k2, k3, k4, k5, kh, kl, ka, kp⟩ := id hH
  obtain ⟨d0, d1, d2, d3, d4, d5, d6, d7, d8, d9⟩ := D
  obtain ⟨rp1, rp2, rp3, rp4, rp5⟩ := rp
  obtain ⟨rq1, rq2, rq3, rq4, rq5⟩ := rq
  unfold mf_X7_copyFrom
  simp only [zl_lit, zlet_ok, rp1, rp2, rp3, rp4, rp5, rq1, rq2, rq3, rq4, rq5]
  refine ⟨_, rfl, ⟨?_, ?_, ?_, ?_, ?_, ?_, ?_, ?_, ?_, ?_⟩, ?_, ?_⟩
  · simp (disch := omega) only [zrI_n, zrI_s, zrL_I, zrL_s, zrI_L, zwI_L, zwI_s, zwI_n, upd_s, upd_n]
    exact d0
  · simp (disch := omega) only [zrI_n, zrI_s, zrL_I, zrL_s, zrI_L, zwI_L, zwI_s, zwI_n, upd_s, upd_n]
    exact d1
  · simp (disch := omega) only [zrI_n, zrI_s, zrL_I, zrL_s, zrI_L, zwI_L, zwI_s, zwI_n, upd_s, upd_n]
    exact d2
  · simp (disch := omega) only [zrI_n, zrI_s, zrL_I, zrL_s, zrI_L, zwI_L, zwI_s, zwI_n, upd_s, upd_n]
    exact d3
  · simp (disch := omega) only [zrI_n, zrI_s, zrL_I, zrL_s, zrI_L, zwI_L, zwI_s, zwI_n, upd_s, upd_n]
    exact d4
  · simp (disch := omega) only [zrI_n, zrI_s, zrL_I, zrL_s, zrI_L, zwI_L, zwI_s, zwI_n, upd_s, upd_n]
    exact d5
  · intro b hb
    simp (disch := omega) only [zrI_n, zrI_s, zrL_I, zrL_s, zrI_L, zwI_L, zwI_s, zwI_n, upd_s, upd_n]
    rw [cpyI (by omega) (by omega)]
    exact d6 b hb
  · intro b hb
    simp (disch := omega) only [zrI_n, zrI_s, zrL_I, zrL_s, zrI_L, zwI_L, zwI_s, zwI_n, upd_s, upd_n]
    rw [cpyI (by omega) (by omega)]
    exact d7 b hb
  · intro s hs
    simp (disch := omega) only [zrI_n, zrI_s, zrL_I, zrL_s, zrI_L, zwI_L, zwI_s, zwI_n, upd_s, upd_n]
    rw [cpyI (by omega) (by omega)]
    exact d8 s hs
  · intro i b hi hb
    simp (disch := omega) only [zrI_n, zrI_s, zrL_I, zrL_s, zrI_L, zwI_L, zwI_s, zwI_n, upd_s, upd_n]
    rw [cpyI (by omega) (by omega)]
    exact d9 i b hi hb
  · intro j hj
    simp (disch := omega) only [zrI_n, zrI_s, zrL_I, zrL_s, zrI_L, zwI_L, zwI_s, zwI_n, upd_s, upd_n]
    rw [cpyL (by omega) hj]
  · exact gF.rI (gF.rL (gF.rI (gF.rI (gF.rI (gF.wI (gF.wI (gF.wI (gF.wI (gF.wI (gF.wI gF.r (by simp) (by omega)) (by simp) (by omega)) (by simp) (by omega)) (by simp) (by omega)) (by simp) (by omega)) (by simp) (by omega)) (by simp) (by omega)) (by simp) (by omega)) (by simp) (by omega)) (by simp)) (by simp) (by omega)
/-! the reference's loops -/
def gIq (b n : Nat) (r g : Nat → Int32) : Nat → Int32 := fun j => if b ≤ j ∧ j < b + n then r (j - b) else g j
def gIqL (b n : Nat) (r g : Nat → Int64) : Nat → Int64 := fun j => if b ≤ j ∧ j < b + n then r (j - b) else g j
def gIv (b n : Nat) (r g : Nat → Int32) : Nat → Int32 := fun j => if j < n then r (b + j) else g j
def gIvL (b n : Nat) (r g : Nat → Int64) : Nat → Int64 := fun j => if j < n then r (b + j) else g j
theorem gIq_0 {b : Nat} {r g : Nat → Int32} : gIq b 0 r g = g := by
  funext j
  unfold gIq
  try rw [if_neg (by omega)]
theorem gIqL_0 {b : Nat} {r g : Nat → Int64} : gIqL b 0 r g = g := by
  funext j
  unfold gIqL
  try rw [if_neg (by omega)]
theorem gIv_0 {b : Nat} {r g : Nat → Int32} : gIv b 0 r g = g := by
  funext j
  unfold gIv
  try rw [if_neg (by omega)]
theorem gIvL_0 {b : Nat} {r g : Nat → Int64} : gIvL b 0 r g = g := by
  funext j
  unfold gIvL
  try rw [if_neg (by omega)]
theorem gIq_s {b i : Nat} {r g : Nat → Int32} : upd (gIq b i r g) (b + i) (r i) = gIq b (i + 1) r g := by
  funext j
  unfold upd gIq
  by_cases e : j = b + i
  · rw [if_pos e, if_pos (by omega), show j - b = i by omega]
  · rw [if_neg e]
    by_cases e2 : b ≤ j ∧ j < b + i
    · rw [if_pos e2, if_pos (by omega)]
    · rw [if_neg e2, if_neg (by omega)]
theorem gIqL_s {b i : Nat} {r g : Nat → Int64} : vp_updL (gIqL b i r g) (b + i) (r i) = gIqL b (i + 1) r g := by
  funext j
  unfold vp_updL gIqL
  by_cases e : j = b + i
  · rw [if_pos e, if_pos (by omega), show j - b = i by omega]
  · rw [if_neg e]
    by_cases e2 : b ≤ j ∧ j < b + i
    · rw [if_pos e2, if_pos (by omega)]
    · rw [if_neg e2, if_neg (by omega)]
theorem gIv_s {b i : Nat} {r g : Nat → Int32} : upd (gIv b i r g) i (r (b + i)) = gIv b (i + 1) r g := by
  funext j
  unfold upd gIv
  by_cases e : j = i
  · rw [if_pos e, if_pos (by omega), e]
  · rw [if_neg e]
    by_cases e2 : j < i
    · rw [if_pos e2, if_pos (by omega)]
    · rw [if_neg e2, if_neg (by omega)]
theorem gIvL_s {b i : Nat} {r g : Nat → Int64} : vp_updL (gIvL b i r g) i (r (b + i)) = gIvL b (i + 1) r g := by
  funext j
  unfold vp_updL gIvL
  by_cases e : j = i
  · rw [if_pos e, if_pos (by omega), e]
  · rw [if_neg e]
    by_cases e2 : j < i
    · rw [if_pos e2, if_pos (by omega)]
    · rw [if_neg e2, if_neg (by omega)]
theorem m_im18 {k : Nat} {M : zMem} (hk : k < 2) : mf_X12_image_l18 gR 89 zF (nI k) (nI 0) M = mf_X12_image_l51 gR 89 zF (nI k) (nI 0) (zrowI M 93 (gIq (354 * k) 354 (M.1 91) (M.1 93))) := by
  have key : mf_X12_image_l18 gR 89 zF (nI k) (nI 0) (zrowI M 93 (gIq (354 * k) 0 (M.1 91) (M.1 93))) = mf_X12_image_l51 gR 89 zF (nI k) (nI 0) (zrowI M 93 (gIq (354 * k) 354 (M.1 91) (M.1 93))) := by
    refine gfor (G := fun f i => mf_X12_image_l18 gR 89 f (nI k) (nI i) (zrowI M 93 (gIq (354 * k) i (M.1 91) (M.1 93)))) (n := 354) (fun f i hi => ?_) (fun f => ?_) _ (by show _ < 5000; omega)
    · have e1 : (zrowI M 93 (gIq (354 * k) i (M.1 91) (M.1 93))).1 91 i = M.1 91 i := by rw [zrI_n (by decide)]
      have e2 : zwI (zrowI M 93 (gIq (354 * k) i (M.1 91) (M.1 93))) 93 (354 * k + i) (M.1 91 i) = zrowI M 93 (gIq (354 * k) (i + 1) (M.1 91) (M.1 93)) := by
        rw [← gIq_s]
        unfold zwI
        rw [zrI_s, grI_rI]
      rw [mf_X12_image_l18]
      simp only [zl_lit, zlet_ok, r89_14, r89_16, nI_mulE, nI_add]
      rw [if_neg (by rw [nI_leI (by omega) (by omega)]; omega), zald_nI (by omega) (by omega), zald_nI (by omega) (by omega), e1, e2]
    · rw [mf_X12_image_l18]
      simp only [zl_lit]
      rw [if_pos (by rw [nI_leI (by omega) (by omega)]; omega)]
  rw [gIq_0, grI_id rfl] at key
  exact key
theorem m_im51 {k : Nat} {M : zMem} (hk : k < 2) : mf_X12_image_l51 gR 89 zF (nI k) (nI 0) M = some (nI 1, zwI (zrowL M 100 (gIqL (19 * k) 19 (M.2 98) (M.2 100))) 101 k (nI 1)) := by
  have key : mf_X12_image_l51 gR 89 zF (nI k) (nI 0) (zrowL M 100 (gIqL (19 * k) 0 (M.2 98) (M.2 100))) = some (nI 1, zwI (zrowL M 100 (gIqL (19 * k) 19 (M.2 98) (M.2 100))) 101 k (nI 1)) := by
    refine gfor (G := fun f i => mf_X12_image_l51 gR 89 f (nI k) (nI i) (zrowL M 100 (gIqL (19 * k) i (M.2 98) (M.2 100)))) (n := 19) (fun f i hi => ?_) (fun f => ?_) _ (by show _ < 5000; omega)
    · have e1 : (zrowL M 100 (gIqL (19 * k) i (M.2 98) (M.2 100))).2 98 i = M.2 98 i := by rw [zrL_n (by decide)]
      have e2 : zwL (zrowL M 100 (gIqL (19 * k) i (M.2 98) (M.2 100))) 100 (19 * k + i) (M.2 98 i) = zrowL M 100 (gIqL (19 * k) (i + 1) (M.2 98) (M.2 100)) := by
        rw [← gIqL_s]
        unfold zwL
        rw [zrL_s, grL_rL]
      rw [mf_X12_image_l51]
      simp only [zl_lit, zlet_ok, r89_21, r89_23, nI_mulE, nI_add]
      rw [if_neg (by rw [nI_leI (by omega) (by omega)]; omega), zald_nI (by omega) (by omega), zald_nI (by omega) (by omega), e1, e2]
    · rw [mf_X12_image_l51]
      simp only [zl_lit, zlet_ok, r89_24]
      rw [if_pos (by rw [nI_leI (by omega) (by omega)]; omega), zald_nI (by omega) (by omega)]
  rw [gIqL_0, grL_id rfl] at key
  exact key
theorem m_re27 {k : Nat} {M : zMem} (hk : k < 2) : mf_X12_restore_l27 gR 89 zF (nI k) (nI 0) M = mf_X12_restore_l60 gR 89 zF (nI k) (nI 0) (zrowI M 91 (gIv (354 * k) 354 (M.1 93) (M.1 91))) := by
  have key : mf_X12_restore_l27 gR 89 zF (nI k) (nI 0) (zrowI M 91 (gIv (354 * k) 0 (M.1 93) (M.1 91))) = mf_X12_restore_l60 gR 89 zF (nI k) (nI 0) (zrowI M 91 (gIv (354 * k) 354 (M.1 93) (M.1 91))) := by
    refine gfor (G := fun f i => mf_X12_restore_l27 gR 89 f (nI k) (nI i) (zrowI M 91 (gIv (354 * k) i (M.1 93) (M.1 91)))) (n := 354) (fun f i hi => ?_) (fun f => ?_) _ (by show _ < 5000; omega)
    · have e1 : (zrowI M 91 (gIv (354 * k) i (M.1 93) (M.1 91))).1 93 (354 * k + i) = M.1 93 (354 * k + i) := by rw [zrI_n (by decide)]
      have e2 : zwI (zrowI M 91 (gIv (354 * k) i (M.1 93) (M.1 91))) 91 i (M.1 93 (354 * k + i)) = zrowI M 91 (gIv (354 * k) (i + 1) (M.1 93) (M.1 91)) := by
        rw [← gIv_s]
        unfold zwI
        rw [zrI_s, grI_rI]
      rw [mf_X12_restore_l27]
      simp only [zl_lit, zlet_ok, r89_14, r89_16, nI_mulE, nI_add]
      rw [if_neg (by rw [nI_leI (by omega) (by omega)]; omega), zald_nI (by omega) (by omega), zald_nI (by omega) (by omega), e1, e2]
    · rw [mf_X12_restore_l27]
      simp only [zl_lit]
      rw [if_pos (by rw [nI_leI (by omega) (by omega)]; omega)]
  rw [gIv_0, grI_id rfl] at key
  exact key
theorem m_re60 {k : Nat} {M : zMem} (hk : k < 2) : mf_X12_restore_l60 gR 89 zF (nI k) (nI 0) M = some (nI 1, zwI (zrowL M 98 (gIvL (19 * k) 19 (M.2 100) (M.2 98))) 89 26 (nI 0)) := by
  have key : mf_X12_restore_l60 gR 89 zF (nI k) (nI 0) (zrowL M 98 (gIvL (19 * k) 0 (M.2 100) (M.2 98))) = some (nI 1, zwI (zrowL M 98 (gIvL (19 * k) 19 (M.2 100) (M.2 98))) 89 26 (nI 0)) := by
    refine gfor (G := fun f i => mf_X12_restore_l60 gR 89 f (nI k) (nI i) (zrowL M 98 (gIvL (19 * k) i (M.2 100) (M.2 98)))) (n := 19) (fun f i hi => ?_) (fun f => ?_) _ (by show _ < 5000; omega)
    · have e1 : (zrowL M 98 (gIvL (19 * k) i (M.2 100) (M.2 98))).2 100 (19 * k + i) = M.2 100 (19 * k + i) := by rw [zrL_n (by decide)]
      have e2 : zwL (zrowL M 98 (gIvL (19 * k) i (M.2 100) (M.2 98))) 98 i (M.2 100 (19 * k + i)) = zrowL M 98 (gIvL (19 * k) (i + 1) (M.2 100) (M.2 98)) := by
        rw [← gIvL_s]
        unfold zwL
        rw [zrL_s, grL_rL]
      rw [mf_X12_restore_l60]
      simp only [zl_lit, zlet_ok, r89_21, r89_23, nI_mulE, nI_add]
      rw [if_neg (by rw [nI_leI (by omega) (by omega)]; omega), zald_nI (by omega) (by omega), zald_nI (by omega) (by omega), e1, e2]
    · rw [mf_X12_restore_l60]
      simp only [zl_lit, zlet_ok]
      rw [if_pos (by rw [nI_leI (by omega) (by omega)]; omega)]
  rw [gIvL_0, grL_id rfl] at key
  exact key
