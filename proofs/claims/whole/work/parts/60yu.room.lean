/-! ROOM: the reference's new room, the class's new lab -/
def gCq (i : Nat) (g r : Nat → Int32) : Nat → Int32 := fun j => if j < i then g j else r j
theorem gCq_s {i : Nat} {g r : Nat → Int32} : upd (gCq i g r) i (g i) = gCq (i + 1) g r := by
  funext j
  unfold upd gCq
  by_cases e : j = i
  · subst e; rw [if_pos rfl, if_pos (by omega)]
  · rw [if_neg e]
    by_cases w : j < i
    · rw [if_pos w, if_pos (by omega)]
    · rw [if_neg w, if_neg (by omega)]
theorem gCq_0 {g r : Nat → Int32} : gCq 0 g r = r := by
  funext j
  exact if_neg (by omega)
def gCpL (i : Nat) (g r : Nat → Int64) : Nat → Int64 := fun j => if j < i then g j else r j
theorem gCpL_s {i : Nat} {g r : Nat → Int64} : vp_updL (gCpL i g r) i (g i) = gCpL (i + 1) g r := by
  funext j
  unfold vp_updL gCpL
  by_cases e : j = i
  · subst e; rw [if_pos rfl, if_pos (by omega)]
  · rw [if_neg e]
    by_cases w : j < i
    · rw [if_pos w, if_pos (by omega)]
    · rw [if_neg w, if_neg (by omega)]
theorem gCpL_0 {g r : Nat → Int64} : gCpL 0 g r = r := by
  funext j
  exact if_neg (by omega)
theorem grL_id {M : zMem} {o : Nat} {g : Nat → Int64} (h : M.2 o = g) : zrowL M o g = M := by
  have e := gT_id (o := o) (M := M)
  have e2 : gT o M (M.1 o) (M.2 o) = zrowL (zrowI M o (M.1 o)) o (M.2 o) := rfl
  rw [e2, grI_id rfl, h] at e
  exact e
def gZr (i : Nat) (r : Nat → Int32) : Nat → Int32 := fun j => if 56 ≤ j ∧ j < 56 + i then nI 0 else r j
theorem gZr_s {i : Nat} {r : Nat → Int32} : upd (gZr i r) (56 + i) (nI 0) = gZr (i + 1) r := by
  funext j
  unfold upd gZr
  by_cases e : j = 56 + i
  · rw [if_pos e, if_pos (by omega)]
  · rw [if_neg e]
    by_cases w : 56 ≤ j ∧ j < 56 + i
    · rw [if_pos w, if_pos (by omega)]
    · rw [if_neg w, if_neg (by omega)]
def gZm (i : Nat) (r : Nat → Int32) : Nat → Int32 := fun j => if 72 ≤ j ∧ j < 72 + i then zm1 else r j
theorem gZm_s {i : Nat} {r : Nat → Int32} : upd (gZm i r) (72 + i) zm1 = gZm (i + 1) r := by
  funext j
  unfold upd gZm
  by_cases e : j = 72 + i
  · rw [if_pos e, if_pos (by omega)]
  · rw [if_neg e]
    by_cases w : 72 ≤ j ∧ j < 72 + i
    · rw [if_pos w, if_pos (by omega)]
    · rw [if_neg w, if_neg (by omega)]
theorem gZr_0 {r : Nat → Int32} : gZr 0 r = r := by
  funext j
  exact if_neg (by omega)
theorem gZm_0 {r : Nat → Int32} : gZm 0 r = r := by
  funext j
  exact if_neg (by omega)
def gA0 (h : zN) : zN := fun j => if j = 1 then h 5 else 0
theorem m_startSo {M : zMem} {r : Nat → Int32} : mf_X12_startSo gR 89 (zrowI M 91 r) = some ((), zrowI M 91 (gZm 8 (upd (gZr 298 r) 57 (r 5)))) := by
  have l38 : ∀ g : Nat → Int32, mf_X12_startSo_l38 gR 89 zF (nI 0) (zrowI M 91 g) = some ((), zrowI M 91 (gZm 8 g)) := fun g => by
    have : mf_X12_startSo_l38 gR 89 zF (nI 0) (zrowI M 91 (gZm 0 g)) = some ((), zrowI M 91 (gZm 8 g)) := by
      refine gfor (G := fun f i => mf_X12_startSo_l38 gR 89 f (nI i) (zrowI M 91 (gZm i g))) (n := 8) (fun f i hi => ?_) (fun f => ?_) _ (by first | (show _ < 5000; omega) | omega)
      · rw [mf_X12_startSo_l38]
        simp only [zl_lit, zlet_ok, zl_m1]
        rw [if_neg (by rw [nI_leI (by omega) (by omega)]; omega), nI_add, zald_nI (by omega) (by omega), r89_14, gwI, grI_rI, zrI_s, gZm_s, nI_add]
      · rw [mf_X12_startSo_l38]
        simp only [zl_lit]
        rw [if_pos (by rw [nI_leI (by omega) (by omega)]; omega)]
    rw [gZm_0] at this
    exact this
  have : mf_X12_startSo_l3 gR 89 zF (nI (56 + 0)) (zrowI M 91 (gZr 0 r)) = some ((), zrowI M 91 (gZm 8 (upd (gZr 298 r) 57 (r 5)))) := by
    refine gfor (G := fun f i => mf_X12_startSo_l3 gR 89 f (nI (56 + i)) (zrowI M 91 (gZr i r))) (n := 298) (fun f i hi => ?_) (fun f => ?_) _ (by first | (show _ < 5000; omega) | omega)
    · rw [mf_X12_startSo_l3]
      simp only [zl_lit, zlet_ok]
      rw [if_neg (by rw [nI_leI (by omega) (by omega)]; omega), zald_nI (by omega) (by omega), r89_14, gwI, grI_rI, zrI_s, gZr_s, nI_add]
      try rfl
    · rw [mf_X12_startSo_l3]
      simp only [zl_lit, zlet_ok]
      rw [if_pos (by rw [nI_leI (by omega) (by omega)]; omega), zald_nI (by omega) (by omega), zald_nI (by omega) (by omega), r89_14, zrI_s, gwI, grI_rI, zrI_s, show gZr 298 r 5 = r 5 from if_neg (by omega), l38]
  rw [gZr_0] at this
  unfold mf_X12_startSo
  simp only [zl_lit]
  exact this
theorem gA0_enc {h : zN} {r t : Nat → Int32} (hr : ∀ j, j < 56 → r j = nI (h j)) : gZm 8 (upd (gZr 298 r) 57 (r 5)) = encM h (gA0 h) (fun j => if j < 354 then nI 0 else r j) := by
  funext j
  unfold gZm upd gZr encM gA0
  by_cases w0 : j < 56
  · rw [if_neg (by omega), if_neg (by omega), if_neg (by omega), if_pos w0]
    exact hr j w0
  rw [if_neg w0]
  by_cases w1 : j < 72
  · rw [if_pos w1, if_neg (by omega)]
    by_cases z : j = 57
    · subst z
      rw [if_pos rfl, if_pos rfl]
      exact hr 5 (by omega)
    · rw [if_neg z, if_pos (by omega), if_neg (by omega)]
  rw [if_neg w1]
  by_cases w2 : j < 80
  · rw [if_pos w2, if_pos (by omega), if_neg (by omega)]
    try rfl
  rw [if_neg w2, if_neg (by omega), if_neg (by omega)]
  by_cases w3 : j < 112
  · rw [if_pos w3, if_pos (by omega), if_neg (by omega)]
  rw [if_neg w3]
  by_cases w4 : j < 354
  · rw [if_pos (by omega)]; exact (if_pos w4).symm
  · rw [if_neg (by omega)]; exact (if_neg w4).symm
/-- what the reference makes of what was read -/
theorem m_newRoom {M : zMem} {h : zN} {n : Nat} (hr : ∀ j, j < 56 → M.1 92 j = nI (h j)) : mf_X12_room_l78 gR 89 zF (nI n) (nI 0) M = some (nI n, zwI (zrowI (zrowL (zrowI M 91 (gCq 56 (M.1 92) (M.1 91))) 98 (gCpL 19 (M.2 99) (M.2 98))) 91 (encM h (gA0 h) (fun j => if j < 354 then nI 0 else M.1 91 j))) 89 26 (nI 0)) := by
  have l104 : ∀ M : zMem, mf_X12_room_l104 gR 89 zF (nI n) (nI 0) M = (zcl (mf_X12_startSo gR 89 (zrowL M 98 (gCpL 19 (M.2 99) (M.2 98)))) fun _ M21 => some (nI n, zwI M21 89 26 (nI 0))) := fun M => by
    have : mf_X12_room_l104 gR 89 zF (nI n) (nI 0) (zrowL M 98 (gCpL 0 (M.2 99) (M.2 98))) = (zcl (mf_X12_startSo gR 89 (zrowL M 98 (gCpL 19 (M.2 99) (M.2 98)))) fun _ M21 => some (nI n, zwI M21 89 26 (nI 0))) := by
      refine gfor (G := fun f i => mf_X12_room_l104 gR 89 f (nI n) (nI i) (zrowL M 98 (gCpL i (M.2 99) (M.2 98)))) (n := 19) (fun f i hi => ?_) (fun f => ?_) _ (by first | (show _ < 5000; omega) | omega)
      · rw [mf_X12_room_l104]
        simp only [zl_lit, zlet_ok]
        rw [if_neg (by rw [nI_leI (by omega) (by omega)]; omega), zald_nI (by omega) (by omega), zald_nI (by omega) (by omega), r89_21, r89_22, gwL, grL_rL, zrL_s, zrL_n (by decide), gCpL_s, nI_add]
      · rw [mf_X12_room_l104]
        simp only [zl_lit, zlet_ok]
        rw [if_pos (by rw [nI_leI (by omega) (by omega)]; omega)]
    rw [gCpL_0, grL_id rfl] at this
    exact this
  have : mf_X12_room_l78 gR 89 zF (nI n) (nI 0) (zrowI M 91 (gCq 0 (M.1 92) (M.1 91))) = mf_X12_room_l104 gR 89 zF (nI n) (nI 0) (zrowI M 91 (gCq 56 (M.1 92) (M.1 91))) := by
    refine gfor (G := fun f i => mf_X12_room_l78 gR 89 f (nI n) (nI i) (zrowI M 91 (gCq i (M.1 92) (M.1 91)))) (n := 56) (fun f i hi => ?_) (fun f => ?_) _ (by first | (show _ < 5000; omega) | omega)
    · rw [mf_X12_room_l78]
      simp only [zl_lit, zlet_ok]
      rw [if_neg (by rw [nI_leI (by omega) (by omega)]; omega), zald_nI (by omega) (by omega), zald_nI (by omega) (by omega), r89_14, r89_15, gwI, grI_rI, zrI_s, zrI_n (by decide), gCq_s, nI_add]
    · rw [mf_X12_room_l78]
      simp only [zl_lit]
      rw [if_pos (by rw [nI_leI (by omega) (by omega)]; omega)]
  rw [gCq_0, grI_id rfl, l104] at this
  rw [this]
  have e9 : (zrowL (zrowI M 91 (gCq 56 (M.1 92) (M.1 91))) 98 (gCpL 19 (M.2 99) (M.2 98))).1 91 = gCq 56 (M.1 92) (M.1 91) := by rw [zrL_I, zrI_s]
  have ms := m_startSo (M := zrowL (zrowI M 91 (gCq 56 (M.1 92) (M.1 91))) 98 (gCpL 19 (M.2 99) (M.2 98))) (r := gCq 56 (M.1 92) (M.1 91))
  rw [grI_id e9] at ms
  rw [show (zrowI M 91 (gCq 56 (M.1 92) (M.1 91))).2 = M.2 from rfl, ms, zcl_ok, gA0_enc (h := h) (t := fun _ => nI 0) (fun j hj => by rw [show gCq 56 (M.1 92) (M.1 91) j = M.1 92 j from if_pos hj]; exact hr j hj)]
  have ef : (fun j => if j < 354 then nI 0 else gCq 56 (M.1 92) (M.1 91) j) = (fun j => if j < 354 then nI 0 else M.1 91 j) := by
    funext j
    by_cases w : j < 354
    · rw [if_pos w, if_pos w]
    · rw [if_neg w, if_neg w]
      exact if_neg (by omega)
  rw [ef]
theorem gA_0 {h : zN} (hH : gH h) : gA h (gA0 h) := by
  obtain ⟨k0, k1, k2, k3, k4, k5, kh, kl, ka, kp⟩ := id hH
  have e : ∀ j, j ≠ 1 → gA0 h j = 0 := fun j hj => if_neg hj
  refine ⟨k5, fun b hb => ?_, fun s hs => ⟨?_, ?_, ?_, ?_, ?_, fun _ => ?_⟩⟩
  · rw [e (2 + b) (by omega)]; omega
  · rw [e (8 + s) (by omega)]; omega
  · rw [e (16 + s) (by omega)]; omega
  · rw [e (8 + s) (by omega), e (16 + s) (by omega)]; omega
  · rw [e (24 + s) (by omega)]; omega
  · rw [e (32 + s) (by omega)]; omega
  · exact e (16 + s) (by omega)
theorem gO_0 {h : zN} {c : Nat} : gO c (gA0 h) := by
  have e : ∀ j, j ≠ 1 → gA0 h j = 0 := fun j hj => if_neg hj
  refine ⟨by rw [e 0 (by omega)]; omega, fun s hs => ⟨?_, ?_⟩⟩
  · rw [e (40 + s) (by omega)]; omega
  · rw [e (48 + s) (by omega)]; omega
