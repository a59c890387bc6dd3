/-! TOKENS: what a run is; the class's next -/
def gLn : List Nat → Nat
  | [] => 0
  | c :: u => gLn u + if gIl c then 1 else 0
def gDec : List Nat → Nat → Nat
  | [], v => v
  | c :: u, v => gDec u (v * 10 + (c - 48))
theorem gLn_le : ∀ {u : List Nat}, gLn u ≤ u.length
  | [] => Nat.le_refl _
  | c :: u => by
    have ih := gLn_le (u := u)
    show gLn u + (if gIl c then 1 else 0) ≤ u.length + 1
    split <;> omega
theorem gLn_all : ∀ {u : List Nat}, gLn u = u.length → ∀ c, c ∈ u → gIl c = true
  | [], _, c, hc => by cases hc
  | d :: u, h, c, hc => by
    have ih := gLn_le (u := u)
    have h2 : gLn u + (if gIl d then 1 else 0) = u.length + 1 := h
    have hd : gIl d = true := by
      cases w : gIl d
      · rw [w] at h2
        rw [if_neg (by decide)] at h2
        omega
      · rfl
    rw [hd, if_pos rfl] at h2
    rcases List.mem_cons.mp hc with e | e
    · rw [e]; exact hd
    · exact gLn_all (by omega) c e
theorem gLn_0 : ∀ {u : List Nat}, gLn u = 0 → ∀ c, c ∈ u → gIl c = false
  | [], _, c, hc => by cases hc
  | d :: u, h, c, hc => by
    have h2 : gLn u + (if gIl d then 1 else 0) = 0 := h
    have hd : gIl d = false := by
      cases w : gIl d
      · rfl
      · rw [w, if_pos rfl] at h2; omega
    rcases List.mem_cons.mp hc with e | e
    · rw [e]; exact hd
    · exact gLn_0 (by omega) c e
theorem gRu_L : ∀ {u : List Nat} {s : Nat × Nat × Int32 × Int64}, (gRu u s).1 = s.1 + gLn u ∧ (gRu u s).1 + (gRu u s).2.1 = s.1 + s.2.1 + u.length
  | [], s => ⟨rfl, rfl⟩
  | c :: u, s => by
    obtain ⟨h1, h2⟩ := gRu_L (u := u) (s := gRs c s)
    have e3 : (c :: u).length = u.length + 1 := rfl
    show (gRu u (gRs c s)).1 = s.1 + (gLn u + if gIl c then 1 else 0) ∧ (gRu u (gRs c s)).1 + (gRu u (gRs c s)).2.1 = s.1 + s.2.1 + (u.length + 1)
    cases w : gIl c
    · have e1 : (gRs c s).1 = s.1 := by unfold gRs; rw [w]; rfl
      have e2 : (gRs c s).2.1 = s.2.1 + 1 := by unfold gRs; rw [w]; rfl
      rw [e1] at h1 h2
      rw [e2] at h2
      rw [if_neg (by decide)]
      omega
    · have e1 : (gRs c s).1 = s.1 + 1 := by unfold gRs; rw [w]; rfl
      have e2 : (gRs c s).2.1 = s.2.1 := by unfold gRs; rw [w]; rfl
      rw [e1] at h1 h2
      rw [e2] at h2
      rw [if_pos rfl]
      omega
def gLet (u : List Nat) : List Nat := u.map (fun c => c - 96)
theorem gRu_w : ∀ {u : List Nat} {s : Nat × Nat × Int32 × Int64} {a : Nat}, (∀ c, c ∈ u → gIl c = true) → s.2.2.2 = lN a → (gRu u s).2.2.2 = lN (gPk 32 (gLet u) a)
  | [], s, a, _, h => h
  | c :: u, s, a, hu, h => by
    have hc := hu c List.mem_cons_self
    have h1 : 97 ≤ c ∧ c ≤ 122 := of_decide_eq_true hc
    refine gRu_w (u := u) (s := gRs c s) (a := a * 32 + (c - 96)) (fun x hx => hu x (List.mem_cons_of_mem _ hx)) ?_
    unfold gRs
    rw [if_pos hc, h, lN_shl, lN_64 (by omega), lN_add, lN_sub (by omega), show a * 32 + c - 96 = a * 32 + (c - 96) by omega]
theorem gRu_n : ∀ {u : List Nat} {s : Nat × Nat × Int32 × Int64} {a : Nat}, (∀ c, c ∈ u → gIl c = false ∧ gId c = true) → s.2.2.1 = nI a → (gRu u s).2.2.1 = nI (gDec u a)
  | [], s, a, _, h => h
  | c :: u, s, a, hu, h => by
    obtain ⟨hc, hd⟩ := hu c List.mem_cons_self
    have h1 : 48 ≤ c ∧ c ≤ 57 := of_decide_eq_true hd
    refine gRu_n (u := u) (s := gRs c s) (a := a * 10 + (c - 48)) (fun x hx => hu x (List.mem_cons_of_mem _ hx)) ?_
    unfold gRs
    rw [hc, if_neg (by decide), h, nI_mulE, nI_add, nI_subE (by omega), show a * 10 + c - 48 = a * 10 + (c - 48) by omega]
theorem gDec_lt : ∀ {u : List Nat} {a : Nat}, (∀ c, c ∈ u → gId c = true) → gDec u a < (a + 1) * 10 ^ u.length
  | [], a, _ => by show a < (a + 1) * 10 ^ 0; rw [Nat.pow_zero]; omega
  | c :: u, a, hu => by
    have h1 : 48 ≤ c ∧ c ≤ 57 := of_decide_eq_true (hu c List.mem_cons_self)
    have ih := gDec_lt (u := u) (a := a * 10 + (c - 48)) (fun x hx => hu x (List.mem_cons_of_mem _ hx))
    show gDec u (a * 10 + (c - 48)) < (a + 1) * 10 ^ (u.length + 1)
    have h2 : (a * 10 + (c - 48) + 1) * 10 ^ u.length ≤ ((a + 1) * 10) * 10 ^ u.length := Nat.mul_le_mul_right _ (by omega)
    rw [Nat.pow_succ, Nat.mul_comm (10 ^ u.length) 10, ← Nat.mul_assoc]
    omega
/-- packed alike, spelt alike -/
def gPq (k : Nat) : List Nat → Nat
  | [] => 0
  | c :: r => gPq k r * k + c
theorem gPq_k {k : Nat} : ∀ {r : List Nat} {w : List Nat}, gPk k w (gPq k r) = gPq k (w.reverse ++ r)
  | r, [] => rfl
  | r, c :: w => by
    rw [List.reverse_cons, List.append_assoc]
    show gPk k w (gPq k (c :: r)) = gPq k (w.reverse ++ (c :: r))
    exact gPq_k
theorem gPq_inj {k : Nat} : ∀ {r s : List Nat}, (∀ c, c ∈ r → 1 ≤ c ∧ c < k) → (∀ c, c ∈ s → 1 ≤ c ∧ c < k) → gPq k r = gPq k s → r = s
  | [], [], _, _, _ => rfl
  | [], d :: s, _, h2, h => by
    have hd := h2 d List.mem_cons_self
    have : 0 = gPq k s * k + d := h
    omega
  | c :: r, [], h1, _, h => by
    have hd := h1 c List.mem_cons_self
    have : gPq k r * k + c = 0 := h
    omega
  | c :: r, d :: s, h1, h2, h => by
    have hc := h1 c List.mem_cons_self
    have hd := h2 d List.mem_cons_self
    have e : gPq k r * k + c = gPq k s * k + d := h
    have e1 : c = d := by
      have := congrArg (· % k) e
      simp only [Nat.mul_add_mod_self_right] at this
      rw [Nat.mod_eq_of_lt hc.2, Nat.mod_eq_of_lt hd.2] at this
      exact this
    have e2 : gPq k r = gPq k s := by
      have hk : 0 < k := by omega
      have : gPq k r * k = gPq k s * k := by omega
      exact Nat.eq_of_mul_eq_mul_right hk this
    rw [e1, gPq_inj (fun x hx => h1 x (List.mem_cons_of_mem _ hx)) (fun x hx => h2 x (List.mem_cons_of_mem _ hx)) e2]
theorem gPk_inj {k : Nat} {w x : List Nat} (h1 : ∀ c, c ∈ w → 1 ≤ c ∧ c < k) (h2 : ∀ c, c ∈ x → 1 ≤ c ∧ c < k) : (gPk k w 0 = gPk k x 0) = (w = x) := by
  refine propext ⟨fun h => ?_, fun h => by rw [h]⟩
  have e1 := gPq_k (k := k) (r := []) (w := w)
  have e2 := gPq_k (k := k) (r := []) (w := x)
  rw [List.append_nil] at e1 e2
  have e3 : gPq k w.reverse = gPq k x.reverse := by rw [← e1, ← e2]; exact h
  have := gPq_inj (fun c hc => h1 c (List.mem_reverse.mp hc)) (fun c hc => h2 c (List.mem_reverse.mp hc)) e3
  have := congrArg List.reverse this
  rw [List.reverse_reverse, List.reverse_reverse] at this
  exact this
theorem gWd_lt {w : List Nat} {k : Nat} (hw : gWd w) (hk : 26 < k) (h64 : k ≤ 32) : gPk k w 0 < 2 ^ 35 := by
  have h1 := gPk_lt (k := k) (w := w) (fun c hc => by have := hw.2.2 c hc; omega)
  have h2 : k ^ w.length ≤ 32 ^ w.length := Nat.pow_le_pow_left h64 _
  have h3 : 32 ^ w.length ≤ 32 ^ 7 := Nat.pow_le_pow_right (by omega) hw.2.1
  have h4 : 32 ^ 7 = 2 ^ 35 := by decide
  omega
theorem gWd_cmp {k : Nat} {w x : List Nat} (hw : gWd w) (hx : gWd x) (hk : 26 < k) (h64 : k ≤ 32) : (lg_cmp (lN (gPk k w 0)) (lN (gPk k x 0)) = nI 0) = (w = x) := by
  have b1 := gWd_lt hw hk h64
  have b2 := gWd_lt hx hk h64
  rw [lN_cmp0 (by omega) (by omega), gPk_inj (fun c hc => by have := hw.2.2 c hc; omega) (fun c hc => by have := hx.2.2 c hc; omega)]
def gKi (w : List Nat) : Nat := gff (fun k => decide (gKw k = w)) 24 0
/-- the class's token: 0 the end, 1 a word, 2 a number, 3 a sign, 4 none -/
def gCt (ka : Nat) (w : List Nat) (v : Nat) (f : Nat → Int32) (g : Nat → Int64) : Prop := (ka = 0 ∧ f 4 = nI 0 ∧ f 5 = zm1) ∨ (ka = 1 ∧ gWd w ∧ g 7 = lN (gPk 32 w 0) ∧ ((gKi w = 24 ∧ f 4 = nI 1 ∧ f 5 = zm1) ∨ (gKi w < 24 ∧ f 4 = nI 2 ∧ f 5 = nI (gKi w)))) ∨ (ka = 2 ∧ v ≤ 999 ∧ f 4 = nI 3 ∧ f 5 = zm1 ∧ f 6 = nI v) ∨ (ka = 3 ∧ gMk v = true ∧ f 4 = nI 4 ∧ f 5 = zm1 ∧ f 6 = nI v) ∨ (ka = 4 ∧ f 4 = nI 5 ∧ f 5 = zm1)
def gSq (tl : Nat) (tb : Nat → Nat) (p : Nat) : Nat := gff (fun j => !gBl (tb j)) (tl - p) p
def gE (tl : Nat) (tb : Nat → Nat) (q : Nat) : Nat := gff (fun j => !(gIl (tb j) || gId (tb j))) (tl - q) q
def gUr (tl : Nat) (tb : Nat → Nat) (q : Nat) : List Nat := gU tb q (gE tl tb q - q)
def gKd0 (u : List Nat) : Nat := if gLn u = u.length ∧ 1 ≤ u.length ∧ u.length ≤ 7 then 1 else if gLn u = 0 ∧ 1 ≤ u.length ∧ u.length ≤ 3 then 2 else 4
def gKd (tl lim : Nat) (tb : Nat → Nat) (q : Nat) : Nat := if lim < tl ∧ lim ≤ q then 4 else if tl ≤ q then 0 else if gMk (tb q) then 3 else gKd0 (gUr tl tb q)
def gKv (tl : Nat) (tb : Nat → Nat) (q : Nat) : Nat := if gMk (tb q) then tb q else gDec (gUr tl tb q) 0
def gKp (tl : Nat) (tb : Nat → Nat) (q : Nat) : Nat := if tl ≤ q then q else if gMk (tb q) then q + 1 else gE tl tb q
def gKl (tl lim q : Nat) : Nat := if lim < tl ∧ lim ≤ q then lim else q
def gFk (ks : List Nat) (f f1 : Nat → Int32) : Prop := ∀ k, k ∉ ks → f1 k = f k
theorem c_kind {L D : Nat} {N : zMem} {F : Nat → Int32} {G : Nat → Int64} (hL : L < 2 ^ 30) (hD : D < 2 ^ 30) : mf_X10_readRun_b114 gR 1 (nI L) (nI D) (gT 1 N F G) = mf_X10_readRun_b161 gR 1 (gT 1 N (upd F 4 (if D = 0 ∧ 1 ≤ L ∧ L ≤ 7 then nI 1 else if L = 0 ∧ 1 ≤ D ∧ D ≤ 3 then nI 3 else nI 5)) G) := by
  unfold mf_X10_readRun_b114 mf_X10_readRun_b142
  simp only [zl_lit, zlet_ok]
  rw [gT_w, gT_w, gT_w, upd_u, upd_u]
  simp (disch := omega) only [nI_eqE, nI_ltE]
  by_cases a1 : D = 0
  · rw [if_pos a1]
    by_cases a2 : L < 1
    · rw [if_pos a2, if_pos (by omega), if_pos (by omega), if_neg (by omega), if_neg (by omega)]
    · rw [if_neg a2]
      by_cases a3 : 7 < L
      · rw [if_pos a3, if_neg (by omega), if_neg (by omega), if_neg (by omega)]
      · rw [if_neg a3, if_pos (by omega)]
  · rw [if_neg a1]
    by_cases a2 : L = 0
    · rw [if_pos a2, if_neg (by omega)]
      by_cases a3 : 3 < D
      · rw [if_pos a3, if_neg (by omega), if_neg (by omega)]
      · rw [if_neg a3, if_neg (by omega), if_pos (by omega)]
    · rw [if_neg a2, if_neg (by omega), if_neg (by omega)]
theorem c_keys {w : List Nat} {N : zMem} {F : Nat → Int32} {G : Nat → Int64} (hw : gWd w) (hk : ∀ k, k < 24 → N.2 3 k = lN (gPk 32 (gKw k) 0)) (h7 : G 7 = lN (gPk 32 w 0)) (h4 : F 4 = nI 1) : mf_X10_readRun_b161 gR 1 (gT 1 N F G) = some ((), gT 1 N (if gKi w = 24 then F else upd (upd F 5 (nI (gKi w))) 4 (nI 2)) G) := by
  have lk : gKi w ≤ 24 := by have := gff_le (fun k => decide (gKw k = w)) 24 0; unfold gKi; omega
  unfold mf_X10_readRun_b161
  simp only [zl_lit]
  refine gfor (G := fun f i => mf_X10_readRun_l163 gR 1 (f + 1) (nI i) (gT 1 N F G)) (n := gKi w) (fun f i hi => ?_) (fun f => ?_) 4999 (by omega)
  · have e := gff_n (p := fun k => decide (gKw k = w)) (n := 24) (k := 0) i (by omega) hi
    have e1 : ¬ gKw i = w := of_decide_eq_false e
    rw [mf_X10_readRun_l163]
    simp only [zl_lit]
    rw [if_neg (by rw [nI_leI (by omega) (by omega)]; omega), gT_r, h4, if_pos rfl, zald_nI (by omega) (by omega), r1_11, gT_Ln (by decide), gT_L, hk i (by omega), h7, if_neg (by rw [gWd_cmp (gKw_w i (by omega)) hw (by omega) (by omega)]; exact e1)]
    unfold mf_X10_readRun_b201
    simp only [zl_lit]
    rw [nI_add]
  · by_cases e : gKi w = 24
    · rw [mf_X10_readRun_l163]
      simp only [zl_lit]
      rw [e, if_pos (by rw [nI_leI (by omega) (by omega)]; omega), if_pos rfl]
    · have e1 := gff_p (p := fun k => decide (gKw k = w)) (n := 24) (k := 0) (by unfold gKi at e lk; omega)
      have e2 : gKw (gKi w) = w := of_decide_eq_true e1
      have e3 : lg_cmp (lN (gPk 32 (gKw (gKi w)) 0)) (lN (gPk 32 w 0)) = nI 0 := by rw [gWd_cmp (gKw_w _ (by omega)) hw (by omega) (by omega)]; exact e2
      rw [if_neg e, mf_X10_readRun_l163]
      simp only [zl_lit, zlet_ok]
      rw [if_neg (by rw [nI_leI (by omega) (by omega)]; omega), gT_r, h4, if_pos rfl, zald_nI (by omega) (by omega), r1_11, gT_Ln (by decide), gT_L, hk _ (by omega), h7, if_pos e3, gT_w, gT_w]
      unfold mf_X10_readRun_b201
      simp only [zl_lit]
      rw [nI_add]
      rw [mf_X10_readRun_l163]
      simp only [zl_lit]
      rw [gT_r, upd_s]
      by_cases e5 : gKi w + 1 = 24
      · rw [if_pos (by rw [nI_leI (by omega) (by omega)]; omega)]
      · rw [if_neg (by rw [nI_leI (by omega) (by omega)]; omega), if_neg (by decide +kernel)]
