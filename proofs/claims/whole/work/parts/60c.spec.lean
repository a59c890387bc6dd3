/-! THE PURE SIDE: what a room and its lab are, as numbers; how they lie in rows -/
abbrev zN : Type := Nat → Nat
def uN (a : zN) (k v : Nat) : zN := fun j => if j = k then v else a j
theorem uN_s {a : zN} {k v : Nat} : uN a k v k = v := if_pos rfl
theorem uN_n {a : zN} {k v j : Nat} (h : j ≠ k) : uN a k v j = a j := if_neg h
/-- a truth value -/
def gB (b : Bool) : Int32 := if b then nI 1 else nI 0
theorem gB_t : gB true = nI 1 := if_pos rfl
theorem gB_f : gB false = nI 0 := if_neg Bool.false_ne_true
theorem gB_0 {b : Bool} : (gB b = nI 0) = (b = false) := by cases b <;> decide +kernel
theorem gB_1 {b : Bool} : (gB b = nI 1) = (b = true) := by cases b <;> decide +kernel
theorem gB_01 {b : Bool} : (gB b = nI 0 ∨ gB b = nI 1) = True := by cases b <;> decide +kernel
theorem gB_1e {b : Bool} : (nI 1 = gB b) = (b = true) := by cases b <;> decide +kernel
theorem zchk_t {α : Type} {K : Option α} {d : Decidable True} : @zchk α True d K = K := by unfold zchk; exact if_pos trivial
theorem nI01 : (nI 0 = nI 0 ∨ nI 0 = nI 1) = True := by decide +kernel
theorem gwI {M : zMem} {o k : Nat} {v : Int32} : zwI M o k v = zrowI M o (upd (M.1 o) k v) := id rfl
theorem gwL {M : zMem} {o k : Nat} {v : Int64} : zwL M o k v = zrowL M o (vp_updL (M.2 o) k v) := id rfl
theorem grI_rI {M : zMem} {o : Nat} {g g' : Nat → Int32} : zrowI (zrowI M o g) o g' = zrowI M o g' := by
  unfold zrowI
  refine Prod.ext (funext fun a => ?_) rfl
  show (if a = o then g' else if a = o then g else M.1 a) = if a = o then g' else M.1 a
  by_cases h : a = o <;> simp [h]
theorem grL_rL {M : zMem} {o : Nat} {g g' : Nat → Int64} : zrowL (zrowL M o g) o g' = zrowL M o g' := by
  unfold zrowL
  refine Prod.ext rfl (funext fun a => ?_)
  show (if a = o then g' else if a = o then g else M.2 a) = if a = o then g' else M.2 a
  by_cases h : a = o <;> simp [h]
theorem grI_id {M : zMem} {o : Nat} {g : Nat → Int32} (h : M.1 o = g) : zrowI M o g = M := by
  unfold zrowI
  refine Prod.ext (funext fun a => ?_) rfl
  show (if a = o then g else M.1 a) = M.1 a
  by_cases e : a = o
  · rw [if_pos e, e, h]
  · rw [if_neg e]
/-- a loop that counts up to n (or stops there) -/
theorem gfor {ρ : Type} {G : Nat → Nat → Option ρ} {n : Nat} {r : Option ρ} (hstep : ∀ f i, i < n → G (f + 1) i = G f (i + 1)) (hend : ∀ f, G (f + 1) n = r) : ∀ f, n < f → G f 0 = r := by
  have key : ∀ k f, k ≤ n → k < f → G f (n - k) = r := by
    intro k
    induction k with
    | zero => intro f _ hf; match f, hf with | f + 1, _ => exact hend f
    | succ k ih =>
      intro f hk hf
      match f, hf with
      | f + 1, hf =>
        rw [hstep f (n - (k + 1)) (by omega), show n - (k + 1) + 1 = n - k by omega]
        exact ih f (by omega) (by omega)
  intro f hf
  have := key n f (Nat.le_refl n) hf
  rwa [Nat.sub_self] at this
/-- a loop that counts down from n -/
theorem gdown {ρ : Type} {G : Nat → Nat → Option ρ} {r : Option ρ} : ∀ {n : Nat}, (∀ f i, i < n → G (f + 1) (i + 1) = G f i) → (∀ f, G (f + 1) 0 = r) → ∀ f, n < f → G f n = r
  | 0, _, he, f, hf => match f, hf with | f + 1, _ => he f
  | n + 1, hs, he, f, hf => match f, hf with
    | f + 1, hf => by
      rw [hs f n (Nat.lt_succ_self n)]
      exact gdown (n := n) (fun f i hi => hs f i (by omega)) he f (by omega)
/-- a function n times, on 0, 1, .. -/
def gFo {α : Type} (f : Nat → α → α) : Nat → α → α
  | 0, x => x
  | n + 1, x => f n (gFo f n x)
/-- on n - 1, .., 0 -/
def gFd {α : Type} (f : Nat → α → α) : Nat → α → α
  | 0, x => x
  | n + 1, x => gFd f n (f n x)
theorem gFo_cong {α : Type} {f g : Nat → α → α} : ∀ {n : Nat} {x : α}, (∀ k, k < n → ∀ y, f k y = g k y) → gFo f n x = gFo g n x
  | 0, _, _ => rfl
  | n + 1, x, h => by rw [gFo, gFo, gFo_cong (fun k hk y => h k (Nat.lt_succ_of_lt hk) y), h n (Nat.lt_succ_self n)]
theorem gFo_inv {α : Type} {f : Nat → α → α} {P : α → Prop} : ∀ {n : Nat} {x : α}, (∀ k, k < n → ∀ y, P y → P (f k y)) → P x → P (gFo f n x)
  | 0, _, _, h => h
  | n + 1, _, hs, h => hs n (Nat.lt_succ_self n) _ (gFo_inv (fun k hk y hy => hs k (Nat.lt_succ_of_lt hk) y hy) h)
theorem gFd_inv {α : Type} {f : Nat → α → α} {P : α → Prop} : ∀ {n : Nat} {x : α}, (∀ k, k < n → ∀ y, P y → P (f k y)) → P x → P (gFd f n x)
  | 0, _, _, h => h
  | n + 1, _, hs, h => gFd_inv (n := n) (fun k hk y hy => hs k (Nat.lt_succ_of_lt hk) y hy) (hs n (Nat.lt_succ_self n) _ h)
/-- the first of k, k + 1, .., k + n - 1 of which p is so; k + n: none -/
def gff (p : Nat → Bool) : Nat → Nat → Nat
  | 0, k => k
  | n + 1, k => if p k then k else gff p n (k + 1)
theorem gff_le (p : Nat → Bool) : ∀ n k, k ≤ gff p n k ∧ gff p n k ≤ k + n
  | 0, k => ⟨Nat.le_refl k, Nat.le_refl k⟩
  | n + 1, k => by
    unfold gff
    split
    · omega
    · have := gff_le p n (k + 1); omega
theorem gff_p {p : Nat → Bool} : ∀ {n k : Nat}, gff p n k < k + n → p (gff p n k) = true
  | 0, k, h => by unfold gff at h; omega
  | n + 1, k, h => by
    unfold gff at h ⊢
    split at h
    · rename_i hp; rw [if_pos hp]; exact hp
    · rename_i hp; rw [if_neg hp]; exact gff_p (n := n) (k := k + 1) (by omega)
theorem gff_n {p : Nat → Bool} : ∀ {n k : Nat} (j : Nat), k ≤ j → j < gff p n k → p j = false
  | 0, k, j, h1, h2 => by unfold gff at h2; omega
  | n + 1, k, j, h1, h2 => by
    unfold gff at h2
    split at h2
    · omega
    · rename_i hp
      by_cases e : j = k
      · subst e; exact Bool.eq_false_iff.mpr hp
      · exact gff_n (n := n) (k := k + 1) j (by omega) h2
theorem gff_cong {p q : Nat → Bool} : ∀ {n k : Nat}, (∀ j, k ≤ j → j < k + n → p j = q j) → gff p n k = gff q n k
  | 0, _, _ => rfl
  | n + 1, k, h => by
    rw [gff, gff, h k (Nat.le_refl k) (by omega), gff_cong (n := n) (k := k + 1) (fun j h1 h2 => h j (by omega) (by omega))]
/-- a sum -/
def gsm (f : Nat → Nat) : Nat → Nat
  | 0 => 0
  | n + 1 => gsm f n + f n
theorem gsm_cong {f g : Nat → Nat} : ∀ {n : Nat}, (∀ k, k < n → f k = g k) → gsm f n = gsm g n
  | 0, _ => rfl
  | n + 1, h => by rw [gsm, gsm, gsm_cong (fun k hk => h k (Nat.lt_succ_of_lt hk)), h n (Nat.lt_succ_self n)]
theorem gsm_le {f : Nat → Nat} {m : Nat} : ∀ {n : Nat}, (∀ k, k < n → f k ≤ m) → gsm f n ≤ n * m
  | 0, _ => by simp [gsm]
  | n + 1, h => by
    have h1 := gsm_le (n := n) (fun k hk => h k (Nat.lt_succ_of_lt hk))
    have h2 := h n (Nat.lt_succ_self n)
    rw [gsm, Nat.succ_mul]
    omega
/-! bits -/
theorem gbN_set {p : Nat → Bool} {n m : Nat} (h : n ≤ m) (hp : ∀ k, n ≤ k → k < m → p k = false) : gbN p m = gbN p n := by
  induction m with
  | zero => rw [show n = 0 by omega]
  | succ m ih =>
    by_cases e : n = m + 1
    · rw [e]
    · rw [gbN, hp m (by omega) (by omega), ih (by omega) (fun k h1 h2 => hp k h1 (by omega))]
      try rfl
theorem nI_or (x y : Nat) : nI x ||| nI y = nI (x ||| y) := by
  unfold nI Int32.ofNat
  show Int32.ofBitVec (BitVec.ofNat 32 x ||| BitVec.ofNat 32 y) = Int32.ofBitVec (BitVec.ofNat 32 (x ||| y))
  rw [BitVec.ofNat_or]
theorem nI_and (x y : Nat) : nI x &&& nI y = nI (x &&& y) := by
  unfold nI Int32.ofNat
  show Int32.ofBitVec (BitVec.ofNat 32 x &&& BitVec.ofNat 32 y) = Int32.ofBitVec (BitVec.ofNat 32 (x &&& y))
  rw [BitVec.ofNat_and]
theorem nI_shl : ∀ s, s < 31 → nI 1 <<< (nI s &&& nI 31) = nI (2 ^ s) := by decide +kernel
theorem nI_shr8 : ∀ s, s < 8 → ∀ x, x < 256 → nI x >>> (nI s &&& nI 31) = nI (x / 2 ^ s) := by decide +kernel
theorem nI_shr8b : ∀ s, s < 8 → ∀ x, x < 256 → nI x >>> nI (s &&& 31) = nI (x / 2 ^ s) := by decide +kernel
theorem gb_or {x s : Nat} (hs : s < 31) (hx : x < 2 ^ s) : nI x ||| (nI 1 <<< (nI s &&& nI 31)) = nI (x + 2 ^ s) := by
  rw [nI_shl s hs, nI_or, Nat.or_comm, show x + 2 ^ s = 2 ^ s * 1 + x by omega, Nat.two_pow_add_eq_or_of_lt hx 1, Nat.mul_one]
theorem gbN_or {p : Nat → Bool} {i : Nat} (hi : i < 31) : nI (gbN p i) ||| (nI 1 <<< (nI i &&& nI 31)) = nI (gbN p i + 2 ^ i) := gb_or hi (gbN_lt p i)
theorem gbN_256 {p : Nat → Bool} {n : Nat} (h : n ≤ 8) : gbN p n < 256 := Nat.lt_of_lt_of_le (gbN_lt p n) (Nat.pow_le_pow_right (by decide) h)
/-- how many bits of the first eight are set -/
def gpc (x : Nat) : Nat := x % 2 + x / 2 % 2 + x / 4 % 2 + x / 8 % 2 + x / 16 % 2 + x / 32 % 2 + x / 64 % 2 + x / 128 % 2
theorem gpc_le (x : Nat) : gpc x ≤ 8 := by unfold gpc; omega
theorem gclr8 : ∀ s, s < 8 → ∀ x, x < 256 → nI x &&& ((nI 1 <<< (nI s &&& nI 31)) ^^^ zm1) = nI (x &&& (255 - 2 ^ s)) := by decide +kernel
theorem gset8 : ∀ s, s < 8 → ∀ x, x < 256 → nI x ||| (nI 1 <<< (nI s &&& nI 31)) = nI (x ||| 2 ^ s) := by decide +kernel
theorem gmask8 : ∀ n, n < 9 → (nI 1 <<< (nI n &&& nI 31)) - nI 1 = nI (2 ^ n - 1) := by decide +kernel
theorem gbN_all : ∀ n, gbN (fun _ => true) n = 2 ^ n - 1
  | 0 => rfl
  | n + 1 => by
    have h : 0 < 2 ^ n := Nat.two_pow_pos n
    rw [gbN, gbN_all n, if_pos rfl, Nat.pow_succ]; omega
theorem gb_ext {x y : Nat} (hx : x < 256) (hy : y < 256) (h : ∀ k, k < 8 → x.testBit k = y.testBit k) : x = y := by
  apply Nat.eq_of_testBit_eq
  intro i
  by_cases hi : i < 8
  · exact h i hi
  · have h8 : 256 ≤ 2 ^ i := Nat.le_trans (by decide) (Nat.pow_le_pow_right (by decide) (show 8 ≤ i by omega))
    rw [Nat.testBit_lt_two_pow (by omega), Nat.testBit_lt_two_pow (by omega)]
theorem gm255 : ∀ s, s < 8 → ∀ k, k < 8 → (255 - 2 ^ s).testBit k = !decide (k = s) := by decide +kernel
theorem gp2_8 : ∀ s, s < 8 → ∀ k, k < 8 → (2 ^ s).testBit k = decide (k = s) := by decide +kernel
theorem gbN_clr {p q : Nat → Bool} {s : Nat} (hs : s < 8) (h : ∀ k, k < 8 → q k = (p k && !decide (k = s))) : gbN p 8 &&& (255 - 2 ^ s) = gbN q 8 := by
  refine gb_ext (Nat.lt_of_le_of_lt Nat.and_le_left (gbN_256 (Nat.le_refl 8))) (gbN_256 (Nat.le_refl 8)) (fun k hk => ?_)
  rw [Nat.testBit_and, gbN_bit, gbN_bit, gm255 s hs k hk, h k hk]
  simp [hk]
theorem gbN_setb {p q : Nat → Bool} {s : Nat} (hs : s < 8) (h : ∀ k, k < 8 → q k = (p k || decide (k = s))) : gbN p 8 ||| 2 ^ s = gbN q 8 := by
  refine gb_ext (Nat.or_lt_two_pow (n := 8) (gbN_256 (Nat.le_refl 8)) (Nat.pow_lt_pow_right (by decide) hs)) (gbN_256 (Nat.le_refl 8)) (fun k hk => ?_)
  rw [Nat.testBit_or, gbN_bit, gbN_bit, gp2_8 s hs k hk, h k hk]
  simp [hk]
theorem gbN_div {p : Nat → Bool} {n s : Nat} (hs : s < n) : gbN p n / 2 ^ s % 2 = if p s then 1 else 0 := by
  have h := gbN_bit p n s
  rw [Nat.testBit_eq_decide_div_mod_eq] at h
  have h2 : gbN p n / 2 ^ s % 2 < 2 := Nat.mod_lt _ (by decide)
  cases hp : p s
  · simp [hp] at h; simp; omega
  · simp [hp, hs] at h; simp; omega
/-! A ROOM: 0 baths, 1 papers, 2 sheets, 3 spare, 4 weak, 5 fresh, 6 + b holds, 12 + b lasts, 18 + 6 p + b asked, 48 + s its paper.
A LAB: 0 minute, 1 fresh yet, 2 + b had, 8 + s how, 16 + s its bath and 1 (0: none), 24 + s left, 32 + s over here, 40 + s over, 48 + s tries. -/
def gAsk (h : zN) (s b : Nat) : Nat := h (18 + 6 * h (48 + s) + b)
def gNx (h : zN) (s k : Nat) : Nat := gff (fun b => decide (0 < gAsk h s b)) (h 0 - k) k
def gIn (a : zN) (b : Nat) : Nat := gbN (fun s => decide (a (16 + s) = b + 1)) 8
def gOpen (h a : zN) (b : Nat) : Bool := decide (gpc (gIn a b) < h (6 + b)) && decide (a (2 + b) < h (12 + b))
def gGo (a : zN) (s how : Nat) : zN := uN (uN (uN (uN a (8 + s) how) (16 + s) 0) (24 + s) 0) (32 + s) 0
def gEnt (h a : zN) (s b : Nat) : zN := uN (uN (uN (uN (uN a (8 + s) 1) (16 + s) (b + 1)) (24 + s) (gAsk h s b + if 2 * a (2 + b) < h (12 + b) then 0 else h 4)) (32 + s) 0) (2 + b) (a (2 + b) + 1)
def gSt (h a : zN) (s : Nat) : zN :=
  if gNx h s 0 = h 0 then gGo (uN (uN a (40 + s) 0) (48 + s) (a (48 + s) + 1)) s 2 else gEnt h (uN (uN a (40 + s) 0) (48 + s) (a (48 + s) + 1)) s (gNx h s 0)
def gWhyS (h a : zN) (s : Nat) : Nat := if a (8 + s) = 0 then (if gNx h s 0 = h 0 then 0 else if gOpen h a (gNx h s 0) = false then 2 else 0) else 1
def gWhyR (a : zN) (b : Nat) : Nat := if a (2 + b) = 0 then 1 else if a 1 = 0 then 2 else if gIn a b = 0 then 0 else 3
def gRen (a : zN) (b : Nat) : zN := uN (uN a (2 + b) 0) 1 (a 1 - 1)
def gWk1 (h a : zN) (s b : Nat) : zN :=
  if a (24 + s) = 0 then
    (if gNx h s (b + 1) = h 0 then gGo a s 2
     else if gOpen h a (gNx h s (b + 1)) = false then
      (if a (32 + s) = h 3 then gGo a s 3 else uN (uN a (32 + s) (a (32 + s) + 1)) (40 + s) (a (40 + s) + 1))
     else gEnt h a s (gNx h s (b + 1)))
  else a
def gWk (h a : zN) (s b : Nat) : zN := if a (24 + s) = 0 then gWk1 h a s b else gWk1 h (uN a (24 + s) (a (24 + s) - 1)) s b
def gMs (h : zN) (b s : Nat) (a : zN) : zN := if a (16 + s) = b + 1 then gWk h a s b else a
def gMb (h : zN) (b : Nat) (a : zN) : zN := gFo (gMs h b) (h 2) a
def gMin (h a : zN) : zN := uN (gFd (gMb h) (h 0) a) 0 ((gFd (gMb h) (h 0) a) 0 + 1)
def gPass (h : zN) : Nat → zN → zN
  | 0, a => a
  | n + 1, a => gPass h n (gMin h a)
def gTh (h a : zN) (how : Nat) : Nat := gbN (fun s => decide (a (8 + s) = how)) (h 2)
/-- what is so of a room -/
def gH (h : zN) : Prop := h 0 ≤ 6 ∧ h 1 ≤ 5 ∧ h 2 ≤ 8 ∧ h 3 ≤ 9 ∧ h 4 ≤ 9 ∧ h 5 ≤ 99 ∧ (∀ b, b < h 0 → 1 ≤ h (6 + b) ∧ h (6 + b) ≤ 4) ∧ (∀ b, b < h 0 → 1 ≤ h (12 + b) ∧ h (12 + b) ≤ 99) ∧ (∀ p b, p < h 1 → b < h 0 → h (18 + 6 * p + b) ≤ 30) ∧ ∀ s, s < h 2 → h (48 + s) < h 1
/-- what is so of a lab -/
def gAs (h a : zN) (s : Nat) : Prop := a (8 + s) ≤ 3 ∧ a (16 + s) ≤ h 0 ∧ (a (8 + s) = 1 ↔ a (16 + s) ≠ 0) ∧ a (24 + s) ≤ 39 ∧ a (32 + s) ≤ h 3 ∧ (h 2 ≤ s → a (16 + s) = 0)
def gA (h a : zN) : Prop := a 1 ≤ 99 ∧ (∀ b, b < h 0 → a (2 + b) ≤ h (12 + b)) ∧ ∀ s, s < 8 → gAs h a s
/-- how they lie in rows -/
def enI (v : Nat) : Int32 := if v = 0 then zm1 else nI (v - 1)
theorem enI_0 : enI 0 = zm1 := if_pos rfl
theorem enI_s (v : Nat) : enI (v + 1) = nI v := by unfold enI; rw [if_neg (by omega), Nat.add_sub_cancel]
theorem enI_eq {v b : Nat} (hv : v < 2 ^ 30) (hb : b < 2 ^ 30) : (enI v = nI b) = (v = b + 1) := by
  unfold enI
  split
  · rename_i e; rw [zm1_ne' (by omega), e]; exact (eq_false (by omega)).symm
  · rw [nI_eqE (by omega) (by omega)]; exact propext (by omega)
theorem enI_neg {v : Nat} (hv : v < 2 ^ 30) : (enI v < nI 0) = (v = 0) := by
  unfold enI
  split
  · rename_i e; rw [zm1_lt' (by omega), e]; exact (eq_true rfl).symm
  · rw [nI_ltE (by omega) (by omega)]; exact propext (by omega)
theorem enI_ge {v b : Nat} (hv : v < 2 ^ 30) (hb : b < 2 ^ 30) : (nI b ≤ enI v) = (b + 1 ≤ v) := by
  unfold enI
  split
  · rename_i e; rw [zm1_nle' (by omega), e]; exact (eq_false (by omega)).symm
  · rw [nI_leE (by omega) (by omega)]; exact propext (by omega)
def encM (h a : zN) (t : Nat → Int32) : Nat → Int32 := fun j => if j < 56 then nI (h j) else if j < 72 then nI (a (j - 56)) else if j < 80 then enI (a (j - 56)) else if j < 112 then nI (a (j - 56)) else t j
def encC (a i : zN) (z : Nat → Int32) : Nat → Int32 := fun j => if j < 6 then nI (a (2 + j)) else if j < 12 then nI (i (j - 6)) else if j < 20 then nI (a (j - 4)) else if j < 28 then enI (a (j - 4)) else if j < 60 then nI (a (j - 4)) else if j = 60 then nI (a 0) else if j = 61 then nI (a 1) else z j
def eC (a : zN) (z : Nat → Int32) : Nat → Int32 := encC a (gIn a) z
theorem eM_h {h a : zN} {t : Nat → Int32} {j : Nat} (hj : j < 56) : encM h a t j = nI (h j) := by unfold encM; rw [if_pos hj]
theorem eM_a {h a : zN} {t : Nat → Int32} {k : Nat} (hk : k < 16 ∨ (24 ≤ k ∧ k < 56)) : encM h a t (56 + k) = nI (a k) := by
  unfold encM
  try rw [if_neg (by omega)]
  by_cases h1 : k < 16
  · rw [if_pos (by omega), Nat.add_sub_cancel_left]
  · rw [if_neg (by omega), if_neg (by omega), if_pos (by omega), Nat.add_sub_cancel_left]
theorem eM_in {h a : zN} {t : Nat → Int32} {s : Nat} (hs : s < 8) : encM h a t (72 + s) = enI (a (16 + s)) := by
  unfold encM
  rw [if_neg (by omega), if_neg (by omega), if_pos (by omega), show 72 + s - 56 = 16 + s by omega]
theorem eM_had {h a : zN} {t : Nat → Int32} {b : Nat} (hb : b < 6) : encM h a t (58 + b) = nI (a (2 + b)) := by
  have := eM_a (h := h) (a := a) (t := t) (k := 2 + b) (by omega)
  rwa [show 56 + (2 + b) = 58 + b by omega] at this
theorem eM_how {h a : zN} {t : Nat → Int32} {s : Nat} (hs : s < 8) : encM h a t (64 + s) = nI (a (8 + s)) := by
  have := eM_a (h := h) (a := a) (t := t) (k := 8 + s) (by omega)
  rwa [show 56 + (8 + s) = 64 + s by omega] at this
theorem eM_left {h a : zN} {t : Nat → Int32} {s : Nat} (hs : s < 8) : encM h a t (80 + s) = nI (a (24 + s)) := by
  have := eM_a (h := h) (a := a) (t := t) (k := 24 + s) (by omega)
  rwa [show 56 + (24 + s) = 80 + s by omega] at this
theorem eM_here {h a : zN} {t : Nat → Int32} {s : Nat} (hs : s < 8) : encM h a t (88 + s) = nI (a (32 + s)) := by
  have := eM_a (h := h) (a := a) (t := t) (k := 32 + s) (by omega)
  rwa [show 56 + (32 + s) = 88 + s by omega] at this
theorem eM_over {h a : zN} {t : Nat → Int32} {s : Nat} (hs : s < 8) : encM h a t (96 + s) = nI (a (40 + s)) := by
  have := eM_a (h := h) (a := a) (t := t) (k := 40 + s) (by omega)
  rwa [show 56 + (40 + s) = 96 + s by omega] at this
theorem eM_tries {h a : zN} {t : Nat → Int32} {s : Nat} (hs : s < 8) : encM h a t (104 + s) = nI (a (48 + s)) := by
  have := eM_a (h := h) (a := a) (t := t) (k := 48 + s) (by omega)
  rwa [show 56 + (48 + s) = 104 + s by omega] at this
theorem eM_min {h a : zN} {t : Nat → Int32} : encM h a t 56 = nI (a 0) := eM_a (k := 0) (by omega)
theorem eM_can {h a : zN} {t : Nat → Int32} : encM h a t 57 = nI (a 1) := eM_a (k := 1) (by omega)
theorem wM_a {h a : zN} {t : Nat → Int32} {k v : Nat} (hk : k < 16 ∨ (24 ≤ k ∧ k < 56)) : upd (encM h a t) (56 + k) (nI v) = encM h (uN a k v) t := by
  funext j
  unfold upd encM
  by_cases e : j = 56 + k
  · subst e
    rw [if_pos rfl, if_neg (by omega)]
    by_cases h1 : k < 16
    · rw [if_pos (by omega), Nat.add_sub_cancel_left, uN_s]
    · rw [if_neg (by omega), if_neg (by omega), if_pos (by omega), Nat.add_sub_cancel_left, uN_s]
  · rw [if_neg e]
    by_cases h1 : j < 56
    · rw [if_pos h1, if_pos h1]
    · rw [uN_n (show j - 56 ≠ k by omega)]
theorem wM_in {h a : zN} {t : Nat → Int32} {s v : Nat} (hs : s < 8) : upd (encM h a t) (72 + s) (enI v) = encM h (uN a (16 + s) v) t := by
  funext j
  unfold upd encM
  by_cases e : j = 72 + s
  · subst e
    rw [if_pos rfl, if_neg (by omega), if_neg (by omega), if_pos (by omega), show 72 + s - 56 = 16 + s by omega, uN_s]
  · rw [if_neg e]
    by_cases h1 : j < 56
    · rw [if_pos h1, if_pos h1]
    · rw [uN_n (show j - 56 ≠ 16 + s by omega)]
theorem wM_out {h a : zN} {t : Nat → Int32} {s : Nat} (hs : s < 8) : upd (encM h a t) (72 + s) zm1 = encM h (uN a (16 + s) 0) t := wM_in hs (v := 0)
theorem wM_into {h a : zN} {t : Nat → Int32} {s b : Nat} (hs : s < 8) : upd (encM h a t) (72 + s) (nI b) = encM h (uN a (16 + s) (b + 1)) t := by rw [← enI_s b]; exact wM_in hs
theorem wM_had {h a : zN} {t : Nat → Int32} {b v : Nat} (hb : b < 6) : upd (encM h a t) (58 + b) (nI v) = encM h (uN a (2 + b) v) t := by
  rw [show 58 + b = 56 + (2 + b) by omega]; exact wM_a (by omega)
theorem wM_how {h a : zN} {t : Nat → Int32} {s v : Nat} (hs : s < 8) : upd (encM h a t) (64 + s) (nI v) = encM h (uN a (8 + s) v) t := by
  rw [show 64 + s = 56 + (8 + s) by omega]; exact wM_a (by omega)
theorem wM_left {h a : zN} {t : Nat → Int32} {s v : Nat} (hs : s < 8) : upd (encM h a t) (80 + s) (nI v) = encM h (uN a (24 + s) v) t := by
  rw [show 80 + s = 56 + (24 + s) by omega]; exact wM_a (by omega)
theorem wM_here {h a : zN} {t : Nat → Int32} {s v : Nat} (hs : s < 8) : upd (encM h a t) (88 + s) (nI v) = encM h (uN a (32 + s) v) t := by
  rw [show 88 + s = 56 + (32 + s) by omega]; exact wM_a (by omega)
theorem wM_over {h a : zN} {t : Nat → Int32} {s v : Nat} (hs : s < 8) : upd (encM h a t) (96 + s) (nI v) = encM h (uN a (40 + s) v) t := by
  rw [show 96 + s = 56 + (40 + s) by omega]; exact wM_a (by omega)
theorem wM_tries {h a : zN} {t : Nat → Int32} {s v : Nat} (hs : s < 8) : upd (encM h a t) (104 + s) (nI v) = encM h (uN a (48 + s) v) t := by
  rw [show 104 + s = 56 + (48 + s) by omega]; exact wM_a (by omega)
theorem wM_min {h a : zN} {t : Nat → Int32} {v : Nat} : upd (encM h a t) 56 (nI v) = encM h (uN a 0 v) t := wM_a (k := 0) (by omega)
theorem wM_can {h a : zN} {t : Nat → Int32} {v : Nat} : upd (encM h a t) 57 (nI v) = encM h (uN a 1 v) t := wM_a (k := 1) (by omega)
theorem eC_had {a i : zN} {z : Nat → Int32} {b : Nat} (hb : b < 6) : encC a i z b = nI (a (2 + b)) := by unfold encC; rw [if_pos hb]
theorem eC_ins {a i : zN} {z : Nat → Int32} {b : Nat} (hb : b < 6) : encC a i z (6 + b) = nI (i b) := by
  unfold encC; rw [if_neg (by omega), if_pos (by omega), Nat.add_sub_cancel_left]
theorem eC_a {a i : zN} {z : Nat → Int32} {k : Nat} (hk : (8 ≤ k ∧ k < 16) ∨ (24 ≤ k ∧ k < 56)) : encC a i z (k + 4) = nI (a k) := by
  unfold encC
  try rw [if_neg (by omega)]
  try rw [if_neg (by omega)]
  by_cases h1 : k < 16
  · rw [if_pos (by omega), Nat.add_sub_cancel]
  · rw [if_neg (by omega), if_neg (by omega), if_pos (by omega), Nat.add_sub_cancel]
theorem eC_how {a i : zN} {z : Nat → Int32} {s : Nat} (hs : s < 8) : encC a i z (12 + s) = nI (a (8 + s)) := by
  rw [show 12 + s = 8 + s + 4 by omega]; exact eC_a (by omega)
theorem eC_whe {a i : zN} {z : Nat → Int32} {s : Nat} (hs : s < 8) : encC a i z (20 + s) = enI (a (16 + s)) := by
  unfold encC
  rw [if_neg (by omega), if_neg (by omega), if_neg (by omega), if_pos (by omega), show 20 + s - 4 = 16 + s by omega]
theorem eC_left {a i : zN} {z : Nat → Int32} {s : Nat} (hs : s < 8) : encC a i z (28 + s) = nI (a (24 + s)) := by
  rw [show 28 + s = 24 + s + 4 by omega]; exact eC_a (by omega)
theorem eC_here {a i : zN} {z : Nat → Int32} {s : Nat} (hs : s < 8) : encC a i z (36 + s) = nI (a (32 + s)) := by
  rw [show 36 + s = 32 + s + 4 by omega]; exact eC_a (by omega)
theorem eC_over {a i : zN} {z : Nat → Int32} {s : Nat} (hs : s < 8) : encC a i z (44 + s) = nI (a (40 + s)) := by
  rw [show 44 + s = 40 + s + 4 by omega]; exact eC_a (by omega)
theorem eC_tries {a i : zN} {z : Nat → Int32} {s : Nat} (hs : s < 8) : encC a i z (52 + s) = nI (a (48 + s)) := by
  rw [show 52 + s = 48 + s + 4 by omega]; exact eC_a (by omega)
theorem eC_min {a i : zN} {z : Nat → Int32} : encC a i z 60 = nI (a 0) := rfl
theorem eC_can {a i : zN} {z : Nat → Int32} : encC a i z 61 = nI (a 1) := rfl
theorem wC_had {a i : zN} {z : Nat → Int32} {b v : Nat} (hb : b < 6) : upd (encC a i z) b (nI v) = encC (uN a (2 + b) v) i z := by
  funext j
  unfold upd encC
  by_cases e : j = b
  · subst e; rw [if_pos rfl, if_pos hb, uN_s]
  · rw [if_neg e]
    by_cases h1 : j < 6
    · rw [if_pos h1, if_pos h1, uN_n (by omega)]
    · rw [if_neg h1, if_neg h1]
      by_cases h2 : j < 12
      · rw [if_pos h2, if_pos h2]
      · rw [if_neg h2, if_neg h2, uN_n (show j - 4 ≠ 2 + b by omega), uN_n (show 0 ≠ 2 + b by omega), uN_n (show 1 ≠ 2 + b by omega)]
theorem wC_ins {a i : zN} {z : Nat → Int32} {b v : Nat} (hb : b < 6) : upd (encC a i z) (6 + b) (nI v) = encC a (uN i b v) z := by
  funext j
  unfold upd encC
  by_cases e : j = 6 + b
  · subst e; rw [if_pos rfl, if_neg (by omega), if_pos (by omega), Nat.add_sub_cancel_left, uN_s]
  · rw [if_neg e]
    by_cases h1 : j < 6
    · rw [if_pos h1, if_pos h1]
    · rw [if_neg h1, if_neg h1, uN_n (show j - 6 ≠ b by omega)]
theorem wC_a {a i : zN} {z : Nat → Int32} {k v : Nat} (hk : (8 ≤ k ∧ k < 16) ∨ (24 ≤ k ∧ k < 56)) : upd (encC a i z) (k + 4) (nI v) = encC (uN a k v) i z := by
  funext j
  unfold upd encC
  by_cases e : j = k + 4
  · subst e
    rw [if_pos rfl, if_neg (by omega), if_neg (by omega)]
    by_cases h1 : k < 16
    · rw [if_pos (by omega), Nat.add_sub_cancel, uN_s]
    · rw [if_neg (by omega), if_neg (by omega), if_pos (by omega), Nat.add_sub_cancel, uN_s]
  · rw [if_neg e]
    by_cases h1 : j < 6
    · rw [if_pos h1, if_pos h1, uN_n (by omega)]
    · rw [if_neg h1, if_neg h1]
      by_cases h2 : j < 12
      · rw [if_pos h2, if_pos h2]
      · rw [if_neg h2, if_neg h2, uN_n (show j - 4 ≠ k by omega), uN_n (show 0 ≠ k by omega), uN_n (show 1 ≠ k by omega)]
theorem wC_whe {a i : zN} {z : Nat → Int32} {s v : Nat} (hs : s < 8) : upd (encC a i z) (20 + s) (enI v) = encC (uN a (16 + s) v) i z := by
  funext j
  unfold upd encC
  by_cases e : j = 20 + s
  · subst e
    rw [if_pos rfl, if_neg (by omega), if_neg (by omega), if_neg (by omega), if_pos (by omega), show 20 + s - 4 = 16 + s by omega, uN_s]
  · rw [if_neg e]
    by_cases h1 : j < 6
    · rw [if_pos h1, if_pos h1, uN_n (by omega)]
    · rw [if_neg h1, if_neg h1]
      by_cases h2 : j < 12
      · rw [if_pos h2, if_pos h2]
      · rw [if_neg h2, if_neg h2, uN_n (show j - 4 ≠ 16 + s by omega), uN_n (show 0 ≠ 16 + s by omega), uN_n (show 1 ≠ 16 + s by omega)]
theorem wC_out {a i : zN} {z : Nat → Int32} {s : Nat} (hs : s < 8) : upd (encC a i z) (20 + s) zm1 = encC (uN a (16 + s) 0) i z := wC_whe hs (v := 0)
theorem wC_into {a i : zN} {z : Nat → Int32} {s b : Nat} (hs : s < 8) : upd (encC a i z) (20 + s) (nI b) = encC (uN a (16 + s) (b + 1)) i z := by rw [← enI_s b]; exact wC_whe hs
theorem wC_how {a i : zN} {z : Nat → Int32} {s v : Nat} (hs : s < 8) : upd (encC a i z) (12 + s) (nI v) = encC (uN a (8 + s) v) i z := by
  rw [show 12 + s = 8 + s + 4 by omega]; exact wC_a (by omega)
theorem wC_left {a i : zN} {z : Nat → Int32} {s v : Nat} (hs : s < 8) : upd (encC a i z) (28 + s) (nI v) = encC (uN a (24 + s) v) i z := by
  rw [show 28 + s = 24 + s + 4 by omega]; exact wC_a (by omega)
theorem wC_here {a i : zN} {z : Nat → Int32} {s v : Nat} (hs : s < 8) : upd (encC a i z) (36 + s) (nI v) = encC (uN a (32 + s) v) i z := by
  rw [show 36 + s = 32 + s + 4 by omega]; exact wC_a (by omega)
theorem wC_over {a i : zN} {z : Nat → Int32} {s v : Nat} (hs : s < 8) : upd (encC a i z) (44 + s) (nI v) = encC (uN a (40 + s) v) i z := by
  rw [show 44 + s = 40 + s + 4 by omega]; exact wC_a (by omega)
theorem wC_tries {a i : zN} {z : Nat → Int32} {s v : Nat} (hs : s < 8) : upd (encC a i z) (52 + s) (nI v) = encC (uN a (48 + s) v) i z := by
  rw [show 52 + s = 48 + s + 4 by omega]; exact wC_a (by omega)
theorem wC_min {a i : zN} {z : Nat → Int32} {v : Nat} : upd (encC a i z) 60 (nI v) = encC (uN a 0 v) i z := by
  funext j
  unfold upd encC
  by_cases e : j = 60
  · subst e; rfl
  · rw [if_neg e]
    by_cases h1 : j < 6
    · rw [if_pos h1, if_pos h1, uN_n (by omega)]
    · rw [if_neg h1, if_neg h1]
      by_cases h2 : j < 12
      · rw [if_pos h2, if_pos h2]
      · rw [if_neg h2, if_neg h2, uN_n (show j - 4 ≠ 0 by omega), if_neg e, if_neg e, uN_n (show 1 ≠ 0 by omega)]
theorem wC_can {a i : zN} {z : Nat → Int32} {v : Nat} : upd (encC a i z) 61 (nI v) = encC (uN a 1 v) i z := by
  funext j
  unfold upd encC
  by_cases e : j = 61
  · subst e; rfl
  · rw [if_neg e]
    by_cases h1 : j < 6
    · rw [if_pos h1, if_pos h1, uN_n (by omega)]
    · rw [if_neg h1, if_neg h1]
      by_cases h2 : j < 12
      · rw [if_pos h2, if_pos h2]
      · rw [if_neg h2, if_neg h2, uN_n (show j - 4 ≠ 1 by omega), if_neg e, if_neg e, uN_n (show 0 ≠ 1 by omega)]
/-- what of a ROOM the class's rows hold: at 4 -/
def gRC (h : zN) (M : zMem) : Prop := M.1 4 0 = nI (h 0) ∧ M.1 4 1 = nI (h 1) ∧ M.1 4 2 = nI (h 2) ∧ M.1 4 3 = nI (h 3) ∧ M.1 4 4 = nI (h 4) ∧ M.1 4 5 = nI (h 5) ∧ (∀ b, b < h 0 → M.1 5 b = nI (h (6 + b))) ∧ (∀ b, b < h 0 → M.1 6 b = nI (h (12 + b))) ∧ (∀ s, s < h 2 → M.1 7 s = nI (h (48 + s))) ∧ ∀ p b, p < h 1 → b < h 0 → M.1 9 (6 * p + b) = nI (h (18 + 6 * p + b))
theorem gRC.row {h : zN} {M : zMem} {c : Nat} {g : Nat → Int32} (hc : 9 < c) (hr : gRC h M) : gRC h (zrowI M c g) := by
  unfold gRC at hr ⊢
  rw [zrI_n (show 4 ≠ c by omega), zrI_n (show 5 ≠ c by omega), zrI_n (show 6 ≠ c by omega), zrI_n (show 7 ≠ c by omega), zrI_n (show 9 ≠ c by omega)]
  exact hr
/-- a lab at a0 with its cells at c -/
def gLab (a0 c : Nat) : Prop := zrf gR a0 0 = 4 ∧ zrf gR a0 1 = c ∧ 9 < c
theorem gLab_l : gLab 16 17 := ⟨r16_0, r16_1, by decide⟩
theorem gLab_t : gLab 18 19 := ⟨r18_0, r18_1, by decide⟩
theorem gLab_n : gLab 49 50 := ⟨r49_0, r49_1, by decide⟩
theorem gLab_f : gLab 51 52 := ⟨r51_0, r51_1, by decide⟩
theorem gLab_s : gLab 53 54 := ⟨r53_0, r53_1, by decide⟩
