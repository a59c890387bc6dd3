/-! THE PURE SIDE: numbers, reads and writes, bits -/
theorem zl_lit (n : Nat) : (OfNat.ofNat n : Int32) = nI (OfNat.ofNat n) := id rfl
theorem zlet_ok {α β : Type} {x : α} {K : α → Option β} : zlet x K = K x := id rfl
def zm1 : Int32 := -1
theorem zl_m1 : -(nI 1) = zm1 := by decide +kernel
theorem zl_m1' : (-1 : Int32) = zm1 := rfl
theorem zm1_toInt : zm1.toInt = -1 := by decide +kernel
theorem zm1_lt {n : Nat} (h : n < 2 ^ 31) : zm1 < nI n := by
  rw [Int32.lt_iff_toInt_lt, zm1_toInt, nI_toInt h]; omega
theorem zm1_le {n : Nat} (h : n < 2 ^ 31) : zm1 ≤ nI n := by
  rw [Int32.le_iff_toInt_le, zm1_toInt, nI_toInt h]; omega
theorem zm1_nlt {n : Nat} (h : n < 2 ^ 31) : ¬ nI n < zm1 := by
  rw [Int32.lt_iff_toInt_lt, zm1_toInt, nI_toInt h]; omega
theorem zm1_nle {n : Nat} (h : n < 2 ^ 31) : ¬ nI n ≤ zm1 := by
  rw [Int32.le_iff_toInt_le, zm1_toInt, nI_toInt h]; omega
theorem zm1_ne {n : Nat} (h : n < 2 ^ 31) : (nI n = zm1) = False := by
  refine eq_false (fun e => ?_)
  have := congrArg Int32.toInt e
  rw [zm1_toInt, nI_toInt h] at this; omega
theorem zm1_ne' {n : Nat} (h : n < 2 ^ 31) : (zm1 = nI n) = False := by
  refine eq_false (fun e => ?_)
  have := zm1_ne h
  rw [← this]; exact e.symm
theorem zm1_lt' {n : Nat} (h : n < 2 ^ 31) : (zm1 < nI n) = True := eq_true (zm1_lt h)
theorem zm1_le' {n : Nat} (h : n < 2 ^ 31) : (zm1 ≤ nI n) = True := eq_true (zm1_le h)
theorem zm1_nlt' {n : Nat} (h : n < 2 ^ 31) : (nI n < zm1) = False := eq_false (zm1_nlt h)
theorem zm1_nle' {n : Nat} (h : n < 2 ^ 31) : (nI n ≤ zm1) = False := eq_false (zm1_nle h)
theorem zm1_add1 : zm1 + nI 1 = nI 0 := by decide +kernel
theorem nI_ltE {a b : Nat} (ha : a < 2 ^ 31) (hb : b < 2 ^ 31) : (nI a < nI b) = (a < b) := propext (nI_ltI ha hb)
theorem nI_leE {a b : Nat} (ha : a < 2 ^ 31) (hb : b < 2 ^ 31) : (nI a ≤ nI b) = (a ≤ b) := propext (nI_leI ha hb)
theorem nI_eqE {a b : Nat} (ha : a < 2 ^ 31) (hb : b < 2 ^ 31) : (nI a = nI b) = (a = b) := propext (nI_eq ha hb)
theorem nI_mulE (a b : Nat) : nI a * nI b = nI (a * b) := (Int32.ofNat_mul a b).symm
theorem nI_subE {a b : Nat} (h : b ≤ a) : nI a - nI b = nI (a - b) := by
  have e : nI a = nI (a - b) + nI b := by rw [nI_add, Nat.sub_add_cancel h]
  rw [e, Int32.add_sub_cancel]
theorem zcl_ok {α β : Type} {r : α} {M1 : zMem} {K : α → zMem → Option β} : zcl (some (r, M1)) K = K r M1 := id rfl
theorem zchk_ok {α : Type} {c : Prop} [Decidable c] {K : Option α} (h : c) : zchk c K = K := if_pos h
theorem zwI_s {M : zMem} {o k : Nat} {v : Int32} : (zwI M o k v).1 o = upd (M.1 o) k v := by simp [zwI, zrowI]
theorem zwI_n {M : zMem} {o k q : Nat} {v : Int32} (h : q ≠ o) : (zwI M o k v).1 q = M.1 q := by simp [zwI, zrowI, h]
theorem zwI_L {M : zMem} {o k : Nat} {v : Int32} : (zwI M o k v).2 = M.2 := rfl
theorem zwL_s {M : zMem} {o k : Nat} {v : Int64} : (zwL M o k v).2 o = vp_updL (M.2 o) k v := by simp [zwL, zrowL]
theorem zwL_n {M : zMem} {o k q : Nat} {v : Int64} (h : q ≠ o) : (zwL M o k v).2 q = M.2 q := by simp [zwL, zrowL, h]
theorem zwL_I {M : zMem} {o k : Nat} {v : Int64} : (zwL M o k v).1 = M.1 := rfl
theorem zrI_s {M : zMem} {o : Nat} {g : Nat → Int32} : (zrowI M o g).1 o = g := by simp [zrowI]
theorem zrI_n {M : zMem} {o q : Nat} {g : Nat → Int32} (h : q ≠ o) : (zrowI M o g).1 q = M.1 q := by simp [zrowI, h]
theorem zrI_L {M : zMem} {o : Nat} {g : Nat → Int32} : (zrowI M o g).2 = M.2 := rfl
theorem zrL_s {M : zMem} {o : Nat} {g : Nat → Int64} : (zrowL M o g).2 o = g := by simp [zrowL]
theorem zrL_n {M : zMem} {o q : Nat} {g : Nat → Int64} (h : q ≠ o) : (zrowL M o g).2 q = M.2 q := by simp [zrowL, h]
theorem zrL_I {M : zMem} {o : Nat} {g : Nat → Int64} : (zrowL M o g).1 = M.1 := rfl
theorem upd_s {f : Nat → Int32} {k : Nat} {v : Int32} : upd f k v k = v := if_pos rfl
theorem upd_n {f : Nat → Int32} {k j : Nat} {v : Int32} (h : j ≠ k) : upd f k v j = f j := if_neg h
/-- a set of numbers less than n, as bits -/
def gbN (p : Nat → Bool) : Nat → Nat
  | 0 => 0
  | n + 1 => gbN p n + if p n then 2 ^ n else 0
theorem gbN_lt (p : Nat → Bool) : ∀ n, gbN p n < 2 ^ n
  | 0 => by show 0 < 2 ^ 0; decide
  | n + 1 => by
    have ih := gbN_lt p n
    unfold gbN
    rw [Nat.pow_succ]
    split <;> omega
theorem gbN_cong {p q : Nat → Bool} : ∀ {n : Nat}, (∀ k, k < n → p k = q k) → gbN p n = gbN q n
  | 0, _ => rfl
  | n + 1, h => by rw [gbN, gbN, gbN_cong (fun k hk => h k (Nat.lt_succ_of_lt hk)), h n (Nat.lt_succ_self n)]
theorem gbN_bit (p : Nat → Bool) : ∀ n k, (gbN p n).testBit k = (decide (k < n) && p k)
  | 0, k => by simp [gbN]
  | n + 1, k => by
    have ih := gbN_bit p n k
    have hl := gbN_lt p n
    unfold gbN
    by_cases h : p n
    · have e : gbN p n + 2 ^ n = 2 ^ n * 1 + gbN p n := by omega
      rw [if_pos h, e, Nat.two_pow_add_eq_or_of_lt hl 1, Nat.testBit_or, ih, Nat.mul_one, Nat.testBit_two_pow]
      by_cases e : k = n
      · subst e
        simp [h]
      · simp [show (k < n + 1) = (k < n) from propext (by omega), show ¬ n = k from fun q => e q.symm]
    · rw [if_neg h, Nat.add_zero, ih]
      by_cases e : k = n
      · subst e
        simp [h]
      · simp [show (k < n + 1) = (k < n) from propext (by omega)]

/-- what omega knows of a condition -/
theorem gcle {a b : Nat} (h : a ≤ b) : (a ≤ b) = True := eq_true h
theorem gcnle {a b : Nat} (h : b < a) : (a ≤ b) = False := eq_false (by omega)
theorem gclt {a b : Nat} (h : a < b) : (a < b) = True := eq_true h
theorem gcnlt {a b : Nat} (h : b ≤ a) : (a < b) = False := eq_false (by omega)
theorem gcne {a b : Nat} (h : a ≠ b) : (a = b) = False := eq_false h
