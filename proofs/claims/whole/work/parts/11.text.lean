def zslen (i : Nat) : Int32 := Int32.ofNat (zlenJS.getD i 0)
def zsch (i j : Nat) : Int32 := (zbytJS.getD i []).getD j 0
section ZX
variable {ρ ρ' : Type} {C : zCx} {Y : zMI} {Q : ρ → zMem → State → Prop} {k n : Nat} {f f1 f2 : Option (ρ × zMem)} {pc : Nat} {ls ls' : List (Nat × Value)} {st : List Value} {ad : Nat → Nat} {T : zTT} {R : zRR} {M : zMem} {idx : Nat}
theorem zx_getSv {i : Nat} (d : decode (zcc Y) pc = .ok (.getfield idx, 3)) (hl0 : Cond.fieldLink (zown Y) idx "java/lang/String" "value" "[B" ∈ zgtbl) (hi : i < 5) (kk : zX C Y Q k n f (pc + 3) ls (.ref (zBIG + 10 + i) :: st) ad T R M) : zX C Y Q k n f pc ls (.ref (zBIG + i) :: st) ad T R M := by
  obtain ⟨p, l, e, Rm, s, m, args, below, meth, c, D, cs, A, K⟩ := C
  intro r M' hf hO hkn H locs la hP hD hS hl
  have hO' := hO
  obtain ⟨hx, hb, hml, hr, hown, hts, hK, hA, hlk, hB, hST, hR1, hR2, hR3, hR4⟩ := hO
  have h2 := kk r M' hf hO' hkn H locs la hP hD hS hl
  have e1 : zcv ad (.ref (zBIG + i)) = .ref (K.1 i) := by show Value.ref (ad (zBIG + i)) = _; rw [hkn.2.2.1 i hi]
  have e2 : zcv ad (.ref (zBIG + 10 + i)) = .ref (K.2 i) := by show Value.ref (ad (zBIG + 10 + i)) = _; rw [hkn.2.2.2 i (by omega)]
  rw [List.map_cons, e2] at h2
  rw [List.map_cons, e1]
  exact vk_getf hx hb (hB.1.1 i hi).2.2.1 hS hown (hts _ hl0) (fun x h => h) d h2
theorem zx_getSc {i : Nat} (d : decode (zcc Y) pc = .ok (.getfield idx, 3)) (hl0 : Cond.fieldLink (zown Y) idx "java/lang/String" "coder" "B" ∈ zgtbl) (hi : i < 5) (kk : zX C Y Q k n f (pc + 3) ls (.int 0 :: st) ad T R M) : zX C Y Q k n f pc ls (.ref (zBIG + i) :: st) ad T R M := by
  obtain ⟨p, l, e, Rm, s, m, args, below, meth, c, D, cs, A, K⟩ := C
  intro r M' hf hO hkn H locs la hP hD hS hl
  have hO' := hO
  obtain ⟨hx, hb, hml, hr, hown, hts, hK, hA, hlk, hB, hST, hR1, hR2, hR3, hR4⟩ := hO
  have h2 := kk r M' hf hO' hkn H locs la hP hD hS hl
  have e1 : zcv ad (.ref (zBIG + i)) = .ref (K.1 i) := by show Value.ref (ad (zBIG + i)) = _; rw [hkn.2.2.1 i hi]
  rw [List.map_cons, e1]
  exact vk_getf hx hb (hB.1.1 i hi).2.1 hS hown (hts _ hl0) (fun x h => h) d h2
theorem zx_getCS (d : decode (zcc Y) pc = .ok (.getstatic idx, 3)) (hl0 : Cond.fieldLink (zown Y) idx "java/lang/String" "COMPACT_STRINGS" "Z" ∈ zgtbl) (kk : zX C Y Q k n f (pc + 3) ls (.int 1 :: st) ad T R M) : zX C Y Q k n f pc ls st ad T R M := by
  obtain ⟨p, l, e, Rm, s, m, args, below, meth, c, D, cs, A, K⟩ := C
  intro r M' hf hO hkn H locs la hP hD hS hl
  have hO' := hO
  obtain ⟨hx, hb, hml, hr, hown, hts, hK, hA, hlk, hB, hST, hR1, hR2, hR3, hR4⟩ := hO
  exact va_gets hx hb hB.2.2.2.1 hS hown (hts _ hl0) (fun x h => h) d (kk r M' hf hO' hkn H locs la hP hD hS hl)
theorem zx_getFM (d : decode (zcc Y) pc = .ok (.getstatic idx, 3)) (hl0 : Cond.fieldLink (zown Y) idx "jdk/internal/util/Preconditions" "SIOOBE_FORMATTER" "Ljava/util/function/BiFunction;" ∈ zgtbl) (kk : ∀ v : Value, v.category = 1 → zX C Y Q k n f (pc + 3) ls (v :: st) ad T R M) : zX C Y Q k n f pc ls st ad T R M := by
  obtain ⟨p, l, e, Rm, s, m, args, below, meth, c, D, cs, A, K⟩ := C
  intro r M' hf hO hkn H locs la hP hD hS hl
  have hO' := hO
  obtain ⟨hx, hb, hml, hr, hown, hts, hK, hA, hlk, hB, hST, hR1, hR2, hR3, hR4⟩ := hO
  rcases hB.2.2.2.2 with hZ | hZ
  · exact va_gets hx hb hZ hS hown (hts _ hl0) (fun x h => h) d (kk .null rfl r M' hf hO' hkn H locs la hP hD hS hl)
  · have h2 := kk (.ref (zBIG + 10 + 5)) rfl r M' hf hO' hkn H locs la hP hD hS hl
    have e2 : zcv ad (.ref (zBIG + 10 + 5)) = .ref (K.2 5) := by show Value.ref (ad (zBIG + 10 + 5)) = _; rw [hkn.2.2.2 5 (by omega)]
    rw [List.map_cons, e2] at h2
    exact va_gets hx hb hZ hS hown (hts _ hl0) (fun x h => h) d h2
theorem zx_slen {i : Nat} (d : decode (zcc Y) pc = .ok (.arraylength, 1)) (hi : i < 5) (kk : zX C Y Q k n f (pc + 1) ls (.int (zslen i) :: st) ad T R M) : zX C Y Q k n f pc ls (.ref (zBIG + 10 + i) :: st) ad T R M := by
  obtain ⟨p, l, e, Rm, s, m, args, below, meth, c, D, cs, A, K⟩ := C
  intro r M' hf hO hkn H locs la hP hD hS hl
  have hO' := hO
  obtain ⟨hx, hb, hml, hr, hown, hts, hK, hA, hlk, hB, hST, hR1, hR2, hR3, hR4⟩ := hO
  have e2 : zcv ad (.ref (zBIG + 10 + i)) = .ref (K.2 i) := by show Value.ref (ad (zBIG + 10 + i)) = _; rw [hkn.2.2.2 i (by omega)]
  rw [List.map_cons, e2]
  exact va_tlen hx hb (hB.1.1 i hi).2.2.2 hS rfl d (kk r M' hf hO' hkn H locs la hP hD hS hl)
theorem zx_sbald {i : Nat} {x : Int32} (d : decode (zcc Y) pc = .ok (.baload, 1)) (hi : i < 5) (hin : vp_in x (zlenJS.getD i 0)) (kk : zX C Y Q k n f (pc + 1) ls (.int (zsch i x.toNatClampNeg) :: st) ad T R M) : zX C Y Q k n f pc ls (.int x :: .ref (zBIG + 10 + i) :: st) ad T R M := by
  obtain ⟨p, l, e, Rm, s, m, args, below, meth, c, D, cs, A, K⟩ := C
  intro r M' hf hO hkn H locs la hP hD hS hl
  have hO' := hO
  obtain ⟨hx, hb, hml, hr, hown, hts, hK, hA, hlk, hB, hST, hR1, hR2, hR3, hR4⟩ := hO
  have e2 : zcv ad (.ref (zBIG + 10 + i)) = .ref (K.2 i) := by show Value.ref (ad (zBIG + 10 + i)) = _; rw [hkn.2.2.2 i (by omega)]
  rw [List.map_cons, List.map_cons, e2]
  exact va_tb hx hb (hB.1.1 i hi).2.2.2 hS hin rfl d (kk r M' hf hO' hkn H locs la hP hD hS hl)
end ZX
theorem zfl_S9 : Cond.fieldLink RJ0 9 "java/lang/String" "value" "[B" ∈ zgtbl := zt9 88 rfl rfl
theorem zfl_S15 : Cond.fieldLink RJ0 15 "java/lang/String" "coder" "B" ∈ zgtbl := zt9 89 rfl rfl
theorem zfl_S38 : Cond.fieldLink RJ0 38 "java/lang/String" "COMPACT_STRINGS" "Z" ∈ zgtbl := zt1 48 rfl rfl
theorem zfl_S1053 : Cond.fieldLink RJ0 1053 "jdk/internal/util/Preconditions" "SIOOBE_FORMATTER" "Ljava/util/function/BiFunction;" ∈ zgtbl := zt1 64 rfl rfl
theorem mc_J0_coder_7d493 (l : Launch) {T : zTT} {R : zRR} {a : Nat} (ha : a < 5) (M : zMem) : zMS l yJ0_coder_7d493 mi_J0_coder_7d493 zrvI (some ((0 : Int32), M)) [.ref (zBIG + a)] T R M := by
  refine zMS.of (by decide +kernel) rfl ⟨rfl, rfl⟩ (Nat.le_of_ble_eq_true rfl) (fun C ad _ => ?_)
  show zX C mi_J0_coder_7d493 (zFin C zrvI ad T R) 0 0 (some ((0 : Int32), M)) 0 [(0, .ref (zBIG + a))] [] ad T R M
  refine zx_getCS (zd me_J0_coder_7d493 0 rfl) zfl_S38 ?_
  refine zx_eq (f2 := if (1 : Int32) = 0 then none else some ((0 : Int32), M)) rfl ?_
  refine zx_if_eq (tgt := 13) (zd me_J0_coder_7d493 1 rfl) (by decide) (fun h => absurd h (by decide)) (fun _ => ?_)
  refine zx_aload_n (i := 0) (zd me_J0_coder_7d493 2 rfl) rfl 0 rfl ?_
  refine zx_getSc (zd me_J0_coder_7d493 3 rfl) zfl_S15 ha ?_
  refine zx_goto (tgt := 14) (zd me_J0_coder_7d493 4 rfl) (by decide) ?_
  exact zx_zret (zd me_J0_coder_7d493 6 rfl) rfl rfl
theorem mc_J0_isLatin1_aae02 (l : Launch) {T : zTT} {R : zRR} {a : Nat} (ha : a < 5) (M : zMem) : zMS l yJ0_isLatin1_aae02 mi_J0_isLatin1_aae02 zrvI (some ((1 : Int32), M)) [.ref (zBIG + a)] T R M := by
  refine zMS.of (by decide +kernel) rfl ⟨rfl, rfl⟩ (Nat.le_of_ble_eq_true rfl) (fun C ad _ => ?_)
  show zX C mi_J0_isLatin1_aae02 (zFin C zrvI ad T R) 0 0 (some ((1 : Int32), M)) 0 [(0, .ref (zBIG + a))] [] ad T R M
  refine zx_getCS (zd me_J0_isLatin1_aae02 0 rfl) zfl_S38 ?_
  refine zx_eq (f2 := if (1 : Int32) = 0 then none else some ((1 : Int32), M)) rfl ?_
  refine zx_if_eq (tgt := 17) (zd me_J0_isLatin1_aae02 1 rfl) (by decide) (fun h => absurd h (by decide)) (fun _ => ?_)
  refine zx_aload_n (i := 0) (zd me_J0_isLatin1_aae02 2 rfl) rfl 0 rfl ?_
  refine zx_getSc (zd me_J0_isLatin1_aae02 3 rfl) zfl_S15 ha ?_
  refine zx_eq (f2 := if (0 : Int32) = 0 then some ((1 : Int32), M) else none) rfl ?_
  refine zx_if_ne (tgt := 17) (zd me_J0_isLatin1_aae02 4 rfl) (by decide) (fun h => absurd rfl h) (fun _ => ?_)
  refine zx_iconst (v := 1) (zd me_J0_isLatin1_aae02 5 rfl) (by decide) ?_
  refine zx_goto (tgt := 18) (zd me_J0_isLatin1_aae02 6 rfl) (by decide) ?_
  exact zx_zret (zd me_J0_isLatin1_aae02 8 rfl) rfl rfl
theorem mc_J0_length_8abf5 (l : Launch) {T : zTT} {R : zRR} {a : Nat} (ha : a < 5) (M : zMem) : zMS l yJ0_length_8abf5 mi_J0_length_8abf5 zrvI (some (zslen a, M)) [.ref (zBIG + a)] T R M := by
  refine zMS.of (by decide +kernel) rfl ⟨rfl, rfl⟩ (Nat.le_of_ble_eq_true rfl) (fun C ad _ => ?_)
  show zX C mi_J0_length_8abf5 (zFin C zrvI ad T R) 0 0 (some (zslen a, M)) 0 [(0, .ref (zBIG + a))] [] ad T R M
  refine zx_aload_n (i := 0) (zd me_J0_length_8abf5 0 rfl) rfl 0 rfl ?_
  refine zx_getSv (zd me_J0_length_8abf5 1 rfl) zfl_S9 ha ?_
  refine zx_slen (zd me_J0_length_8abf5 2 rfl) ha ?_
  refine zx_aload_n (i := 0) (zd me_J0_length_8abf5 3 rfl) rfl 0 rfl ?_
  refine zx_eq (f2 := zcl (some ((0 : Int32), M)) (fun r1 M1 => some (zslen a >>> (r1 &&& 31), M1))) (by show some (zslen a, M) = some (zslen a >>> ((0 : Int32) &&& 31), M); rw [sb_shr0]) ?_
  refine zx_callT (as := []) (zd me_J0_length_8abf5 4 rfl) (mc_J0_coder_7d493 (zl C) ha M) lk_J0_335 ⟨(Nat.le_of_ble_eq_true rfl), (Nat.le_of_ble_eq_true rfl)⟩ (Nat.le_of_ble_eq_true rfl) rfl (fun _ _ => rfl) ha rfl rfl (fun r1 M1 _ => ?_)
  refine zx_ishr (zd me_J0_length_8abf5 5 rfl) ?_
  exact zx_iret (zd me_J0_length_8abf5 6 rfl) rfl
theorem mc_J3_checkIndex_8e157 (l : Launch) {T : zTT} {R : zRR} (i n : Int32) (v : Value) (hv : v.category = 1) (M : zMem) : zMS l yJ3_checkIndex_8e157 mi_J3_checkIndex_8e157 zrvI (if i < 0 then none else if i < n then some (i, M) else none) [.int i, .int n, v] T R M := by
  refine zMS.of (by decide +kernel) rfl ⟨rfl, rfl⟩ (by show (lg_sl [Value.int i, Value.int n, v]).length ≤ 3; simp only [lg_sl, List.flatMap_cons, List.flatMap_nil, hv, show (Value.int i).category = 1 from rfl, show (Value.int n).category = 1 from rfl]; exact Nat.le_refl 3) (fun C ad _ => ?_)
  show zX C mi_J3_checkIndex_8e157 (zFin C zrvI ad T R) 0 0 (if i < 0 then none else if i < n then some (i, M) else none) 0 [(0, .int i), (1, .int n), (2, v)] [] ad T R M
  refine zx_iload_n (i := 0) (zd me_J3_checkIndex_8e157 0 rfl) rfl 0 rfl ?_
  refine zx_if_lt (tgt := 9) (zd me_J3_checkIndex_8e157 1 rfl) (by decide) (fun _ => zx_none) (fun _ => ?_)
  refine zx_iload_n (i := 0) (zd me_J3_checkIndex_8e157 2 rfl) rfl 0 rfl ?_
  refine zx_iload_n (i := 1) (zd me_J3_checkIndex_8e157 3 rfl) rfl 1 rfl ?_
  refine zx_icmp_lt (tgt := 16) (zd me_J3_checkIndex_8e157 4 rfl) (by decide) (fun _ => ?_) (fun _ => zx_none)
  refine zx_iload_n (i := 0) (zd me_J3_checkIndex_8e157 10 rfl) rfl 0 rfl ?_
  exact zx_iret (zd me_J3_checkIndex_8e157 11 rfl) rfl
theorem mc_J0_checkIndex_df160 (l : Launch) {T : zTT} {R : zRR} (i n : Int32) (M : zMem) : zMS l yJ0_checkIndex_df160 mi_J0_checkIndex_df160 zrvV (if i < 0 then none else if i < n then some ((), M) else none) [.int i, .int n] T R M := by
  refine zMS.of (by decide +kernel) rfl ⟨rfl, rfl⟩ (Nat.le_of_ble_eq_true rfl) (fun C ad _ => ?_)
  show zX C mi_J0_checkIndex_df160 (zFin C zrvV ad T R) 0 0 (if i < 0 then none else if i < n then some ((), M) else none) 0 [(0, .int i), (1, .int n)] [] ad T R M
  refine zx_iload_n (i := 0) (zd me_J0_checkIndex_df160 0 rfl) rfl 0 rfl ?_
  refine zx_iload_n (i := 1) (zd me_J0_checkIndex_df160 1 rfl) rfl 1 rfl ?_
  refine zx_getFM (zd me_J0_checkIndex_df160 2 rfl) zfl_S1053 (fun v hv => ?_)
  refine zx_eq (f2 := zcl (if i < 0 then none else if i < n then some (i, M) else none) (fun _ M1 => some ((), M1))) (by by_cases h1 : i < 0 <;> by_cases h2 : i < n <;> simp [zcl, h1, h2]) ?_
  refine zx_callSI3 (zd me_J0_checkIndex_df160 3 rfl) (mc_J3_checkIndex_8e157 (zl C) i n v hv M) lk_J0_1059 ⟨(Nat.le_of_ble_eq_true rfl), (Nat.le_of_ble_eq_true rfl)⟩ (Nat.le_of_ble_eq_true rfl) (fun r1 M1 => ?_)
  refine zx_pop (zd me_J0_checkIndex_df160 4 rfl) rfl ?_
  exact zx_vret (zd me_J0_checkIndex_df160 5 rfl) rfl
theorem zlen_small : ∀ a, a < 5 → zlenJS.getD a 0 < 2 ^ 31 := by decide +kernel
theorem zchars : ∀ a, a < 5 → ∀ j, j < zlenJS.getD a 0 → ((zsch a j &&& 255).toUInt32 % 65536).toInt32 = zsch a j ∧ narrow .char (.int (zsch a j)) = .int (zsch a j) := by decide +kernel
theorem mc_J1_charAt_3b067 (l : Launch) {T : zTT} {R : zRR} {a : Nat} (ha : a < 5) (i : Int32) (M : zMem) : zMS l yJ1_charAt_3b067 mi_J1_charAt_3b067 zrvI (zald (zlenJS.getD a 0) i fun j => some (zsch a j, M)) [.ref (zBIG + 10 + a), .int i] T R M := by
  refine zMS.of (by decide +kernel) rfl ⟨rfl, rfl⟩ (Nat.le_of_ble_eq_true rfl) (fun C ad _ => ?_)
  show zX C mi_J1_charAt_3b067 (zFin C zrvI ad T R) 0 0 (zald (zlenJS.getD a 0) i fun j => some (zsch a j, M)) 0 [(0, .ref (zBIG + 10 + a)), (1, .int i)] [] ad T R M
  rcases Classical.em (¬ vp_in i (zlenJS.getD a 0)) with hin | hin
  · rw [show zald (zlenJS.getD a 0) i (fun j => some (zsch a j, M)) = none from if_pos (Classical.not_not.mp hin)]
    exact zx_none
  have hin := Classical.not_not.mp hin
  rw [zald_in hin]
  refine zx_iload_n (i := 1) (zd me_J1_charAt_3b067 0 rfl) rfl 1 rfl ?_
  refine zx_aload_n (i := 0) (zd me_J1_charAt_3b067 1 rfl) rfl 0 rfl ?_
  refine zx_slen (zd me_J1_charAt_3b067 2 rfl) ha ?_
  refine zx_eq (f2 := zcl (if i < 0 then none else if i < zslen a then some ((), M) else none) (fun _ M1 => some (zsch a i.toNatClampNeg, M1))) ?_ ?_
  · have h1 : ¬ i < 0 := fun q => hin (Or.inl q)
    have h2 : i < zslen a := by
      obtain ⟨j, hj, rfl⟩ := vp_in_of hin (zlen_small a ha)
      exact nI_lt hj (zlen_small a ha)
    simp [zcl, h1, h2]
  refine zx_callSV2 (zd me_J1_charAt_3b067 3 rfl) (mc_J0_checkIndex_df160 (zl C) i (zslen a) M) lk_J1_9 ⟨(Nat.le_of_ble_eq_true rfl), (Nat.le_of_ble_eq_true rfl)⟩ (Nat.le_of_ble_eq_true rfl) (fun r1 M1 => ?_)
  refine zx_aload_n (i := 0) (zd me_J1_charAt_3b067 4 rfl) rfl 0 rfl ?_
  refine zx_iload_n (i := 1) (zd me_J1_charAt_3b067 5 rfl) rfl 1 rfl ?_
  refine zx_sbald (zd me_J1_charAt_3b067 6 rfl) ha hin ?_
  refine zx_sipush (v := 255) (zd me_J1_charAt_3b067 7 rfl) (by decide) ?_
  refine zx_iand (zd me_J1_charAt_3b067 8 rfl) ?_
  refine zx_i2c (zd me_J1_charAt_3b067 9 rfl) ?_
  obtain ⟨e1, e2⟩ := zchars a ha _ (Nat.not_le.mp fun q => hin (Or.inr q))
  rw [e1]
  exact zx_zret (zd me_J1_charAt_3b067 10 rfl) rfl e2
theorem zchar8 : ∀ a, a < 5 → ∀ j, j < zlenJS.getD a 0 → 0 ≤ zsch a j ∧ zsch a j ≤ 255 := by decide +kernel
theorem mc_J0_charAt_5068e (l : Launch) {T : zTT} {R : zRR} {a : Nat} (ha : a < 5) (i : Int32) (M : zMem) : zMS l yJ0_charAt_5068e mi_J0_charAt_5068e zrvI (zald (zlenJS.getD a 0) i fun j => some (zsch a j, M)) [.ref (zBIG + a), .int i] T R M := by
  refine zMS.of (by decide +kernel) rfl ⟨rfl, rfl⟩ (Nat.le_of_ble_eq_true rfl) (fun C ad _ => ?_)
  show zX C mi_J0_charAt_5068e (zFin C zrvI ad T R) 0 0 (zald (zlenJS.getD a 0) i fun j => some (zsch a j, M)) 0 [(0, .ref (zBIG + a)), (1, .int i)] [] ad T R M
  refine zx_aload_n (i := 0) (zd me_J0_charAt_5068e 0 rfl) rfl 0 rfl ?_
  refine zx_eq (f2 := zcl (some ((1 : Int32), M)) (fun r1 M1 => if r1 = 0 then none else zcl (zald (zlenJS.getD a 0) i fun j => some (zsch a j, M1)) (fun r2 M2 => zchk (0 ≤ r2 ∧ r2 ≤ 255) (some (r2, M2))))) ?_ ?_
  · show _ = zcl (zald (zlenJS.getD a 0) i fun j => some (zsch a j, M)) (fun r2 M2 => zchk (0 ≤ r2 ∧ r2 ≤ 255) (some (r2, M2)))
    by_cases hin : vp_in i (zlenJS.getD a 0)
    · rw [zald_in hin]
      have h := zchar8 a ha _ (Nat.not_le.mp fun q => hin (Or.inr q))
      show _ = zchk (0 ≤ zsch a i.toNatClampNeg ∧ zsch a i.toNatClampNeg ≤ 255) _
      unfold zchk
      rw [if_pos h]
    · rw [show ∀ K : Nat → Option (Int32 × zMem), zald (zlenJS.getD a 0) i K = none from fun K => if_pos (Classical.not_not.mp hin)]
      rfl
  refine zx_callT (as := []) (zd me_J0_charAt_5068e 1 rfl) (mc_J0_isLatin1_aae02 (zl C) ha M) lk_J0_492 ⟨(Nat.le_of_ble_eq_true rfl), (Nat.le_of_ble_eq_true rfl)⟩ (Nat.le_of_ble_eq_true rfl) rfl (fun _ _ => rfl) ha rfl rfl (fun r1 M1 _ => ?_)
  refine zx_if_eq (tgt := 16) (zd me_J0_charAt_5068e 2 rfl) (by decide) (fun _ => zx_none) (fun _ => ?_)
  refine zx_aload_n (i := 0) (zd me_J0_charAt_5068e 3 rfl) rfl 0 rfl ?_
  refine zx_getSv (zd me_J0_charAt_5068e 4 rfl) zfl_S9 ha ?_
  refine zx_iload_n (i := 1) (zd me_J0_charAt_5068e 5 rfl) rfl 1 rfl ?_
  refine zx_callSI2 (zd me_J0_charAt_5068e 6 rfl) (mc_J1_charAt_3b067 (zl C) ha i M1) lk_J0_495 ⟨(Nat.le_of_ble_eq_true rfl), (Nat.le_of_ble_eq_true rfl)⟩ (Nat.le_of_ble_eq_true rfl) (fun r2 M2 => ?_)
  unfold zchk
  by_cases h : 0 ≤ r2 ∧ r2 ≤ 255
  · rw [if_pos h]
    refine zx_zret (zd me_J0_charAt_5068e 7 rfl) rfl ?_
    obtain ⟨j, hj, rfl⟩ := nI_of2 (M := 255) (n := 255) (by decide) (by have := h.1; intro q; exact absurd h.1 (Int32.not_le.mpr q)) h.2
    exact (pk_charN (q := j) (by omega)).1
  · rw [if_neg h]
    exact zx_none
section ZX
variable {ρ ρ' : Type} {C : zCx} {Y : zMI} {Q : ρ → zMem → State → Prop} {k n : Nat} {f f1 f2 : Option (ρ × zMem)} {pc : Nat} {ls ls' : List (Nat × Value)} {st : List Value} {ad : Nat → Nat} {T : zTT} {R : zRR} {M : zMem} {idx : Nat}
theorem zx_strlen {i : Nat} (d : decode (zcc Y) pc = .ok (.invokevirtual idx, 3)) (hlk : zLV (zown Y) idx yJ0_length_8abf5 mi_J0_length_8abf5 0) (hroom : zfr mi_J0_length_8abf5 + 1 ≤ zfr Y ∧ 8 + (znL mi_J0_length_8abf5 + 11) + zlo mi_J0_length_8abf5 ≤ zlo Y) (hst : (st.map fun v => v.category).sum ≤ 8) (hi : i < 5) (kk : zX C Y Q k n f (pc + 3) ls (.int (zslen i) :: st) ad T R M) : zX C Y Q k n f pc ls (.ref (zBIG + i) :: st) ad T R M := by
  refine zx_eq (f2 := zcl (some (zslen i, M)) (fun _ _ => f)) rfl ?_
  refine zx_callT (as := []) d (mc_J0_length_8abf5 (zl C) hi M) hlk hroom hst rfl (fun _ _ => rfl) hi rfl rfl (fun r1 M1 h => ?_)
  cases h
  exact kk
theorem zx_charAt {i : Nat} {x : Int32} {Kf : Nat → Option (ρ × zMem)} (d : decode (zcc Y) pc = .ok (.invokevirtual idx, 3)) (hlk : zLV (zown Y) idx yJ0_charAt_5068e mi_J0_charAt_5068e 1) (hroom : zfr mi_J0_charAt_5068e + 1 ≤ zfr Y ∧ 8 + (znL mi_J0_charAt_5068e + 11) + zlo mi_J0_charAt_5068e ≤ zlo Y) (hst : (st.map fun v => v.category).sum ≤ 8) (hi : i < 5) (kk : ∀ j : Nat, zX C Y Q k n (Kf j) (pc + 3) ls (.int (zsch i j) :: st) ad T R M) : zX C Y Q k n (zald (zlenJS.getD i 0) x Kf) pc ls (.int x :: .ref (zBIG + i) :: st) ad T R M := by
  refine zx_eq (f2 := zcl (zald (zlenJS.getD i 0) x (fun j => some (zsch i j, M))) (fun _ _ => Kf x.toNatClampNeg)) ?_ ?_
  · by_cases hin : vp_in x (zlenJS.getD i 0)
    · rw [zald_in hin, zald_in hin]
      rfl
    · have e : ∀ (α : Type) (K : Nat → Option α), zald (zlenJS.getD i 0) x K = none := fun α K => if_pos (Classical.not_not.mp hin)
      rw [e, e]
      rfl
  refine zx_callT (as := [.int x]) d (mc_J0_charAt_5068e (zl C) hi x M) hlk hroom hst rfl (fun _ _ => rfl) hi rfl rfl (fun r1 M1 h => ?_)
  obtain ⟨hin, h⟩ := zald_some h
  cases h
  exact kk _
end ZX
