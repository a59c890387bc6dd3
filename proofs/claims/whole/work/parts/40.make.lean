def mi9_X10_init : zMI := (RX10, cX10_init, 4, none, 8, 336, 2, 964)
def mi9_X7_init : zMI := (RX7, cX7_init, 1, none, 3, 230, 5, 69)
def mi9_X3_init : zMI := (RX3, cX3_init, 2, none, 4, 251, 1, 62)
def mi9_X8_init : zMI := (RX8, cX8_init, 1, none, 3, 230, 4, 160)
def mi9_X0_init : zMI := (RX0, cX0_init, 1, none, 3, 230, 2, 80)
def mi9_X1_init : zMI := (RX1, cX1_init, 1, none, 3, 230, 0, 0)
def mi9_X5_init : zMI := (RX5, cX5_init, 1, none, 3, 230, 10, 567)
def mi9_X9_init : zMI := (RX9, cX9_init, 1, none, 3, 230, 1, 24)
def mi9_X2_init : zMI := (RX2, cX2_init, 1, none, 4, 250, 12, 309)
def mi9_X4_init : zMI := (RX4, cX4_init, 2, none, 3, 230, 3, 35)
def mi9_X6_init : zMI := (RX6, cX6_init, 4, none, 5, 272, 10, 204)
def mi9_X12_init : zMI := (RX12, cX12_init, 1, none, 4, 251, 24, 3152)
def mi9_X11_init : zMI := (RX11, cX11_init, 2, none, 9, 359, 88, 3167)
theorem zr_n {N : Nat} : zrefs N [] := fun b hb => by cases hb
theorem zr_r {N a : Nat} {vs : List Value} (h : a < N) (t : zrefs N vs) : zrefs N (.ref a :: vs) := fun b hb => by
  rcases List.mem_cons.mp hb with e | e
  · cases e
    exact Or.inl h
  · exact t b e
theorem zr_i {N : Nat} {x : Int32} {vs : List Value} (t : zrefs N vs) : zrefs N (.int x :: vs) := fun b hb => by
  rcases List.mem_cons.mp hb with e | e
  · cases e
  · exact t b e
theorem zr_l {N : Nat} {x : Int64} {vs : List Value} (t : zrefs N vs) : zrefs N (.long x :: vs) := fun b hb => by
  rcases List.mem_cons.mp hb with e | e
  · cases e
  · exact t b e
theorem zTa {T : zTT} {x : List (Nat × Nat)} {o : Nat} {t : Nat × Nat} (h : T[o]? = some t) : (T ++ x)[o]? = some t := by
  rw [List.getElem?_append_left (List.getElem?_eq_some_iff.mp h).1]
  exact h
theorem zTl {T : zTT} {N : Nat} {t : Nat × Nat} (h : T.length = N) : (T ++ [t])[N]? = some t := by
  subst h
  simp
theorem zag_up {ad ad0 : Nat → Nat} {N0 N q : Nat} (h : ∀ o, o < N0 ∨ zBIG ≤ o → ad o = ad0 o) (h1 : N0 ≤ N) (h2 : N < zBIG) : ∀ o, o < N0 ∨ zBIG ≤ o → va_up ad N q o = ad0 o := fun o ho => by
  rw [va_up_ne ad q (by omega)]
  exact h o ho
theorem zag_tr {ad ad0 ad1 : Nat → Nat} {N0 N : Nat} (h : ∀ o, o < N0 ∨ zBIG ≤ o → ad o = ad0 o) (h1 : ∀ o, o < N ∨ zBIG ≤ o → ad1 o = ad o) (h2 : N0 ≤ N) : ∀ o, o < N0 ∨ zBIG ≤ o → ad1 o = ad0 o := fun o ho => (h1 o (by omega)).trans (h o ho)
theorem lo_X11 : Cond.methodLink RX11 1 Lib.objectInit ∈ zgtbl ∧ Cond.instanceMethod Lib.objectInit ∈ zgtbl ∧ Cond.code Lib.objectInit ⟨#[0xb1]⟩ 1 none ∈ zgtbl := ⟨(zt1 30 rfl rfl), (zt1 31 rfl rfl), (zt1 32 rfl rfl)⟩
theorem li9_X11_9 : zLI RX11 9 yX10_init mi9_X10_init 0 := ⟨⟨zgw (zt1 35 rfl rfl), lm_X10_init.1, lm_X10_init.2.1, lm_X10_init.2.2.1, lm_X10_init.2.2.2⟩, rfl, (zt1 36 rfl rfl)⟩
theorem li9_X11_18 : zLI RX11 18 yX7_init mi9_X7_init 0 := ⟨⟨Or.inr ⟨"BathMinutes", by decide +kernel⟩, lm_X7_init.1, lm_X7_init.2.1, lm_X7_init.2.2.1, lm_X7_init.2.2.2⟩, rfl, (zt1 144 rfl rfl)⟩
theorem li9_X11_28 : zLI RX11 28 yX3_init mi9_X3_init 1 := ⟨⟨zgw (zt1 216 rfl rfl), lm_X3_init.1, lm_X3_init.2.1, lm_X3_init.2.2.1, lm_X3_init.2.2.2⟩, rfl, (zt1 217 rfl rfl)⟩
theorem li9_X11_40 : zLI RX11 40 yX8_init mi9_X8_init 0 := ⟨⟨Or.inr ⟨"BathMinutes", by decide +kernel⟩, lm_X8_init.1, lm_X8_init.2.1, lm_X8_init.2.2.1, lm_X8_init.2.2.2⟩, rfl, (zt1 235 rfl rfl)⟩
theorem li9_X11_50 : zLI RX11 50 yX0_init mi9_X0_init 0 := ⟨⟨Or.inr ⟨"BathMinutes", by decide +kernel⟩, lm_X0_init.1, lm_X0_init.2.1, lm_X0_init.2.2.1, lm_X0_init.2.2.2⟩, rfl, (zt2 21 rfl rfl)⟩
theorem li9_X11_57 : zLI RX11 57 yX5_init mi9_X5_init 0 := ⟨⟨Or.inr ⟨"BathMinutes", by decide +kernel⟩, lm_X5_init.1, lm_X5_init.2.1, lm_X5_init.2.2.1, lm_X5_init.2.2.2⟩, rfl, (zt2 54 rfl rfl)⟩
theorem li9_X11_64 : zLI RX11 64 yX6_init mi9_X6_init 3 := ⟨⟨zgw (zt2 71 rfl rfl), lm_X6_init.1, lm_X6_init.2.1, lm_X6_init.2.2.1, lm_X6_init.2.2.2⟩, rfl, (zt2 72 rfl rfl)⟩
theorem li9_X11_73 : zLI RX11 73 yX4_init mi9_X4_init 1 := ⟨⟨zgw (zt2 116 rfl rfl), lm_X4_init.1, lm_X4_init.2.1, lm_X4_init.2.2.1, lm_X4_init.2.2.2⟩, rfl, (zt2 117 rfl rfl)⟩
theorem li9_X11_80 : zLI RX11 80 yX1_init mi9_X1_init 0 := ⟨⟨Or.inr ⟨"BathMinutes", by decide +kernel⟩, lm_X1_init.1, lm_X1_init.2.1, lm_X1_init.2.2.1, lm_X1_init.2.2.2⟩, rfl, (zt2 145 rfl rfl)⟩
theorem li9_X11_87 : zLI RX11 87 yX9_init mi9_X9_init 0 := ⟨⟨Or.inr ⟨"BathMinutes", by decide +kernel⟩, lm_X9_init.1, lm_X9_init.2.1, lm_X9_init.2.2.1, lm_X9_init.2.2.2⟩, rfl, (zt2 155 rfl rfl)⟩
theorem li9_X11_98 : zLI RX11 98 yX2_init mi9_X2_init 0 := ⟨⟨Or.inr ⟨"BathMinutes", by decide +kernel⟩, lm_X2_init.1, lm_X2_init.2.1, lm_X2_init.2.2.1, lm_X2_init.2.2.2⟩, rfl, (zt2 171 rfl rfl)⟩
theorem lo_X0 : Cond.methodLink RX0 3 Lib.objectInit ∈ zgtbl ∧ Cond.instanceMethod Lib.objectInit ∈ zgtbl ∧ Cond.code Lib.objectInit ⟨#[0xb1]⟩ 1 none ∈ zgtbl := ⟨(zt2 23 rfl rfl), (zt1 31 rfl rfl), (zt1 32 rfl rfl)⟩
theorem lo_X1 : Cond.methodLink RX1 3 Lib.objectInit ∈ zgtbl ∧ Cond.instanceMethod Lib.objectInit ∈ zgtbl ∧ Cond.code Lib.objectInit ⟨#[0xb1]⟩ 1 none ∈ zgtbl := ⟨(zt2 147 rfl rfl), (zt1 31 rfl rfl), (zt1 32 rfl rfl)⟩
theorem lo_X2 : Cond.methodLink RX2 1 Lib.objectInit ∈ zgtbl ∧ Cond.instanceMethod Lib.objectInit ∈ zgtbl ∧ Cond.code Lib.objectInit ⟨#[0xb1]⟩ 1 none ∈ zgtbl := ⟨(zt2 173 rfl rfl), (zt1 31 rfl rfl), (zt1 32 rfl rfl)⟩
theorem li9_X2_9 : zLI RX2 9 yX7_init mi9_X7_init 0 := ⟨⟨Or.inr ⟨"BathMinutes", by decide +kernel⟩, lm_X7_init.1, lm_X7_init.2.1, lm_X7_init.2.2.1, lm_X7_init.2.2.2⟩, rfl, (zt1 144 rfl rfl)⟩
theorem li9_X2_18 : zLI RX2 18 yX8_init mi9_X8_init 0 := ⟨⟨Or.inr ⟨"BathMinutes", by decide +kernel⟩, lm_X8_init.1, lm_X8_init.2.1, lm_X8_init.2.2.1, lm_X8_init.2.2.2⟩, rfl, (zt1 235 rfl rfl)⟩
theorem lo_X3 : Cond.methodLink RX3 5 Lib.objectInit ∈ zgtbl ∧ Cond.instanceMethod Lib.objectInit ∈ zgtbl ∧ Cond.code Lib.objectInit ⟨#[0xb1]⟩ 1 none ∈ zgtbl := ⟨(zt1 219 rfl rfl), (zt1 31 rfl rfl), (zt1 32 rfl rfl)⟩
theorem lo_X4 : Cond.methodLink RX4 3 Lib.objectInit ∈ zgtbl ∧ Cond.instanceMethod Lib.objectInit ∈ zgtbl ∧ Cond.code Lib.objectInit ⟨#[0xb1]⟩ 1 none ∈ zgtbl := ⟨(zt2 119 rfl rfl), (zt1 31 rfl rfl), (zt1 32 rfl rfl)⟩
theorem lo_X5 : Cond.methodLink RX5 5 Lib.objectInit ∈ zgtbl ∧ Cond.instanceMethod Lib.objectInit ∈ zgtbl ∧ Cond.code Lib.objectInit ⟨#[0xb1]⟩ 1 none ∈ zgtbl := ⟨(zt2 56 rfl rfl), (zt1 31 rfl rfl), (zt1 32 rfl rfl)⟩
theorem lo_X6 : Cond.methodLink RX6 3 Lib.objectInit ∈ zgtbl ∧ Cond.instanceMethod Lib.objectInit ∈ zgtbl ∧ Cond.code Lib.objectInit ⟨#[0xb1]⟩ 1 none ∈ zgtbl := ⟨(zt2 74 rfl rfl), (zt1 31 rfl rfl), (zt1 32 rfl rfl)⟩
theorem li9_X6_33 : zLI RX6 33 yX3_init mi9_X3_init 1 := ⟨⟨zgw (zt2 76 rfl rfl), lm_X3_init.1, lm_X3_init.2.1, lm_X3_init.2.2.1, lm_X3_init.2.2.2⟩, rfl, (zt1 217 rfl rfl)⟩
theorem lo_X7 : Cond.methodLink RX7 5 Lib.objectInit ∈ zgtbl ∧ Cond.instanceMethod Lib.objectInit ∈ zgtbl ∧ Cond.code Lib.objectInit ⟨#[0xb1]⟩ 1 none ∈ zgtbl := ⟨(zt1 146 rfl rfl), (zt1 31 rfl rfl), (zt1 32 rfl rfl)⟩
theorem lo_X8 : Cond.methodLink RX8 5 Lib.objectInit ∈ zgtbl ∧ Cond.instanceMethod Lib.objectInit ∈ zgtbl ∧ Cond.code Lib.objectInit ⟨#[0xb1]⟩ 1 none ∈ zgtbl := ⟨(zt1 237 rfl rfl), (zt1 31 rfl rfl), (zt1 32 rfl rfl)⟩
theorem lo_X9 : Cond.methodLink RX9 3 Lib.objectInit ∈ zgtbl ∧ Cond.instanceMethod Lib.objectInit ∈ zgtbl ∧ Cond.code Lib.objectInit ⟨#[0xb1]⟩ 1 none ∈ zgtbl := ⟨(zt2 157 rfl rfl), (zt1 31 rfl rfl), (zt1 32 rfl rfl)⟩
theorem lo_X10 : Cond.methodLink RX10 3 Lib.objectInit ∈ zgtbl ∧ Cond.instanceMethod Lib.objectInit ∈ zgtbl ∧ Cond.code Lib.objectInit ⟨#[0xb1]⟩ 1 none ∈ zgtbl := ⟨(zt1 38 rfl rfl), (zt1 31 rfl rfl), (zt1 32 rfl rfl)⟩
theorem lo_X12 : Cond.methodLink RX12 93 Lib.objectInit ∈ zgtbl ∧ Cond.instanceMethod Lib.objectInit ∈ zgtbl ∧ Cond.code Lib.objectInit ⟨#[0xb1]⟩ 1 none ∈ zgtbl := ⟨(zt6 83 rfl rfl), (zt1 31 rfl rfl), (zt1 32 rfl rfl)⟩
theorem ld9_X11 : Cond.instantiable RX11 14 ∈ zgtbl ∧ Cond.initialized RX11 ∈ zgtbl := ⟨zt1 26 rfl rfl, (zt1 1 rfl rfl)⟩
theorem lw9_X11_7 : Cond.classLink RX11 7 "BathMinutes$Tape" ∈ zgtbl := zt1 33 rfl rfl
theorem ld9_X10 : Cond.instantiable RX10 12 ∈ zgtbl ∧ Cond.initialized RX10 ∈ zgtbl := ⟨zt1 34 rfl rfl, (zt1 2 rfl rfl)⟩
theorem lw9_X11_16 : Cond.classLink RX11 16 "BathMinutes$Room" ∈ zgtbl := zt1 141 rfl rfl
theorem ld9_X7 : Cond.instantiable RX7 12 ∈ zgtbl ∧ Cond.initialized RX7 ∈ zgtbl := ⟨zt1 142 rfl rfl, (zt1 7 rfl rfl)⟩
theorem lw9_X11_26 : Cond.classLink RX11 26 "BathMinutes$Lab" ∈ zgtbl := zt1 214 rfl rfl
theorem ld9_X3 : Cond.instantiable RX3 2 ∈ zgtbl ∧ Cond.initialized RX3 ∈ zgtbl := ⟨zt1 215 rfl rfl, (zt1 8 rfl rfl)⟩
theorem lw9_X11_38 : Cond.classLink RX11 38 "BathMinutes$Sentence" ∈ zgtbl := zt1 232 rfl rfl
theorem ld9_X8 : Cond.instantiable RX8 6 ∈ zgtbl ∧ Cond.initialized RX8 ∈ zgtbl := ⟨zt1 233 rfl rfl, (zt1 9 rfl rfl)⟩
theorem lw9_X11_48 : Cond.classLink RX11 48 "BathMinutes$Book" ∈ zgtbl := zt2 18 rfl rfl
theorem ld9_X0 : Cond.instantiable RX0 8 ∈ zgtbl ∧ Cond.initialized RX0 ∈ zgtbl := ⟨zt2 19 rfl rfl, (zt1 10 rfl rfl)⟩
theorem lw9_X11_55 : Cond.classLink RX11 55 "BathMinutes$Past" ∈ zgtbl := zt2 51 rfl rfl
theorem ld9_X5 : Cond.instantiable RX5 3 ∈ zgtbl ∧ Cond.initialized RX5 ∈ zgtbl := ⟨zt2 52 rfl rfl, (zt1 11 rfl rfl)⟩
theorem lw9_X5_13 : Cond.classLink RX5 13 "[[I" ∈ zgtbl := zt2 57 rfl rfl
theorem lw9_X11_62 : Cond.classLink RX11 62 "BathMinutes$Plan" ∈ zgtbl := zt2 69 rfl rfl
theorem ld9_X6 : Cond.instantiable RX6 11 ∈ zgtbl ∧ Cond.initialized RX6 ∈ zgtbl := ⟨zt2 70 rfl rfl, (zt1 12 rfl rfl)⟩
theorem lw9_X6_31 : Cond.classLink RX6 31 "BathMinutes$Lab" ∈ zgtbl := zt2 75 rfl rfl
theorem lw9_X11_71 : Cond.classLink RX11 71 "BathMinutes$Papers" ∈ zgtbl := zt2 114 rfl rfl
theorem ld9_X4 : Cond.instantiable RX4 6 ∈ zgtbl ∧ Cond.initialized RX4 ∈ zgtbl := ⟨zt2 115 rfl rfl, (zt1 13 rfl rfl)⟩
theorem lw9_X11_78 : Cond.classLink RX11 78 "BathMinutes$Draws" ∈ zgtbl := zt2 142 rfl rfl
theorem ld9_X1 : Cond.instantiable RX1 1 ∈ zgtbl ∧ Cond.initialized RX1 ∈ zgtbl := ⟨zt2 143 rfl rfl, (zt1 14 rfl rfl)⟩
theorem lw9_X11_85 : Cond.classLink RX11 85 "BathMinutes$Tag" ∈ zgtbl := zt2 152 rfl rfl
theorem ld9_X9 : Cond.instantiable RX9 2 ∈ zgtbl ∧ Cond.initialized RX9 ∈ zgtbl := ⟨zt2 153 rfl rfl, (zt1 15 rfl rfl)⟩
theorem lw9_X11_92 : Cond.classLink RX11 92 "BathMinutes$Image" ∈ zgtbl := zt2 167 rfl rfl
theorem ld9_X2 : Cond.instantiable RX2 4 ∈ zgtbl ∧ Cond.initialized RX2 ∈ zgtbl := ⟨zt2 169 rfl rfl, (zt1 16 rfl rfl)⟩
theorem lw9_X2_7 : Cond.classLink RX2 7 "BathMinutes$Room" ∈ zgtbl := zt2 174 rfl rfl
theorem lw9_X2_16 : Cond.classLink RX2 16 "BathMinutes$Sentence" ∈ zgtbl := zt2 176 rfl rfl
theorem lw9_X11_163 : Cond.classLink RX11 163 "java/util/NoSuchElementException" ∈ zgtbl := zt5 211 rfl rfl
theorem ld9_X12 : Cond.instantiable RX12 52 ∈ zgtbl ∧ Cond.initialized RX12 ∈ zgtbl := ⟨zt6 73 rfl rfl, (zt1 17 rfl rfl)⟩
theorem la9_I : Cond.arrayClass .int ∈ zgtbl := (zt1 138 rfl rfl)
theorem la9_L : Cond.arrayClass .long ∈ zgtbl := (zt1 139 rfl rfl)
theorem la9_Z : Cond.arrayClass .boolean ∈ zgtbl := (zt7 5 rfl rfl)
theorem fr_X11_10 : zFR RX11 10 11 0 (.object "BathMinutes$Tape") := ⟨_, rfl, by decide, rfl, rfl, (zt2 192 rfl rfl), rfl, by decide +kernel⟩
theorem fr_X11_19 : zFR RX11 19 11 1 (.object "BathMinutes$Room") := ⟨_, rfl, by decide, rfl, rfl, (zt2 193 rfl rfl), rfl, by decide +kernel⟩
theorem fr_X11_23 : zFR RX11 23 11 2 (.object "BathMinutes$Room") := ⟨_, rfl, by decide, rfl, rfl, (zt2 194 rfl rfl), rfl, by decide +kernel⟩
theorem fr_X11_31 : zFR RX11 31 11 3 (.object "BathMinutes$Lab") := ⟨_, rfl, by decide, rfl, rfl, (zt2 195 rfl rfl), rfl, by decide +kernel⟩
theorem fr_X11_35 : zFR RX11 35 11 4 (.object "BathMinutes$Lab") := ⟨_, rfl, by decide, rfl, rfl, (zt2 196 rfl rfl), rfl, by decide +kernel⟩
theorem fr_X11_41 : zFR RX11 41 11 5 (.object "BathMinutes$Sentence") := ⟨_, rfl, by decide, rfl, rfl, (zt2 197 rfl rfl), rfl, by decide +kernel⟩
theorem fr_X11_45 : zFR RX11 45 11 6 (.object "BathMinutes$Sentence") := ⟨_, rfl, by decide, rfl, rfl, (zt2 198 rfl rfl), rfl, by decide +kernel⟩
theorem fr_X11_51 : zFR RX11 51 11 7 (.object "BathMinutes$Book") := ⟨_, rfl, by decide, rfl, rfl, (zt2 199 rfl rfl), rfl, by decide +kernel⟩
theorem fr_X11_58 : zFR RX11 58 11 8 (.object "BathMinutes$Past") := ⟨_, rfl, by decide, rfl, rfl, (zt2 200 rfl rfl), rfl, by decide +kernel⟩
theorem fr_X11_67 : zFR RX11 67 11 9 (.object "BathMinutes$Plan") := ⟨_, rfl, by decide, rfl, rfl, (zt2 201 rfl rfl), rfl, by decide +kernel⟩
theorem fr_X11_74 : zFR RX11 74 11 10 (.object "BathMinutes$Papers") := ⟨_, rfl, by decide, rfl, rfl, (zt2 202 rfl rfl), rfl, by decide +kernel⟩
theorem fr_X11_81 : zFR RX11 81 11 11 (.object "BathMinutes$Draws") := ⟨_, rfl, by decide, rfl, rfl, (zt2 203 rfl rfl), rfl, by decide +kernel⟩
theorem fr_X11_88 : zFR RX11 88 11 12 (.object "BathMinutes$Tag") := ⟨_, rfl, by decide, rfl, rfl, (zt2 204 rfl rfl), rfl, by decide +kernel⟩
theorem fr_X11_94 : zFR RX11 94 11 13 (.array (.object "BathMinutes$Image")) := ⟨_, rfl, by decide, rfl, rfl, (zt2 205 rfl rfl), rfl, by decide +kernel⟩
theorem fr_X0_11 : zFR RX0 11 0 0 (.array .int) := ⟨_, rfl, by decide, rfl, rfl, (zt2 24 rfl rfl), rfl, by decide +kernel⟩
theorem fr_X0_15 : zFR RX0 15 0 1 (.array .int) := ⟨_, rfl, by decide, rfl, rfl, (zt2 25 rfl rfl), rfl, by decide +kernel⟩
theorem fr_X2_10 : zFR RX2 10 2 0 (.object "BathMinutes$Room") := ⟨_, rfl, by decide, rfl, rfl, (zt2 178 rfl rfl), rfl, by decide +kernel⟩
theorem fr_X2_19 : zFR RX2 19 2 1 (.object "BathMinutes$Sentence") := ⟨_, rfl, by decide, rfl, rfl, (zt2 179 rfl rfl), rfl, by decide +kernel⟩
theorem fr_X2_25 : zFR RX2 25 2 2 (.array .int) := ⟨_, rfl, by decide, rfl, rfl, (zt2 180 rfl rfl), rfl, by decide +kernel⟩
theorem fr_X3_11 : zFR RX3 11 3 1 (.array .int) := ⟨_, rfl, by decide, rfl, rfl, (zt1 226 rfl rfl), rfl, by decide +kernel⟩
theorem fr_X3_15 : zFR RX3 15 3 0 (.object "BathMinutes$Room") := ⟨_, rfl, by decide, rfl, rfl, (zt1 224 rfl rfl), rfl, by decide +kernel⟩
theorem fr_X4_9 : zFR RX4 9 4 1 (.array .int) := ⟨_, rfl, by decide, rfl, rfl, (zt2 121 rfl rfl), rfl, by decide +kernel⟩
theorem fr_X4_15 : zFR RX4 15 4 2 (.array .int) := ⟨_, rfl, by decide, rfl, rfl, (zt2 122 rfl rfl), rfl, by decide +kernel⟩
theorem fr_X4_18 : zFR RX4 18 4 3 (.array .int) := ⟨_, rfl, by decide, rfl, rfl, (zt2 123 rfl rfl), rfl, by decide +kernel⟩
theorem fr_X4_25 : zFR RX4 25 4 0 (.object "BathMinutes$Room") := ⟨_, rfl, by decide, rfl, rfl, (zt2 120 rfl rfl), rfl, by decide +kernel⟩
theorem fr_X5_15 : zFR RX5 15 5 0 (.array (.array .int)) := ⟨_, rfl, by decide, rfl, rfl, (zt2 59 rfl rfl), rfl, by decide +kernel⟩
theorem fr_X6_11 : zFR RX6 11 6 5 (.array .int) := ⟨_, rfl, by decide, rfl, rfl, (zt2 82 rfl rfl), rfl, by decide +kernel⟩
theorem fr_X6_15 : zFR RX6 15 6 6 (.array .int) := ⟨_, rfl, by decide, rfl, rfl, (zt2 83 rfl rfl), rfl, by decide +kernel⟩
theorem fr_X6_18 : zFR RX6 18 6 8 (.array .int) := ⟨_, rfl, by decide, rfl, rfl, (zt2 85 rfl rfl), rfl, by decide +kernel⟩
theorem fr_X6_21 : zFR RX6 21 6 9 (.array .int) := ⟨_, rfl, by decide, rfl, rfl, (zt2 87 rfl rfl), rfl, by decide +kernel⟩
theorem fr_X6_24 : zFR RX6 24 6 0 (.object "BathMinutes$Lab") := ⟨_, rfl, by decide, rfl, rfl, (zt2 77 rfl rfl), rfl, by decide +kernel⟩
theorem fr_X6_28 : zFR RX6 28 6 1 (.object "BathMinutes$Lab") := ⟨_, rfl, by decide, rfl, rfl, (zt2 78 rfl rfl), rfl, by decide +kernel⟩
theorem fr_X6_36 : zFR RX6 36 6 2 (.object "BathMinutes$Lab") := ⟨_, rfl, by decide, rfl, rfl, (zt2 79 rfl rfl), rfl, by decide +kernel⟩
theorem fr_X6_39 : zFR RX6 39 6 3 (.object "BathMinutes$Lab") := ⟨_, rfl, by decide, rfl, rfl, (zt2 80 rfl rfl), rfl, by decide +kernel⟩
theorem fr_X6_42 : zFR RX6 42 6 4 (.object "BathMinutes$Lab") := ⟨_, rfl, by decide, rfl, rfl, (zt2 81 rfl rfl), rfl, by decide +kernel⟩
theorem fr_X7_15 : zFR RX7 15 7 6 (.array .int) := ⟨_, rfl, by decide, rfl, rfl, (zt1 174 rfl rfl), rfl, by decide +kernel⟩
theorem fr_X7_19 : zFR RX7 19 7 7 (.array .int) := ⟨_, rfl, by decide, rfl, rfl, (zt1 177 rfl rfl), rfl, by decide +kernel⟩
theorem fr_X7_22 : zFR RX7 22 7 8 (.array .int) := ⟨_, rfl, by decide, rfl, rfl, (zt1 180 rfl rfl), rfl, by decide +kernel⟩
theorem fr_X7_25 : zFR RX7 25 7 9 (.array .long) := ⟨_, rfl, by decide, rfl, rfl, (zt1 185 rfl rfl), rfl, by decide +kernel⟩
theorem fr_X7_29 : zFR RX7 29 7 10 (.array .int) := ⟨_, rfl, by decide, rfl, rfl, (zt1 187 rfl rfl), rfl, by decide +kernel⟩
theorem fr_X8_11 : zFR RX8 11 8 2 (.array .int) := ⟨_, rfl, by decide, rfl, rfl, (zt2 1 rfl rfl), rfl, by decide +kernel⟩
theorem fr_X8_15 : zFR RX8 15 8 3 (.array .int) := ⟨_, rfl, by decide, rfl, rfl, (zt2 2 rfl rfl), rfl, by decide +kernel⟩
theorem fr_X8_18 : zFR RX8 18 8 4 (.array .int) := ⟨_, rfl, by decide, rfl, rfl, (zt2 3 rfl rfl), rfl, by decide +kernel⟩
theorem fr_X8_21 : zFR RX8 21 8 5 (.array .int) := ⟨_, rfl, by decide, rfl, rfl, (zt2 4 rfl rfl), rfl, by decide +kernel⟩
theorem fr_X9_11 : zFR RX9 11 9 0 (.array .int) := ⟨_, rfl, by decide, rfl, rfl, (zt2 158 rfl rfl), rfl, by decide +kernel⟩
theorem fr_X10_11 : zFR RX10 11 10 0 (.array .int) := ⟨_, rfl, by decide, rfl, rfl, (zt1 89 rfl rfl), rfl, by decide +kernel⟩
theorem fr_X10_15 : zFR RX10 15 10 11 (.array .long) := ⟨_, rfl, by decide, rfl, rfl, (zt1 112 rfl rfl), rfl, by decide +kernel⟩
theorem fr_X12_7 : zFR RX12 7 12 1 (.array .int) := ⟨_, rfl, by decide, rfl, rfl, (zt6 89 rfl rfl), rfl, by decide +kernel⟩
theorem fr_X12_98 : zFR RX12 98 12 14 (.array .int) := ⟨_, rfl, by decide, rfl, rfl, (zt6 102 rfl rfl), rfl, by decide +kernel⟩
theorem fr_X12_101 : zFR RX12 101 12 15 (.array .int) := ⟨_, rfl, by decide, rfl, rfl, (zt6 103 rfl rfl), rfl, by decide +kernel⟩
theorem fr_X12_104 : zFR RX12 104 12 16 (.array .int) := ⟨_, rfl, by decide, rfl, rfl, (zt6 104 rfl rfl), rfl, by decide +kernel⟩
theorem fr_X12_107 : zFR RX12 107 12 17 (.array .int) := ⟨_, rfl, by decide, rfl, rfl, (zt6 105 rfl rfl), rfl, by decide +kernel⟩
theorem fr_X12_110 : zFR RX12 110 12 18 (.array .int) := ⟨_, rfl, by decide, rfl, rfl, (zt6 106 rfl rfl), rfl, by decide +kernel⟩
theorem fr_X12_113 : zFR RX12 113 12 19 (.array .int) := ⟨_, rfl, by decide, rfl, rfl, (zt6 107 rfl rfl), rfl, by decide +kernel⟩
theorem fr_X12_116 : zFR RX12 116 12 20 (.array .int) := ⟨_, rfl, by decide, rfl, rfl, (zt6 108 rfl rfl), rfl, by decide +kernel⟩
theorem fr_X12_119 : zFR RX12 119 12 21 (.array .long) := ⟨_, rfl, by decide, rfl, rfl, (zt6 109 rfl rfl), rfl, by decide +kernel⟩
theorem fr_X12_123 : zFR RX12 123 12 22 (.array .long) := ⟨_, rfl, by decide, rfl, rfl, (zt6 110 rfl rfl), rfl, by decide +kernel⟩
theorem fr_X12_126 : zFR RX12 126 12 23 (.array .long) := ⟨_, rfl, by decide, rfl, rfl, (zt6 111 rfl rfl), rfl, by decide +kernel⟩
theorem fr_X12_129 : zFR RX12 129 12 24 (.array .boolean) := ⟨_, rfl, by decide, rfl, rfl, (zt6 112 rfl rfl), rfl, by decide +kernel⟩
theorem fr_X12_133 : zFR RX12 133 12 27 (.array .int) := ⟨_, rfl, by decide, rfl, rfl, (zt6 115 rfl rfl), rfl, by decide +kernel⟩
theorem fr_X12_136 : zFR RX12 136 12 28 (.array .int) := ⟨_, rfl, by decide, rfl, rfl, (zt6 116 rfl rfl), rfl, by decide +kernel⟩
theorem fr_X12_139 : zFR RX12 139 12 29 (.array .int) := ⟨_, rfl, by decide, rfl, rfl, (zt6 117 rfl rfl), rfl, by decide +kernel⟩
theorem fr_X12_142 : zFR RX12 142 12 30 (.array .int) := ⟨_, rfl, by decide, rfl, rfl, (zt6 118 rfl rfl), rfl, by decide +kernel⟩
theorem fr_X12_145 : zFR RX12 145 12 33 (.array .int) := ⟨_, rfl, by decide, rfl, rfl, (zt6 121 rfl rfl), rfl, by decide +kernel⟩
theorem fr_X12_148 : zFR RX12 148 12 34 (.array .int) := ⟨_, rfl, by decide, rfl, rfl, (zt6 122 rfl rfl), rfl, by decide +kernel⟩
theorem fr_X12_154 : zFR RX12 154 12 36 (.array .int) := ⟨_, rfl, by decide, rfl, rfl, (zt6 124 rfl rfl), rfl, by decide +kernel⟩
theorem fr_X12_157 : zFR RX12 157 12 37 (.array .int) := ⟨_, rfl, by decide, rfl, rfl, (zt6 125 rfl rfl), rfl, by decide +kernel⟩
theorem fr_X12_160 : zFR RX12 160 12 40 (.array .int) := ⟨_, rfl, by decide, rfl, rfl, (zt6 128 rfl rfl), rfl, by decide +kernel⟩
theorem fr_X12_163 : zFR RX12 163 12 43 (.array .int) := ⟨_, rfl, by decide, rfl, rfl, (zt6 131 rfl rfl), rfl, by decide +kernel⟩
theorem fr_X12_166 : zFR RX12 166 12 44 (.array .int) := ⟨_, rfl, by decide, rfl, rfl, (zt6 132 rfl rfl), rfl, by decide +kernel⟩
theorem fr_X12_169 : zFR RX12 169 12 47 (.array .int) := ⟨_, rfl, by decide, rfl, rfl, (zt6 135 rfl rfl), rfl, by decide +kernel⟩
abbrev sR_X10_0 (R : zRR) (a0 N : Nat) : zRR := (zwR R a0 0 N)
theorem sok_X10_0 {R : zRR} {N a0 : Nat} (hR : zRok N R) (ha0 : a0 < N) : zRok (N + 1) (sR_X10_0 R a0 N) := (zRok.w (zRok.mono (N := N) hR (by omega)) (by omega) (by omega))
abbrev sT_X10_0 (T : zTT) : zTT := (T ++ [(1, 940)])
abbrev sR_X10_1 (R : zRR) (a0 N : Nat) : zRR := (zwR (sR_X10_0 R a0 N) a0 11 (N + 1))
theorem sok_X10_1 {R : zRR} {N a0 : Nat} (hR : zRok N R) (ha0 : a0 < N) : zRok (N + 2) (sR_X10_1 R a0 N) := (zRok.w (zRok.mono (N := (N + 1)) (sok_X10_0 hR ha0) (by omega)) (by omega) (by omega))
abbrev sT_X10_1 (T : zTT) : zTT := ((sT_X10_0 T) ++ [(2, 24)])
abbrev cT_X10 (T : zTT) : zTT := (sT_X10_1 T)
abbrev cR_X10 (R : zRR) (a0 N : Nat) : zRR := (sR_X10_1 R a0 N)
theorem zTb_X10 {T : zTT} {o : Nat} {t : Nat × Nat} (h : T[o]? = some t) : (cT_X10 T)[o]? = some t := (zTa (zTa h))
theorem rok_X10 {R : zRR} {N a0 : Nat} (hR : zRok N R) (ha0 : a0 < N) : zRok (N + 2) (cR_X10 R a0 N) := (sok_X10_1 hR ha0)
def mf_X10_init_b80 (R : zRR) (a0 : Nat) (H25 : Int32 → Int32 → zMem → Option (Unit × zMem)) (i1 : Int32) (i2 : Int32) (M : zMem) : Option (Unit × zMem) :=
  H25 i1 (i2 + 1) M
theorem mt_X10_init_b80 {C : zCx} {Q : Unit → zMem → State → Prop} {k n : Nat} {ad : Nat → Nat} {T : zTT} {R : zRR} {a0 : Nat} (h0 : zi10 T R a0) (hret : ∀ M : zMem, zX C mi9_X10_init Q k n (some ((), M)) 86 [] [] ad T R M) {H25 : Int32 → Int32 → zMem → Option (Unit × zMem)} (hH25 : ∀ (i1 : Int32) (i2 : Int32) (M : zMem), zX C mi9_X10_init Q k n (H25 i1 i2 M) 25 [(0, .ref a0), (1, .int i1), (2, .int i2)] [] ad T R M) (i1 : Int32) (i2 : Int32) (M : zMem) : zX C mi9_X10_init Q k n (mf_X10_init_b80 R a0 H25 i1 i2 M) 80 [(0, .ref a0), (1, .int i1), (2, .int i2)] [] ad T R M := by
  unfold mf_X10_init_b80
  refine zx_iinc (v := 1) (ls' := [(2, .int (i2 + 1)), (0, .ref a0), (1, .int i1)]) (zd me_X10_init 45 rfl) (Nat.le_of_ble_eq_true rfl) 2 rfl (by decide) rfl ?_
  refine zx_goto (tgt := 25) (zd me_X10_init 46 rfl) (by decide) ?_
  refine zx_loc [1, 2, 0] rfl ?_
  exact hH25 i1 (i2 + 1) M
def mf_X10_init_l25 (R : zRR) (a0 : Nat) : Nat → Int32 → Int32 → zMem → Option (Unit × zMem)
  | 0, _, _, _ => none
  | fuel + 1, i1, i2, M =>
    if (zslen 0) ≤ i2 then
      (some ((), M))
    else
      (if (24 : Int32) ≤ i1 then
        (some ((), M))
      else
        (zald (zlenJS.getD 0 0) i2 fun j3 =>
        zlet ((zsch 0 j3) : Int32) fun x4 =>
        if x4 = (32 : Int32) then
          (mf_X10_init_b80 R a0 (mf_X10_init_l25 R a0 fuel) (i1 + 1) i2 M)
        else
          (zald 24 i1 fun j6 =>
          zald 24 i1 fun j7 =>
          zlet (zwL M (zrf R a0 11) j7 ((((M.2 (zrf R a0 11) j6) <<< ((5 : Int32).toInt64 &&& 63)) + x4.toInt64) - (96 : Int64))) fun M8 =>
          mf_X10_init_b80 R a0 (mf_X10_init_l25 R a0 fuel) i1 i2 M8)))
theorem mt_X10_init_l25 {C : zCx} {Q : Unit → zMem → State → Prop} {k n : Nat} {ad : Nat → Nat} {T : zTT} {R : zRR} {a0 : Nat} (h0 : zi10 T R a0) (hret : ∀ M : zMem, zX C mi9_X10_init Q k n (some ((), M)) 86 [] [] ad T R M) : ∀ (fuel : Nat) (i1 : Int32) (i2 : Int32) (M : zMem), zX C mi9_X10_init Q k n (mf_X10_init_l25 R a0 fuel i1 i2 M) 25 [(0, .ref a0), (1, .int i1), (2, .int i2)] [] ad T R M := by
  intro fuel
  induction fuel with
  | zero => intros; exact zx_none
  | succ fuel ih =>
    intro i1 i2 M
    rw [mf_X10_init_l25]
    refine zx_iload_n (i := 2) (zd me_X10_init 14 rfl) rfl 2 rfl ?_
    refine zx_ldcS (zd me_X10_init 15 rfl) 0 (by decide) rfl rfl ?_
    refine zx_strlen (zd me_X10_init 16 rfl) lk_X10_21 ⟨(Nat.le_of_ble_eq_true rfl), (Nat.le_of_ble_eq_true rfl)⟩ (Nat.le_of_ble_eq_true rfl) (by decide) ?_
    refine zx_icmp_ge (tgt := 86) (zd me_X10_init 17 rfl) (by decide) (fun c1 => ?_) (fun c1 => ?_)
    · refine zx_loc [] rfl ?_
      exact hret M
    · refine zx_iload_n (i := 1) (zd me_X10_init 18 rfl) rfl 1 rfl ?_
      refine zx_bipush (v := 24) (zd me_X10_init 19 rfl) (by decide) ?_
      refine zx_icmp_ge (tgt := 86) (zd me_X10_init 20 rfl) (by decide) (fun c2 => ?_) (fun c2 => ?_)
      · refine zx_loc [] rfl ?_
        exact hret M
      · refine zx_ldcS (zd me_X10_init 21 rfl) 0 (by decide) rfl rfl ?_
        refine zx_iload_n (i := 2) (zd me_X10_init 22 rfl) rfl 2 rfl ?_
        refine zx_charAt (zd me_X10_init 23 rfl) lk_X10_27 ⟨(Nat.le_of_ble_eq_true rfl), (Nat.le_of_ble_eq_true rfl)⟩ (Nat.le_of_ble_eq_true rfl) (by decide) (fun j3 => ?_)
        refine zx_leti (fun x4 => ?_)
        refine zx_istore_n (i := 3) (ls' := [(3, .int x4), (0, .ref a0), (1, .int i1), (2, .int i2)]) (zd me_X10_init 24 rfl) rfl (Nat.le_of_ble_eq_true rfl) rfl ?_
        refine zx_iload_n (i := 3) (zd me_X10_init 25 rfl) rfl 0 rfl ?_
        refine zx_bipush (v := 32) (zd me_X10_init 26 rfl) (by decide) ?_
        refine zx_icmp_ne (tgt := 59) (zd me_X10_init 27 rfl) (by decide) (fun c5 => ?_) (fun c5 => ?_)
        · refine zx_aload_n (i := 0) (zd me_X10_init 30 rfl) rfl 1 rfl ?_
          refine zx_getR (zd me_X10_init 31 rfl) fl_X10_15 (zi10_c h0) rfl (zi10_r11 h0) ?_
          refine zx_iload_n (i := 1) (zd me_X10_init 32 rfl) rfl 2 rfl ?_
          refine zx_aload_n (i := 0) (zd me_X10_init 33 rfl) rfl 1 rfl ?_
          refine zx_getR (zd me_X10_init 34 rfl) fl_X10_15 (zi10_c h0) rfl (zi10_r11 h0) ?_
          refine zx_iload_n (i := 1) (zd me_X10_init 35 rfl) rfl 2 rfl ?_
          refine zx_lald (zd me_X10_init 36 rfl) (zi10_t11 h0) (fun j6 hj6 => ?_)
          refine zx_iconst (v := 5) (zd me_X10_init 37 rfl) (by decide) ?_
          refine zx_lshl (zd me_X10_init 38 rfl) ?_
          refine zx_iload_n (i := 3) (zd me_X10_init 39 rfl) rfl 0 rfl ?_
          refine zx_i2l (zd me_X10_init 40 rfl) ?_
          refine zx_ladd (zd me_X10_init 41 rfl) ?_
          refine zx_ldc2 (v := 96) (zd me_X10_init 42 rfl) (zt1 88 rfl rfl) ?_
          refine zx_lsub (zd me_X10_init 43 rfl) ?_
          refine zx_last (zd me_X10_init 44 rfl) (zi10_t11 h0) (fun M8 => ?_)
          refine zx_loc [1, 2, 3] rfl ?_
          exact mt_X10_init_b80 h0 hret ih i1 i2 M8
        · refine zx_iinc (v := 1) (ls' := [(1, .int (i1 + 1)), (3, .int x4), (0, .ref a0), (2, .int i2)]) (zd me_X10_init 28 rfl) (Nat.le_of_ble_eq_true rfl) 2 rfl (by decide) rfl ?_
          refine zx_goto (tgt := 80) (zd me_X10_init 29 rfl) (by decide) ?_
          refine zx_loc [2, 0, 3] rfl ?_
          exact mt_X10_init_b80 h0 hret ih (i1 + 1) i2 M
def cf_X10 (R : zRR) (a0 N : Nat) (M : zMem) : Option (Unit × zMem) :=
  mf_X10_init_l25 (sR_X10_1 R a0 N) a0 zF (0 : Int32) (0 : Int32) (zrow0 (zrow0 M N) (N + 1))
def hW_X10 (T : zTT) (R : zRR) (a0 N : Nat) : Prop := zi10 (sT_X10_1 T) (sR_X10_1 R a0 N) a0
set_option maxRecDepth 100000 in
theorem mk_X10 (l : Launch) {T : zTT} {R : zRR} {N a0 : Nat} {M : zMem} (hN : T.length = N) (hB : N + 2 ≤ 900000) (hR : zRok N R) (ha0 : a0 < N) (ht : T[a0]? = some (0, 10)) (hw0 : hW_X10 T R a0 N) : zMC l yX10_init mi9_X10_init (cf_X10 R a0 N M) [.ref a0] N T R M (cT_X10 T) (cR_X10 R a0 N) := by
  refine zMC.of (by decide +kernel) rfl (Nat.le_of_ble_eq_true rfl) (fun C ad _ hnm => ?_)
  show zX C mi9_X10_init (zFinC C mi9_X10_init ad N (cT_X10 T) (cR_X10 R a0 N)) 0 0 (cf_X10 R a0 N M) 0 [(0, .ref a0)] [] ad T R M
  unfold cf_X10
  refine zx_aload_n (i := 0) (zd me_X10_init 0 rfl) rfl 0 rfl ?_
  refine zx_objInit (zd me_X10_init 1 rfl) lo_X10 ⟨(Nat.le_of_ble_eq_true rfl), (Nat.le_of_ble_eq_true rfl)⟩ ?_
  refine zx_aload_n (i := 0) (zd me_X10_init 2 rfl) rfl 0 rfl ?_
  refine zx_sipush (v := 940) (zd me_X10_init 3 rfl) (by decide) ?_
  refine zx_newaI (NN := 940) (zd me_X10_init 4 rfl) la9_I (by decide) (by decide) (by decide) ⟨(Nat.le_of_ble_eq_true rfl), (Nat.le_of_ble_eq_true rfl)⟩ hN hR (by unfold zBIG; omega) (zr_r (by omega) zr_n) (zr_r (by omega) zr_n) (fun q1 => ?_)
  refine zx_putR (zd me_X10_init 5 rfl) fr_X10_11 hnm (zTa ht) rfl (fun _ => ⟨rfl, rfl⟩) ?_
  refine zx_aload_n (i := 0) (zd me_X10_init 6 rfl) rfl 0 rfl ?_
  refine zx_bipush (v := 24) (zd me_X10_init 7 rfl) (by decide) ?_
  refine zx_newaL (NN := 24) (zd me_X10_init 8 rfl) la9_L (by decide) (by decide) (by decide) ⟨(Nat.le_of_ble_eq_true rfl), (Nat.le_of_ble_eq_true rfl)⟩ (by simp [hN]) (sok_X10_0 hR ha0) (by unfold zBIG; omega) (zr_r (by omega) zr_n) (zr_r (by omega) zr_n) (fun q2 => ?_)
  refine zx_putR (zd me_X10_init 9 rfl) fr_X10_15 hnm (zTa (zTa ht)) rfl (fun _ => ⟨rfl, rfl⟩) ?_
  refine zx_iconst (v := 0) (zd me_X10_init 10 rfl) (by decide) ?_
  refine zx_istore_n (i := 1) (ls' := [(1, .int (0 : Int32)), (0, .ref a0)]) (zd me_X10_init 11 rfl) rfl (Nat.le_of_ble_eq_true rfl) rfl ?_
  refine zx_iconst (v := 0) (zd me_X10_init 12 rfl) (by decide) ?_
  refine zx_istore_n (i := 2) (ls' := [(2, .int (0 : Int32)), (1, .int (0 : Int32)), (0, .ref a0)]) (zd me_X10_init 13 rfl) rfl (Nat.le_of_ble_eq_true rfl) rfl ?_
  refine zx_loc [2, 1, 0] rfl ?_
  exact mt_X10_init_l25 hw0 (fun M2 => zx_vretC (zd me_X10_init 47 rfl) rfl rfl rfl ⟨(Nat.le_of_ble_eq_true rfl), (Nat.le_of_ble_eq_true rfl)⟩ (zag_up (q := q2) (zag_up (q := q1) (fun _ _ => rfl) (by omega) (by unfold zBIG; omega)) (by omega) (by unfold zBIG; omega))) zF (0 : Int32) (0 : Int32) _
abbrev sR_X7_0 (R : zRR) (a0 N : Nat) : zRR := (zwR R a0 6 N)
theorem sok_X7_0 {R : zRR} {N a0 : Nat} (hR : zRok N R) (ha0 : a0 < N) : zRok (N + 1) (sR_X7_0 R a0 N) := (zRok.w (zRok.mono (N := N) hR (by omega)) (by omega) (by omega))
abbrev sT_X7_0 (T : zTT) : zTT := (T ++ [(1, 6)])
abbrev sR_X7_1 (R : zRR) (a0 N : Nat) : zRR := (zwR (sR_X7_0 R a0 N) a0 7 (N + 1))
theorem sok_X7_1 {R : zRR} {N a0 : Nat} (hR : zRok N R) (ha0 : a0 < N) : zRok (N + 2) (sR_X7_1 R a0 N) := (zRok.w (zRok.mono (N := (N + 1)) (sok_X7_0 hR ha0) (by omega)) (by omega) (by omega))
abbrev sT_X7_1 (T : zTT) : zTT := ((sT_X7_0 T) ++ [(1, 6)])
abbrev sR_X7_2 (R : zRR) (a0 N : Nat) : zRR := (zwR (sR_X7_1 R a0 N) a0 8 (N + 2))
theorem sok_X7_2 {R : zRR} {N a0 : Nat} (hR : zRok N R) (ha0 : a0 < N) : zRok (N + 3) (sR_X7_2 R a0 N) := (zRok.w (zRok.mono (N := (N + 2)) (sok_X7_1 hR ha0) (by omega)) (by omega) (by omega))
abbrev sT_X7_2 (T : zTT) : zTT := ((sT_X7_1 T) ++ [(1, 8)])
abbrev sR_X7_3 (R : zRR) (a0 N : Nat) : zRR := (zwR (sR_X7_2 R a0 N) a0 9 (N + 3))
theorem sok_X7_3 {R : zRR} {N a0 : Nat} (hR : zRok N R) (ha0 : a0 < N) : zRok (N + 4) (sR_X7_3 R a0 N) := (zRok.w (zRok.mono (N := (N + 3)) (sok_X7_2 hR ha0) (by omega)) (by omega) (by omega))
abbrev sT_X7_3 (T : zTT) : zTT := ((sT_X7_2 T) ++ [(2, 19)])
abbrev sR_X7_4 (R : zRR) (a0 N : Nat) : zRR := (zwR (sR_X7_3 R a0 N) a0 10 (N + 4))
theorem sok_X7_4 {R : zRR} {N a0 : Nat} (hR : zRok N R) (ha0 : a0 < N) : zRok (N + 5) (sR_X7_4 R a0 N) := (zRok.w (zRok.mono (N := (N + 4)) (sok_X7_3 hR ha0) (by omega)) (by omega) (by omega))
abbrev sT_X7_4 (T : zTT) : zTT := ((sT_X7_3 T) ++ [(1, 30)])
abbrev cT_X7 (T : zTT) : zTT := (sT_X7_4 T)
abbrev cR_X7 (R : zRR) (a0 N : Nat) : zRR := (sR_X7_4 R a0 N)
theorem zTb_X7 {T : zTT} {o : Nat} {t : Nat × Nat} (h : T[o]? = some t) : (cT_X7 T)[o]? = some t := (zTa (zTa (zTa (zTa (zTa h)))))
theorem rok_X7 {R : zRR} {N a0 : Nat} (hR : zRok N R) (ha0 : a0 < N) : zRok (N + 5) (cR_X7 R a0 N) := (sok_X7_4 hR ha0)
def cf_X7 (R : zRR) (a0 N : Nat) (M : zMem) : Option (Unit × zMem) :=
  zlet (zwI M a0 5 (5 : Int32)) fun M1 =>
  some ((), (zrow0 (zrow0 (zrow0 (zrow0 (zrow0 M1 N) (N + 1)) (N + 2)) (N + 3)) (N + 4)))
set_option maxRecDepth 100000 in
theorem mk_X7 (l : Launch) {T : zTT} {R : zRR} {N a0 : Nat} {M : zMem} (hN : T.length = N) (hB : N + 5 ≤ 900000) (hR : zRok N R) (ha0 : a0 < N) (ht : T[a0]? = some (0, 7)) : zMC l yX7_init mi9_X7_init (cf_X7 R a0 N M) [.ref a0] N T R M (cT_X7 T) (cR_X7 R a0 N) := by
  refine zMC.of (by decide +kernel) rfl (Nat.le_of_ble_eq_true rfl) (fun C ad _ hnm => ?_)
  show zX C mi9_X7_init (zFinC C mi9_X7_init ad N (cT_X7 T) (cR_X7 R a0 N)) 0 0 (cf_X7 R a0 N M) 0 [(0, .ref a0)] [] ad T R M
  unfold cf_X7
  refine zx_aload_n (i := 0) (zd me_X7_init 0 rfl) rfl 0 rfl ?_
  refine zx_objInit (zd me_X7_init 1 rfl) lo_X7 ⟨(Nat.le_of_ble_eq_true rfl), (Nat.le_of_ble_eq_true rfl)⟩ ?_
  refine zx_aload_n (i := 0) (zd me_X7_init 2 rfl) rfl 0 rfl ?_
  refine zx_iconst (v := 5) (zd me_X7_init 3 rfl) (by decide) ?_
  refine zx_putI (zd me_X7_init 4 rfl) fp_X7_11 ht rfl (fun M1 _ => ?_)
  refine zx_aload_n (i := 0) (zd me_X7_init 5 rfl) rfl 0 rfl ?_
  refine zx_bipush (v := 6) (zd me_X7_init 6 rfl) (by decide) ?_
  refine zx_newaI (NN := 6) (zd me_X7_init 7 rfl) la9_I (by decide) (by decide) (by decide) ⟨(Nat.le_of_ble_eq_true rfl), (Nat.le_of_ble_eq_true rfl)⟩ hN hR (by unfold zBIG; omega) (zr_r (by omega) zr_n) (zr_r (by omega) zr_n) (fun q2 => ?_)
  refine zx_putR (zd me_X7_init 8 rfl) fr_X7_15 hnm (zTa ht) rfl (fun _ => ⟨rfl, rfl⟩) ?_
  refine zx_aload_n (i := 0) (zd me_X7_init 9 rfl) rfl 0 rfl ?_
  refine zx_bipush (v := 6) (zd me_X7_init 10 rfl) (by decide) ?_
  refine zx_newaI (NN := 6) (zd me_X7_init 11 rfl) la9_I (by decide) (by decide) (by decide) ⟨(Nat.le_of_ble_eq_true rfl), (Nat.le_of_ble_eq_true rfl)⟩ (by simp [hN]) (sok_X7_0 hR ha0) (by unfold zBIG; omega) (zr_r (by omega) zr_n) (zr_r (by omega) zr_n) (fun q3 => ?_)
  refine zx_putR (zd me_X7_init 12 rfl) fr_X7_19 hnm (zTa (zTa ht)) rfl (fun _ => ⟨rfl, rfl⟩) ?_
  refine zx_aload_n (i := 0) (zd me_X7_init 13 rfl) rfl 0 rfl ?_
  refine zx_bipush (v := 8) (zd me_X7_init 14 rfl) (by decide) ?_
  refine zx_newaI (NN := 8) (zd me_X7_init 15 rfl) la9_I (by decide) (by decide) (by decide) ⟨(Nat.le_of_ble_eq_true rfl), (Nat.le_of_ble_eq_true rfl)⟩ (by simp [hN]) (sok_X7_1 hR ha0) (by unfold zBIG; omega) (zr_r (by omega) zr_n) (zr_r (by omega) zr_n) (fun q4 => ?_)
  refine zx_putR (zd me_X7_init 16 rfl) fr_X7_22 hnm (zTa (zTa (zTa ht))) rfl (fun _ => ⟨rfl, rfl⟩) ?_
  refine zx_aload_n (i := 0) (zd me_X7_init 17 rfl) rfl 0 rfl ?_
  refine zx_bipush (v := 19) (zd me_X7_init 18 rfl) (by decide) ?_
  refine zx_newaL (NN := 19) (zd me_X7_init 19 rfl) la9_L (by decide) (by decide) (by decide) ⟨(Nat.le_of_ble_eq_true rfl), (Nat.le_of_ble_eq_true rfl)⟩ (by simp [hN]) (sok_X7_2 hR ha0) (by unfold zBIG; omega) (zr_r (by omega) zr_n) (zr_r (by omega) zr_n) (fun q5 => ?_)
  refine zx_putR (zd me_X7_init 20 rfl) fr_X7_25 hnm (zTa (zTa (zTa (zTa ht)))) rfl (fun _ => ⟨rfl, rfl⟩) ?_
  refine zx_aload_n (i := 0) (zd me_X7_init 21 rfl) rfl 0 rfl ?_
  refine zx_bipush (v := 30) (zd me_X7_init 22 rfl) (by decide) ?_
  refine zx_newaI (NN := 30) (zd me_X7_init 23 rfl) la9_I (by decide) (by decide) (by decide) ⟨(Nat.le_of_ble_eq_true rfl), (Nat.le_of_ble_eq_true rfl)⟩ (by simp [hN]) (sok_X7_3 hR ha0) (by unfold zBIG; omega) (zr_r (by omega) zr_n) (zr_r (by omega) zr_n) (fun q6 => ?_)
  refine zx_putR (zd me_X7_init 24 rfl) fr_X7_29 hnm (zTa (zTa (zTa (zTa (zTa ht))))) rfl (fun _ => ⟨rfl, rfl⟩) ?_
  exact zx_vretC (zd me_X7_init 25 rfl) rfl rfl rfl ⟨(Nat.le_of_ble_eq_true rfl), (Nat.le_of_ble_eq_true rfl)⟩ (zag_up (q := q6) (zag_up (q := q5) (zag_up (q := q4) (zag_up (q := q3) (zag_up (q := q2) (fun _ _ => rfl) (by omega) (by unfold zBIG; omega)) (by omega) (by unfold zBIG; omega)) (by omega) (by unfold zBIG; omega)) (by omega) (by unfold zBIG; omega)) (by omega) (by unfold zBIG; omega))
abbrev sR_X3_0 (R : zRR) (a0 a1 N : Nat) : zRR := (zwR R a0 1 N)
theorem sok_X3_0 {R : zRR} {N a0 a1 : Nat} (hR : zRok N R) (ha0 : a0 < N) (ha1 : a1 < N) : zRok (N + 1) (sR_X3_0 R a0 a1 N) := (zRok.w (zRok.mono (N := N) hR (by omega)) (by omega) (by omega))
abbrev sT_X3_0 (T : zTT) : zTT := (T ++ [(1, 62)])
abbrev sR_X3_1 (R : zRR) (a0 a1 N : Nat) : zRR := (zwR (sR_X3_0 R a0 a1 N) a0 0 a1)
theorem sok_X3_1 {R : zRR} {N a0 a1 : Nat} (hR : zRok N R) (ha0 : a0 < N) (ha1 : a1 < N) : zRok (N + 1) (sR_X3_1 R a0 a1 N) := (zRok.w (sok_X3_0 hR ha0 ha1) (by omega) (by omega))
abbrev sT_X3_1 (T : zTT) : zTT := (sT_X3_0 T)
abbrev cT_X3 (T : zTT) : zTT := (sT_X3_1 T)
abbrev cR_X3 (R : zRR) (a0 a1 N : Nat) : zRR := (sR_X3_1 R a0 a1 N)
theorem zTb_X3 {T : zTT} {o : Nat} {t : Nat × Nat} (h : T[o]? = some t) : (cT_X3 T)[o]? = some t := (zTa h)
theorem rok_X3 {R : zRR} {N a0 a1 : Nat} (hR : zRok N R) (ha0 : a0 < N) (ha1 : a1 < N) : zRok (N + 1) (cR_X3 R a0 a1 N) := (sok_X3_1 hR ha0 ha1)
def cf_X3 (R : zRR) (a0 a1 N : Nat) (M : zMem) : Option (Unit × zMem) :=
  zcl (mf_X3_begin (sR_X3_1 R a0 a1 N) a0 (zrow0 M N)) fun _ M2 =>
  some ((), M2)
def hW_X3 (T : zTT) (R : zRR) (a0 a1 N : Nat) : Prop := zi3 (sT_X3_1 T) (sR_X3_1 R a0 a1 N) a0
set_option maxRecDepth 100000 in
theorem mk_X3 (l : Launch) {T : zTT} {R : zRR} {N a0 a1 : Nat} {M : zMem} (hN : T.length = N) (hB : N + 1 ≤ 900000) (hR : zRok N R) (ha0 : a0 < N) (ha1 : a1 < N) (ht : T[a0]? = some (0, 3)) (hw0 : hW_X3 T R a0 a1 N) : zMC l yX3_init mi9_X3_init (cf_X3 R a0 a1 N M) [.ref a0, .ref a1] N T R M (cT_X3 T) (cR_X3 R a0 a1 N) := by
  refine zMC.of (by decide +kernel) rfl (Nat.le_of_ble_eq_true rfl) (fun C ad _ hnm => ?_)
  show zX C mi9_X3_init (zFinC C mi9_X3_init ad N (cT_X3 T) (cR_X3 R a0 a1 N)) 0 0 (cf_X3 R a0 a1 N M) 0 [(0, .ref a0), (1, .ref a1)] [] ad T R M
  unfold cf_X3
  have hw := hw0
  refine zx_aload_n (i := 0) (zd me_X3_init 0 rfl) rfl 0 rfl ?_
  refine zx_objInit (zd me_X3_init 1 rfl) lo_X3 ⟨(Nat.le_of_ble_eq_true rfl), (Nat.le_of_ble_eq_true rfl)⟩ ?_
  refine zx_aload_n (i := 0) (zd me_X3_init 2 rfl) rfl 0 rfl ?_
  refine zx_bipush (v := 62) (zd me_X3_init 3 rfl) (by decide) ?_
  refine zx_newaI (NN := 62) (zd me_X3_init 4 rfl) la9_I (by decide) (by decide) (by decide) ⟨(Nat.le_of_ble_eq_true rfl), (Nat.le_of_ble_eq_true rfl)⟩ hN hR (by unfold zBIG; omega) (zr_r (by omega) zr_n) (zr_r (by omega) (zr_r (by omega) zr_n)) (fun q1 => ?_)
  refine zx_putR (zd me_X3_init 5 rfl) fr_X3_11 hnm (zTa ht) rfl (fun _ => ⟨rfl, rfl⟩) ?_
  refine zx_aload_n (i := 0) (zd me_X3_init 6 rfl) rfl 0 rfl ?_
  refine zx_aload_n (i := 1) (zd me_X3_init 7 rfl) rfl 1 rfl ?_
  refine zx_putR (zd me_X3_init 8 rfl) fr_X3_15 hnm (zTa ht) rfl (fun _ => ⟨rfl, rfl⟩) ?_
  refine zx_aload_n (i := 0) (zd me_X3_init 9 rfl) rfl 0 rfl ?_
  refine zx_callVV0 (zd me_X3_init 10 rfl) (mc_X3_begin (zl C) hw (zrow0 M N)) lk_X3_19 ⟨(Nat.le_of_ble_eq_true rfl), (Nat.le_of_ble_eq_true rfl)⟩ (Nat.le_of_ble_eq_true rfl) (zi3_c hw) rfl (fun _ M2 => ?_)
  exact zx_vretC (zd me_X3_init 11 rfl) rfl rfl rfl ⟨(Nat.le_of_ble_eq_true rfl), (Nat.le_of_ble_eq_true rfl)⟩ (zag_up (q := q1) (fun _ _ => rfl) (by omega) (by unfold zBIG; omega))
abbrev sR_X8_0 (R : zRR) (a0 N : Nat) : zRR := (zwR R a0 2 N)
theorem sok_X8_0 {R : zRR} {N a0 : Nat} (hR : zRok N R) (ha0 : a0 < N) : zRok (N + 1) (sR_X8_0 R a0 N) := (zRok.w (zRok.mono (N := N) hR (by omega)) (by omega) (by omega))
abbrev sT_X8_0 (T : zTT) : zTT := (T ++ [(1, 40)])
abbrev sR_X8_1 (R : zRR) (a0 N : Nat) : zRR := (zwR (sR_X8_0 R a0 N) a0 3 (N + 1))
theorem sok_X8_1 {R : zRR} {N a0 : Nat} (hR : zRok N R) (ha0 : a0 < N) : zRok (N + 2) (sR_X8_1 R a0 N) := (zRok.w (zRok.mono (N := (N + 1)) (sok_X8_0 hR ha0) (by omega)) (by omega) (by omega))
abbrev sT_X8_1 (T : zTT) : zTT := ((sT_X8_0 T) ++ [(1, 40)])
abbrev sR_X8_2 (R : zRR) (a0 N : Nat) : zRR := (zwR (sR_X8_1 R a0 N) a0 4 (N + 2))
theorem sok_X8_2 {R : zRR} {N a0 : Nat} (hR : zRok N R) (ha0 : a0 < N) : zRok (N + 3) (sR_X8_2 R a0 N) := (zRok.w (zRok.mono (N := (N + 2)) (sok_X8_1 hR ha0) (by omega)) (by omega) (by omega))
abbrev sT_X8_2 (T : zTT) : zTT := ((sT_X8_1 T) ++ [(1, 40)])
abbrev sR_X8_3 (R : zRR) (a0 N : Nat) : zRR := (zwR (sR_X8_2 R a0 N) a0 5 (N + 3))
theorem sok_X8_3 {R : zRR} {N a0 : Nat} (hR : zRok N R) (ha0 : a0 < N) : zRok (N + 4) (sR_X8_3 R a0 N) := (zRok.w (zRok.mono (N := (N + 3)) (sok_X8_2 hR ha0) (by omega)) (by omega) (by omega))
abbrev sT_X8_3 (T : zTT) : zTT := ((sT_X8_2 T) ++ [(1, 40)])
abbrev cT_X8 (T : zTT) : zTT := (sT_X8_3 T)
abbrev cR_X8 (R : zRR) (a0 N : Nat) : zRR := (sR_X8_3 R a0 N)
theorem zTb_X8 {T : zTT} {o : Nat} {t : Nat × Nat} (h : T[o]? = some t) : (cT_X8 T)[o]? = some t := (zTa (zTa (zTa (zTa h))))
theorem rok_X8 {R : zRR} {N a0 : Nat} (hR : zRok N R) (ha0 : a0 < N) : zRok (N + 4) (cR_X8 R a0 N) := (sok_X8_3 hR ha0)
def cf_X8 (R : zRR) (a0 N : Nat) (M : zMem) : Option (Unit × zMem) :=
  some ((), (zrow0 (zrow0 (zrow0 (zrow0 M N) (N + 1)) (N + 2)) (N + 3)))
set_option maxRecDepth 100000 in
theorem mk_X8 (l : Launch) {T : zTT} {R : zRR} {N a0 : Nat} {M : zMem} (hN : T.length = N) (hB : N + 4 ≤ 900000) (hR : zRok N R) (ha0 : a0 < N) (ht : T[a0]? = some (0, 8)) : zMC l yX8_init mi9_X8_init (cf_X8 R a0 N M) [.ref a0] N T R M (cT_X8 T) (cR_X8 R a0 N) := by
  refine zMC.of (by decide +kernel) rfl (Nat.le_of_ble_eq_true rfl) (fun C ad _ hnm => ?_)
  show zX C mi9_X8_init (zFinC C mi9_X8_init ad N (cT_X8 T) (cR_X8 R a0 N)) 0 0 (cf_X8 R a0 N M) 0 [(0, .ref a0)] [] ad T R M
  unfold cf_X8
  refine zx_aload_n (i := 0) (zd me_X8_init 0 rfl) rfl 0 rfl ?_
  refine zx_objInit (zd me_X8_init 1 rfl) lo_X8 ⟨(Nat.le_of_ble_eq_true rfl), (Nat.le_of_ble_eq_true rfl)⟩ ?_
  refine zx_aload_n (i := 0) (zd me_X8_init 2 rfl) rfl 0 rfl ?_
  refine zx_bipush (v := 40) (zd me_X8_init 3 rfl) (by decide) ?_
  refine zx_newaI (NN := 40) (zd me_X8_init 4 rfl) la9_I (by decide) (by decide) (by decide) ⟨(Nat.le_of_ble_eq_true rfl), (Nat.le_of_ble_eq_true rfl)⟩ hN hR (by unfold zBIG; omega) (zr_r (by omega) zr_n) (zr_r (by omega) zr_n) (fun q1 => ?_)
  refine zx_putR (zd me_X8_init 5 rfl) fr_X8_11 hnm (zTa ht) rfl (fun _ => ⟨rfl, rfl⟩) ?_
  refine zx_aload_n (i := 0) (zd me_X8_init 6 rfl) rfl 0 rfl ?_
  refine zx_bipush (v := 40) (zd me_X8_init 7 rfl) (by decide) ?_
  refine zx_newaI (NN := 40) (zd me_X8_init 8 rfl) la9_I (by decide) (by decide) (by decide) ⟨(Nat.le_of_ble_eq_true rfl), (Nat.le_of_ble_eq_true rfl)⟩ (by simp [hN]) (sok_X8_0 hR ha0) (by unfold zBIG; omega) (zr_r (by omega) zr_n) (zr_r (by omega) zr_n) (fun q2 => ?_)
  refine zx_putR (zd me_X8_init 9 rfl) fr_X8_15 hnm (zTa (zTa ht)) rfl (fun _ => ⟨rfl, rfl⟩) ?_
  refine zx_aload_n (i := 0) (zd me_X8_init 10 rfl) rfl 0 rfl ?_
  refine zx_bipush (v := 40) (zd me_X8_init 11 rfl) (by decide) ?_
  refine zx_newaI (NN := 40) (zd me_X8_init 12 rfl) la9_I (by decide) (by decide) (by decide) ⟨(Nat.le_of_ble_eq_true rfl), (Nat.le_of_ble_eq_true rfl)⟩ (by simp [hN]) (sok_X8_1 hR ha0) (by unfold zBIG; omega) (zr_r (by omega) zr_n) (zr_r (by omega) zr_n) (fun q3 => ?_)
  refine zx_putR (zd me_X8_init 13 rfl) fr_X8_18 hnm (zTa (zTa (zTa ht))) rfl (fun _ => ⟨rfl, rfl⟩) ?_
  refine zx_aload_n (i := 0) (zd me_X8_init 14 rfl) rfl 0 rfl ?_
  refine zx_bipush (v := 40) (zd me_X8_init 15 rfl) (by decide) ?_
  refine zx_newaI (NN := 40) (zd me_X8_init 16 rfl) la9_I (by decide) (by decide) (by decide) ⟨(Nat.le_of_ble_eq_true rfl), (Nat.le_of_ble_eq_true rfl)⟩ (by simp [hN]) (sok_X8_2 hR ha0) (by unfold zBIG; omega) (zr_r (by omega) zr_n) (zr_r (by omega) zr_n) (fun q4 => ?_)
  refine zx_putR (zd me_X8_init 17 rfl) fr_X8_21 hnm (zTa (zTa (zTa (zTa ht)))) rfl (fun _ => ⟨rfl, rfl⟩) ?_
  exact zx_vretC (zd me_X8_init 18 rfl) rfl rfl rfl ⟨(Nat.le_of_ble_eq_true rfl), (Nat.le_of_ble_eq_true rfl)⟩ (zag_up (q := q4) (zag_up (q := q3) (zag_up (q := q2) (zag_up (q := q1) (fun _ _ => rfl) (by omega) (by unfold zBIG; omega)) (by omega) (by unfold zBIG; omega)) (by omega) (by unfold zBIG; omega)) (by omega) (by unfold zBIG; omega))
abbrev sR_X0_0 (R : zRR) (a0 N : Nat) : zRR := (zwR R a0 0 N)
theorem sok_X0_0 {R : zRR} {N a0 : Nat} (hR : zRok N R) (ha0 : a0 < N) : zRok (N + 1) (sR_X0_0 R a0 N) := (zRok.w (zRok.mono (N := N) hR (by omega)) (by omega) (by omega))
abbrev sT_X0_0 (T : zTT) : zTT := (T ++ [(1, 40)])
abbrev sR_X0_1 (R : zRR) (a0 N : Nat) : zRR := (zwR (sR_X0_0 R a0 N) a0 1 (N + 1))
theorem sok_X0_1 {R : zRR} {N a0 : Nat} (hR : zRok N R) (ha0 : a0 < N) : zRok (N + 2) (sR_X0_1 R a0 N) := (zRok.w (zRok.mono (N := (N + 1)) (sok_X0_0 hR ha0) (by omega)) (by omega) (by omega))
abbrev sT_X0_1 (T : zTT) : zTT := ((sT_X0_0 T) ++ [(1, 40)])
abbrev cT_X0 (T : zTT) : zTT := (sT_X0_1 T)
abbrev cR_X0 (R : zRR) (a0 N : Nat) : zRR := (sR_X0_1 R a0 N)
theorem zTb_X0 {T : zTT} {o : Nat} {t : Nat × Nat} (h : T[o]? = some t) : (cT_X0 T)[o]? = some t := (zTa (zTa h))
theorem rok_X0 {R : zRR} {N a0 : Nat} (hR : zRok N R) (ha0 : a0 < N) : zRok (N + 2) (cR_X0 R a0 N) := (sok_X0_1 hR ha0)
def cf_X0 (R : zRR) (a0 N : Nat) (M : zMem) : Option (Unit × zMem) :=
  some ((), (zrow0 (zrow0 M N) (N + 1)))
set_option maxRecDepth 100000 in
theorem mk_X0 (l : Launch) {T : zTT} {R : zRR} {N a0 : Nat} {M : zMem} (hN : T.length = N) (hB : N + 2 ≤ 900000) (hR : zRok N R) (ha0 : a0 < N) (ht : T[a0]? = some (0, 0)) : zMC l yX0_init mi9_X0_init (cf_X0 R a0 N M) [.ref a0] N T R M (cT_X0 T) (cR_X0 R a0 N) := by
  refine zMC.of (by decide +kernel) rfl (Nat.le_of_ble_eq_true rfl) (fun C ad _ hnm => ?_)
  show zX C mi9_X0_init (zFinC C mi9_X0_init ad N (cT_X0 T) (cR_X0 R a0 N)) 0 0 (cf_X0 R a0 N M) 0 [(0, .ref a0)] [] ad T R M
  unfold cf_X0
  refine zx_aload_n (i := 0) (zd me_X0_init 0 rfl) rfl 0 rfl ?_
  refine zx_objInit (zd me_X0_init 1 rfl) lo_X0 ⟨(Nat.le_of_ble_eq_true rfl), (Nat.le_of_ble_eq_true rfl)⟩ ?_
  refine zx_aload_n (i := 0) (zd me_X0_init 2 rfl) rfl 0 rfl ?_
  refine zx_bipush (v := 40) (zd me_X0_init 3 rfl) (by decide) ?_
  refine zx_newaI (NN := 40) (zd me_X0_init 4 rfl) la9_I (by decide) (by decide) (by decide) ⟨(Nat.le_of_ble_eq_true rfl), (Nat.le_of_ble_eq_true rfl)⟩ hN hR (by unfold zBIG; omega) (zr_r (by omega) zr_n) (zr_r (by omega) zr_n) (fun q1 => ?_)
  refine zx_putR (zd me_X0_init 5 rfl) fr_X0_11 hnm (zTa ht) rfl (fun _ => ⟨rfl, rfl⟩) ?_
  refine zx_aload_n (i := 0) (zd me_X0_init 6 rfl) rfl 0 rfl ?_
  refine zx_bipush (v := 40) (zd me_X0_init 7 rfl) (by decide) ?_
  refine zx_newaI (NN := 40) (zd me_X0_init 8 rfl) la9_I (by decide) (by decide) (by decide) ⟨(Nat.le_of_ble_eq_true rfl), (Nat.le_of_ble_eq_true rfl)⟩ (by simp [hN]) (sok_X0_0 hR ha0) (by unfold zBIG; omega) (zr_r (by omega) zr_n) (zr_r (by omega) zr_n) (fun q2 => ?_)
  refine zx_putR (zd me_X0_init 9 rfl) fr_X0_15 hnm (zTa (zTa ht)) rfl (fun _ => ⟨rfl, rfl⟩) ?_
  exact zx_vretC (zd me_X0_init 10 rfl) rfl rfl rfl ⟨(Nat.le_of_ble_eq_true rfl), (Nat.le_of_ble_eq_true rfl)⟩ (zag_up (q := q2) (zag_up (q := q1) (fun _ _ => rfl) (by omega) (by unfold zBIG; omega)) (by omega) (by unfold zBIG; omega))
abbrev cT_X1 (T : zTT) : zTT := T
abbrev cR_X1 (R : zRR) (a0 N : Nat) : zRR := R
theorem zTb_X1 {T : zTT} {o : Nat} {t : Nat × Nat} (h : T[o]? = some t) : (cT_X1 T)[o]? = some t := h
theorem rok_X1 {R : zRR} {N a0 : Nat} (hR : zRok N R) (ha0 : a0 < N) : zRok (N + 0) (cR_X1 R a0 N) := hR
def cf_X1 (R : zRR) (a0 N : Nat) (M : zMem) : Option (Unit × zMem) :=
  some ((), M)
set_option maxRecDepth 100000 in
theorem mk_X1 (l : Launch) {T : zTT} {R : zRR} {N a0 : Nat} {M : zMem} (hN : T.length = N) (hB : N + 0 ≤ 900000) (hR : zRok N R) (ha0 : a0 < N) (ht : T[a0]? = some (0, 1)) : zMC l yX1_init mi9_X1_init (cf_X1 R a0 N M) [.ref a0] N T R M (cT_X1 T) (cR_X1 R a0 N) := by
  refine zMC.of (by decide +kernel) rfl (Nat.le_of_ble_eq_true rfl) (fun C ad _ hnm => ?_)
  show zX C mi9_X1_init (zFinC C mi9_X1_init ad N (cT_X1 T) (cR_X1 R a0 N)) 0 0 (cf_X1 R a0 N M) 0 [(0, .ref a0)] [] ad T R M
  unfold cf_X1
  refine zx_aload_n (i := 0) (zd me_X1_init 0 rfl) rfl 0 rfl ?_
  refine zx_objInit (zd me_X1_init 1 rfl) lo_X1 ⟨(Nat.le_of_ble_eq_true rfl), (Nat.le_of_ble_eq_true rfl)⟩ ?_
  exact zx_vretC (zd me_X1_init 2 rfl) rfl rfl rfl ⟨(Nat.le_of_ble_eq_true rfl), (Nat.le_of_ble_eq_true rfl)⟩ (fun _ _ => rfl)
abbrev sR_X5_0 (R : zRR) (a0 N : Nat) : zRR := (zwR (zRm R N 9) a0 0 N)
theorem sok_X5_0 {R : zRR} {N a0 : Nat} (hR : zRok N R) (ha0 : a0 < N) : zRok (N + 10) (sR_X5_0 R a0 N) := (zRok.w (zRm_ok hR) (by omega) (by omega))
abbrev sT_X5_0 (T : zTT) : zTT := (T ++ (5, 9) :: List.replicate 9 (1, 62))
abbrev cT_X5 (T : zTT) : zTT := (sT_X5_0 T)
abbrev cR_X5 (R : zRR) (a0 N : Nat) : zRR := (sR_X5_0 R a0 N)
theorem zTb_X5 {T : zTT} {o : Nat} {t : Nat × Nat} (h : T[o]? = some t) : (cT_X5 T)[o]? = some t := (zTa h)
theorem rok_X5 {R : zRR} {N a0 : Nat} (hR : zRok N R) (ha0 : a0 < N) : zRok (N + 10) (cR_X5 R a0 N) := (sok_X5_0 hR ha0)
def cf_X5 (R : zRR) (a0 N : Nat) (M : zMem) : Option (Unit × zMem) :=
  some ((), (zrows0 M N 10))
set_option maxRecDepth 100000 in
theorem mk_X5 (l : Launch) {T : zTT} {R : zRR} {N a0 : Nat} {M : zMem} (hN : T.length = N) (hB : N + 10 ≤ 900000) (hR : zRok N R) (ha0 : a0 < N) (ht : T[a0]? = some (0, 5)) : zMC l yX5_init mi9_X5_init (cf_X5 R a0 N M) [.ref a0] N T R M (cT_X5 T) (cR_X5 R a0 N) := by
  refine zMC.of (by decide +kernel) rfl (Nat.le_of_ble_eq_true rfl) (fun C ad _ hnm => ?_)
  show zX C mi9_X5_init (zFinC C mi9_X5_init ad N (cT_X5 T) (cR_X5 R a0 N)) 0 0 (cf_X5 R a0 N M) 0 [(0, .ref a0)] [] ad T R M
  unfold cf_X5
  refine zx_aload_n (i := 0) (zd me_X5_init 0 rfl) rfl 0 rfl ?_
  refine zx_objInit (zd me_X5_init 1 rfl) lo_X5 ⟨(Nat.le_of_ble_eq_true rfl), (Nat.le_of_ble_eq_true rfl)⟩ ?_
  refine zx_aload_n (i := 0) (zd me_X5_init 2 rfl) rfl 0 rfl ?_
  refine zx_bipush (v := 9) (zd me_X5_init 3 rfl) (by decide) ?_
  refine zx_bipush (v := 62) (zd me_X5_init 4 rfl) (by decide) ?_
  refine zx_mna (NN := 9) (KK := 62) (zd me_X5_init 5 rfl) lw9_X5_13 la9_I (by decide) (by decide) (by decide) (by decide) (by decide) ⟨(Nat.le_of_ble_eq_true rfl), (Nat.le_of_ble_eq_true rfl)⟩ hN hR (by unfold zBIG; omega) (zr_r (by omega) zr_n) (zr_r (by omega) zr_n) (fun q1 r2 => ?_)
  refine zx_putR (zd me_X5_init 6 rfl) fr_X5_15 hnm (zTa ht) rfl (fun _ => ⟨rfl, rfl⟩) ?_
  exact zx_vretC (zd me_X5_init 7 rfl) rfl rfl rfl ⟨(Nat.le_of_ble_eq_true rfl), (Nat.le_of_ble_eq_true rfl)⟩ (zadm_ag (by unfold zBIG; omega))
abbrev sR_X9_0 (R : zRR) (a0 N : Nat) : zRR := (zwR R a0 0 N)
theorem sok_X9_0 {R : zRR} {N a0 : Nat} (hR : zRok N R) (ha0 : a0 < N) : zRok (N + 1) (sR_X9_0 R a0 N) := (zRok.w (zRok.mono (N := N) hR (by omega)) (by omega) (by omega))
abbrev sT_X9_0 (T : zTT) : zTT := (T ++ [(1, 24)])
abbrev cT_X9 (T : zTT) : zTT := (sT_X9_0 T)
abbrev cR_X9 (R : zRR) (a0 N : Nat) : zRR := (sR_X9_0 R a0 N)
theorem zTb_X9 {T : zTT} {o : Nat} {t : Nat × Nat} (h : T[o]? = some t) : (cT_X9 T)[o]? = some t := (zTa h)
theorem rok_X9 {R : zRR} {N a0 : Nat} (hR : zRok N R) (ha0 : a0 < N) : zRok (N + 1) (cR_X9 R a0 N) := (sok_X9_0 hR ha0)
def cf_X9 (R : zRR) (a0 N : Nat) (M : zMem) : Option (Unit × zMem) :=
  some ((), (zrow0 M N))
set_option maxRecDepth 100000 in
theorem mk_X9 (l : Launch) {T : zTT} {R : zRR} {N a0 : Nat} {M : zMem} (hN : T.length = N) (hB : N + 1 ≤ 900000) (hR : zRok N R) (ha0 : a0 < N) (ht : T[a0]? = some (0, 9)) : zMC l yX9_init mi9_X9_init (cf_X9 R a0 N M) [.ref a0] N T R M (cT_X9 T) (cR_X9 R a0 N) := by
  refine zMC.of (by decide +kernel) rfl (Nat.le_of_ble_eq_true rfl) (fun C ad _ hnm => ?_)
  show zX C mi9_X9_init (zFinC C mi9_X9_init ad N (cT_X9 T) (cR_X9 R a0 N)) 0 0 (cf_X9 R a0 N M) 0 [(0, .ref a0)] [] ad T R M
  unfold cf_X9
  refine zx_aload_n (i := 0) (zd me_X9_init 0 rfl) rfl 0 rfl ?_
  refine zx_objInit (zd me_X9_init 1 rfl) lo_X9 ⟨(Nat.le_of_ble_eq_true rfl), (Nat.le_of_ble_eq_true rfl)⟩ ?_
  refine zx_aload_n (i := 0) (zd me_X9_init 2 rfl) rfl 0 rfl ?_
  refine zx_bipush (v := 24) (zd me_X9_init 3 rfl) (by decide) ?_
  refine zx_newaI (NN := 24) (zd me_X9_init 4 rfl) la9_I (by decide) (by decide) (by decide) ⟨(Nat.le_of_ble_eq_true rfl), (Nat.le_of_ble_eq_true rfl)⟩ hN hR (by unfold zBIG; omega) (zr_r (by omega) zr_n) (zr_r (by omega) zr_n) (fun q1 => ?_)
  refine zx_putR (zd me_X9_init 5 rfl) fr_X9_11 hnm (zTa ht) rfl (fun _ => ⟨rfl, rfl⟩) ?_
  exact zx_vretC (zd me_X9_init 6 rfl) rfl rfl rfl ⟨(Nat.le_of_ble_eq_true rfl), (Nat.le_of_ble_eq_true rfl)⟩ (zag_up (q := q1) (fun _ _ => rfl) (by omega) (by unfold zBIG; omega))
abbrev sR_X2_0 (R : zRR) (a0 N : Nat) : zRR := (cR_X7 R N (N + 1))
theorem sok_X2_0 {R : zRR} {N a0 : Nat} (hR : zRok N R) (ha0 : a0 < N) : zRok (N + 6) (sR_X2_0 R a0 N) := (rok_X7 (zRok.mono (N := N) hR (by omega)) (by omega))
abbrev sT_X2_0 (T : zTT) : zTT := (cT_X7 (T ++ [(0, 7)]))
abbrev sR_X2_1 (R : zRR) (a0 N : Nat) : zRR := (zwR (sR_X2_0 R a0 N) a0 0 N)
theorem sok_X2_1 {R : zRR} {N a0 : Nat} (hR : zRok N R) (ha0 : a0 < N) : zRok (N + 6) (sR_X2_1 R a0 N) := (zRok.w (sok_X2_0 hR ha0) (by omega) (by omega))
abbrev sT_X2_1 (T : zTT) : zTT := (sT_X2_0 T)
abbrev sR_X2_2 (R : zRR) (a0 N : Nat) : zRR := (cR_X8 (sR_X2_1 R a0 N) (N + 6) (N + 7))
theorem sok_X2_2 {R : zRR} {N a0 : Nat} (hR : zRok N R) (ha0 : a0 < N) : zRok (N + 11) (sR_X2_2 R a0 N) := (rok_X8 (zRok.mono (N := (N + 6)) (sok_X2_1 hR ha0) (by omega)) (by omega))
abbrev sT_X2_2 (T : zTT) : zTT := (cT_X8 ((sT_X2_1 T) ++ [(0, 8)]))
abbrev sR_X2_3 (R : zRR) (a0 N : Nat) : zRR := (zwR (sR_X2_2 R a0 N) a0 1 (N + 6))
theorem sok_X2_3 {R : zRR} {N a0 : Nat} (hR : zRok N R) (ha0 : a0 < N) : zRok (N + 11) (sR_X2_3 R a0 N) := (zRok.w (sok_X2_2 hR ha0) (by omega) (by omega))
abbrev sT_X2_3 (T : zTT) : zTT := (sT_X2_2 T)
abbrev sR_X2_4 (R : zRR) (a0 N : Nat) : zRR := (zwR (sR_X2_3 R a0 N) a0 2 (N + 11))
theorem sok_X2_4 {R : zRR} {N a0 : Nat} (hR : zRok N R) (ha0 : a0 < N) : zRok (N + 12) (sR_X2_4 R a0 N) := (zRok.w (zRok.mono (N := (N + 11)) (sok_X2_3 hR ha0) (by omega)) (by omega) (by omega))
abbrev sT_X2_4 (T : zTT) : zTT := ((sT_X2_3 T) ++ [(1, 62)])
abbrev cT_X2 (T : zTT) : zTT := (sT_X2_4 T)
abbrev cR_X2 (R : zRR) (a0 N : Nat) : zRR := (sR_X2_4 R a0 N)
theorem zTb_X2 {T : zTT} {o : Nat} {t : Nat × Nat} (h : T[o]? = some t) : (cT_X2 T)[o]? = some t := (zTa (zTb_X8 (zTa (zTb_X7 (zTa h)))))
theorem rok_X2 {R : zRR} {N a0 : Nat} (hR : zRok N R) (ha0 : a0 < N) : zRok (N + 12) (cR_X2 R a0 N) := (sok_X2_4 hR ha0)
def cf_X2 (R : zRR) (a0 N : Nat) (M : zMem) : Option (Unit × zMem) :=
  zcl (cf_X7 R N (N + 1) (zrow0 M N)) fun _ M2 =>
  zcl (cf_X8 (sR_X2_1 R a0 N) (N + 6) (N + 7) (zrow0 M2 (N + 6))) fun _ M5 =>
  some ((), (zrow0 M5 (N + 11)))
set_option maxRecDepth 100000 in
theorem mk_X2 (l : Launch) {T : zTT} {R : zRR} {N a0 : Nat} {M : zMem} (hN : T.length = N) (hB : N + 12 ≤ 900000) (hR : zRok N R) (ha0 : a0 < N) (ht : T[a0]? = some (0, 2)) : zMC l yX2_init mi9_X2_init (cf_X2 R a0 N M) [.ref a0] N T R M (cT_X2 T) (cR_X2 R a0 N) := by
  refine zMC.of (by decide +kernel) rfl (Nat.le_of_ble_eq_true rfl) (fun C ad _ hnm => ?_)
  show zX C mi9_X2_init (zFinC C mi9_X2_init ad N (cT_X2 T) (cR_X2 R a0 N)) 0 0 (cf_X2 R a0 N M) 0 [(0, .ref a0)] [] ad T R M
  unfold cf_X2
  refine zx_aload_n (i := 0) (zd me_X2_init 0 rfl) rfl 0 rfl ?_
  refine zx_objInit (zd me_X2_init 1 rfl) lo_X2 ⟨(Nat.le_of_ble_eq_true rfl), (Nat.le_of_ble_eq_true rfl)⟩ ?_
  refine zx_aload_n (i := 0) (zd me_X2_init 2 rfl) rfl 0 rfl ?_
  refine zx_new (ci := 7) (qc := (RX7, TX7, 12)) (zd me_X2_init 3 rfl) rfl lw9_X2_7 ld9_X7.1 ld9_X7.2 (by decide +kernel) ⟨(Nat.le_of_ble_eq_true rfl), (Nat.le_of_ble_eq_true rfl)⟩ hN hR (by unfold zBIG; omega) (zr_r (by omega) zr_n) (zr_r (by omega) zr_n) (fun q1 => ?_)
  refine zx_dup (zd me_X2_init 4 rfl) rfl ?_
  refine zx_callI (N0 := (N + 1)) (as := []) (zd me_X2_init 5 rfl) (mk_X7 (zl C) (N := (N + 1)) (by simp [hN]) (by omega) (zRok.mono (N := N) hR (by omega)) (by omega) (zTl (t := (0, 7)) hN) ) li9_X2_9 rfl ⟨(Nat.le_of_ble_eq_true rfl), (Nat.le_of_ble_eq_true rfl)⟩ (Nat.le_of_ble_eq_true rfl) rfl ⟨(Nat.le_of_ble_eq_true rfl), (Nat.le_of_ble_eq_true rfl)⟩ (zr_r (by omega) (zr_r (by omega) zr_n)) (zr_r (by omega) zr_n) rfl (fun M2 ad3 _ hgad3 => ?_)
  refine zx_putR (zd me_X2_init 6 rfl) fr_X2_10 hnm (zTb_X7 (zTa ht)) rfl (fun _ => ⟨rfl, rfl⟩) ?_
  refine zx_aload_n (i := 0) (zd me_X2_init 7 rfl) rfl 0 rfl ?_
  refine zx_new (ci := 8) (qc := (RX8, TX8, 6)) (zd me_X2_init 8 rfl) rfl lw9_X2_16 ld9_X8.1 ld9_X8.2 (by decide +kernel) ⟨(Nat.le_of_ble_eq_true rfl), (Nat.le_of_ble_eq_true rfl)⟩ (by simp [hN]) (sok_X2_1 hR ha0) (by unfold zBIG; omega) (zr_r (by omega) zr_n) (zr_r (by omega) zr_n) (fun q4 => ?_)
  refine zx_dup (zd me_X2_init 9 rfl) rfl ?_
  refine zx_callI (N0 := (N + 7)) (as := []) (zd me_X2_init 10 rfl) (mk_X8 (zl C) (N := (N + 7)) (by simp [hN]) (by omega) (zRok.mono (N := (N + 6)) (sok_X2_1 hR ha0) (by omega)) (by omega) (zTl (t := (0, 8)) (by simp [hN])) ) li9_X2_18 rfl ⟨(Nat.le_of_ble_eq_true rfl), (Nat.le_of_ble_eq_true rfl)⟩ (Nat.le_of_ble_eq_true rfl) rfl ⟨(Nat.le_of_ble_eq_true rfl), (Nat.le_of_ble_eq_true rfl)⟩ (zr_r (by omega) (zr_r (by omega) zr_n)) (zr_r (by omega) zr_n) rfl (fun M5 ad6 _ hgad6 => ?_)
  refine zx_putR (zd me_X2_init 11 rfl) fr_X2_19 hnm (zTb_X8 (zTa (zTb_X7 (zTa ht)))) rfl (fun _ => ⟨rfl, rfl⟩) ?_
  refine zx_aload_n (i := 0) (zd me_X2_init 12 rfl) rfl 0 rfl ?_
  refine zx_bipush (v := 62) (zd me_X2_init 13 rfl) (by decide) ?_
  refine zx_newaI (NN := 62) (zd me_X2_init 14 rfl) la9_I (by decide) (by decide) (by decide) ⟨(Nat.le_of_ble_eq_true rfl), (Nat.le_of_ble_eq_true rfl)⟩ (by simp [hN]) (sok_X2_3 hR ha0) (by unfold zBIG; omega) (zr_r (by omega) zr_n) (zr_r (by omega) zr_n) (fun q7 => ?_)
  refine zx_putR (zd me_X2_init 15 rfl) fr_X2_25 hnm (zTa (zTb_X8 (zTa (zTb_X7 (zTa ht))))) rfl (fun _ => ⟨rfl, rfl⟩) ?_
  exact zx_vretC (zd me_X2_init 16 rfl) rfl rfl rfl ⟨(Nat.le_of_ble_eq_true rfl), (Nat.le_of_ble_eq_true rfl)⟩ (zag_up (q := q7) (zag_tr (zag_up (q := q4) (zag_tr (zag_up (q := q1) (fun _ _ => rfl) (by omega) (by unfold zBIG; omega)) hgad3 (by omega)) (by omega) (by unfold zBIG; omega)) hgad6 (by omega)) (by omega) (by unfold zBIG; omega))
abbrev sR_X4_0 (R : zRR) (a0 a1 N : Nat) : zRR := (zwR R a0 1 N)
theorem sok_X4_0 {R : zRR} {N a0 a1 : Nat} (hR : zRok N R) (ha0 : a0 < N) (ha1 : a1 < N) : zRok (N + 1) (sR_X4_0 R a0 a1 N) := (zRok.w (zRok.mono (N := N) hR (by omega)) (by omega) (by omega))
abbrev sT_X4_0 (T : zTT) : zTT := (T ++ [(1, 25)])
abbrev sR_X4_1 (R : zRR) (a0 a1 N : Nat) : zRR := (zwR (sR_X4_0 R a0 a1 N) a0 2 (N + 1))
theorem sok_X4_1 {R : zRR} {N a0 a1 : Nat} (hR : zRok N R) (ha0 : a0 < N) (ha1 : a1 < N) : zRok (N + 2) (sR_X4_1 R a0 a1 N) := (zRok.w (zRok.mono (N := (N + 1)) (sok_X4_0 hR ha0 ha1) (by omega)) (by omega) (by omega))
abbrev sT_X4_1 (T : zTT) : zTT := ((sT_X4_0 T) ++ [(1, 5)])
abbrev sR_X4_2 (R : zRR) (a0 a1 N : Nat) : zRR := (zwR (sR_X4_1 R a0 a1 N) a0 3 (N + 2))
theorem sok_X4_2 {R : zRR} {N a0 a1 : Nat} (hR : zRok N R) (ha0 : a0 < N) (ha1 : a1 < N) : zRok (N + 3) (sR_X4_2 R a0 a1 N) := (zRok.w (zRok.mono (N := (N + 2)) (sok_X4_1 hR ha0 ha1) (by omega)) (by omega) (by omega))
abbrev sT_X4_2 (T : zTT) : zTT := ((sT_X4_1 T) ++ [(1, 5)])
abbrev sR_X4_3 (R : zRR) (a0 a1 N : Nat) : zRR := (zwR (sR_X4_2 R a0 a1 N) a0 0 a1)
theorem sok_X4_3 {R : zRR} {N a0 a1 : Nat} (hR : zRok N R) (ha0 : a0 < N) (ha1 : a1 < N) : zRok (N + 3) (sR_X4_3 R a0 a1 N) := (zRok.w (sok_X4_2 hR ha0 ha1) (by omega) (by omega))
abbrev sT_X4_3 (T : zTT) : zTT := (sT_X4_2 T)
abbrev cT_X4 (T : zTT) : zTT := (sT_X4_3 T)
abbrev cR_X4 (R : zRR) (a0 a1 N : Nat) : zRR := (sR_X4_3 R a0 a1 N)
theorem zTb_X4 {T : zTT} {o : Nat} {t : Nat × Nat} (h : T[o]? = some t) : (cT_X4 T)[o]? = some t := (zTa (zTa (zTa h)))
theorem rok_X4 {R : zRR} {N a0 a1 : Nat} (hR : zRok N R) (ha0 : a0 < N) (ha1 : a1 < N) : zRok (N + 3) (cR_X4 R a0 a1 N) := (sok_X4_3 hR ha0 ha1)
def cf_X4 (R : zRR) (a0 a1 N : Nat) (M : zMem) : Option (Unit × zMem) :=
  zlet (zwI (zrow0 (zrow0 (zrow0 M N) (N + 1)) (N + 2)) a0 5 (-1 : Int32)) fun M4 =>
  some ((), M4)
set_option maxRecDepth 100000 in
theorem mk_X4 (l : Launch) {T : zTT} {R : zRR} {N a0 a1 : Nat} {M : zMem} (hN : T.length = N) (hB : N + 3 ≤ 900000) (hR : zRok N R) (ha0 : a0 < N) (ha1 : a1 < N) (ht : T[a0]? = some (0, 4)) : zMC l yX4_init mi9_X4_init (cf_X4 R a0 a1 N M) [.ref a0, .ref a1] N T R M (cT_X4 T) (cR_X4 R a0 a1 N) := by
  refine zMC.of (by decide +kernel) rfl (Nat.le_of_ble_eq_true rfl) (fun C ad _ hnm => ?_)
  show zX C mi9_X4_init (zFinC C mi9_X4_init ad N (cT_X4 T) (cR_X4 R a0 a1 N)) 0 0 (cf_X4 R a0 a1 N M) 0 [(0, .ref a0), (1, .ref a1)] [] ad T R M
  unfold cf_X4
  refine zx_aload_n (i := 0) (zd me_X4_init 0 rfl) rfl 0 rfl ?_
  refine zx_objInit (zd me_X4_init 1 rfl) lo_X4 ⟨(Nat.le_of_ble_eq_true rfl), (Nat.le_of_ble_eq_true rfl)⟩ ?_
  refine zx_aload_n (i := 0) (zd me_X4_init 2 rfl) rfl 0 rfl ?_
  refine zx_bipush (v := 25) (zd me_X4_init 3 rfl) (by decide) ?_
  refine zx_newaI (NN := 25) (zd me_X4_init 4 rfl) la9_I (by decide) (by decide) (by decide) ⟨(Nat.le_of_ble_eq_true rfl), (Nat.le_of_ble_eq_true rfl)⟩ hN hR (by unfold zBIG; omega) (zr_r (by omega) zr_n) (zr_r (by omega) (zr_r (by omega) zr_n)) (fun q1 => ?_)
  refine zx_putR (zd me_X4_init 5 rfl) fr_X4_9 hnm (zTa ht) rfl (fun _ => ⟨rfl, rfl⟩) ?_
  refine zx_aload_n (i := 0) (zd me_X4_init 6 rfl) rfl 0 rfl ?_
  refine zx_iconst (v := 5) (zd me_X4_init 7 rfl) (by decide) ?_
  refine zx_newaI (NN := 5) (zd me_X4_init 8 rfl) la9_I (by decide) (by decide) (by decide) ⟨(Nat.le_of_ble_eq_true rfl), (Nat.le_of_ble_eq_true rfl)⟩ (by simp [hN]) (sok_X4_0 hR ha0 ha1) (by unfold zBIG; omega) (zr_r (by omega) zr_n) (zr_r (by omega) (zr_r (by omega) zr_n)) (fun q2 => ?_)
  refine zx_putR (zd me_X4_init 9 rfl) fr_X4_15 hnm (zTa (zTa ht)) rfl (fun _ => ⟨rfl, rfl⟩) ?_
  refine zx_aload_n (i := 0) (zd me_X4_init 10 rfl) rfl 0 rfl ?_
  refine zx_iconst (v := 5) (zd me_X4_init 11 rfl) (by decide) ?_
  refine zx_newaI (NN := 5) (zd me_X4_init 12 rfl) la9_I (by decide) (by decide) (by decide) ⟨(Nat.le_of_ble_eq_true rfl), (Nat.le_of_ble_eq_true rfl)⟩ (by simp [hN]) (sok_X4_1 hR ha0 ha1) (by unfold zBIG; omega) (zr_r (by omega) zr_n) (zr_r (by omega) (zr_r (by omega) zr_n)) (fun q3 => ?_)
  refine zx_putR (zd me_X4_init 13 rfl) fr_X4_18 hnm (zTa (zTa (zTa ht))) rfl (fun _ => ⟨rfl, rfl⟩) ?_
  refine zx_aload_n (i := 0) (zd me_X4_init 14 rfl) rfl 0 rfl ?_
  refine zx_iconst (v := (-1)) (zd me_X4_init 15 rfl) (by decide) ?_
  refine zx_putI (zd me_X4_init 16 rfl) fp_X4_21 (zTa (zTa (zTa ht))) rfl (fun M4 _ => ?_)
  refine zx_aload_n (i := 0) (zd me_X4_init 17 rfl) rfl 0 rfl ?_
  refine zx_aload_n (i := 1) (zd me_X4_init 18 rfl) rfl 1 rfl ?_
  refine zx_putR (zd me_X4_init 19 rfl) fr_X4_25 hnm (zTa (zTa (zTa ht))) rfl (fun _ => ⟨rfl, rfl⟩) ?_
  exact zx_vretC (zd me_X4_init 20 rfl) rfl rfl rfl ⟨(Nat.le_of_ble_eq_true rfl), (Nat.le_of_ble_eq_true rfl)⟩ (zag_up (q := q3) (zag_up (q := q2) (zag_up (q := q1) (fun _ _ => rfl) (by omega) (by unfold zBIG; omega)) (by omega) (by unfold zBIG; omega)) (by omega) (by unfold zBIG; omega))
abbrev sR_X6_0 (R : zRR) (a0 a1 a2 a3 N : Nat) : zRR := (zwR R a0 5 N)
theorem sok_X6_0 {R : zRR} {N a0 a1 a2 a3 : Nat} (hR : zRok N R) (ha0 : a0 < N) (ha1 : a1 < N) (ha2 : a2 < N) (ha3 : a3 < N) : zRok (N + 1) (sR_X6_0 R a0 a1 a2 a3 N) := (zRok.w (zRok.mono (N := N) hR (by omega)) (by omega) (by omega))
abbrev sT_X6_0 (T : zTT) : zTT := (T ++ [(1, 3)])
abbrev sR_X6_1 (R : zRR) (a0 a1 a2 a3 N : Nat) : zRR := (zwR (sR_X6_0 R a0 a1 a2 a3 N) a0 6 (N + 1))
theorem sok_X6_1 {R : zRR} {N a0 a1 a2 a3 : Nat} (hR : zRok N R) (ha0 : a0 < N) (ha1 : a1 < N) (ha2 : a2 < N) (ha3 : a3 < N) : zRok (N + 2) (sR_X6_1 R a0 a1 a2 a3 N) := (zRok.w (zRok.mono (N := (N + 1)) (sok_X6_0 hR ha0 ha1 ha2 ha3) (by omega)) (by omega) (by omega))
abbrev sT_X6_1 (T : zTT) : zTT := ((sT_X6_0 T) ++ [(1, 3)])
abbrev sR_X6_2 (R : zRR) (a0 a1 a2 a3 N : Nat) : zRR := (zwR (sR_X6_1 R a0 a1 a2 a3 N) a0 8 (N + 2))
theorem sok_X6_2 {R : zRR} {N a0 a1 a2 a3 : Nat} (hR : zRok N R) (ha0 : a0 < N) (ha1 : a1 < N) (ha2 : a2 < N) (ha3 : a3 < N) : zRok (N + 3) (sR_X6_2 R a0 a1 a2 a3 N) := (zRok.w (zRok.mono (N := (N + 2)) (sok_X6_1 hR ha0 ha1 ha2 ha3) (by omega)) (by omega) (by omega))
abbrev sT_X6_2 (T : zTT) : zTT := ((sT_X6_1 T) ++ [(1, 3)])
abbrev sR_X6_3 (R : zRR) (a0 a1 a2 a3 N : Nat) : zRR := (zwR (sR_X6_2 R a0 a1 a2 a3 N) a0 9 (N + 3))
theorem sok_X6_3 {R : zRR} {N a0 a1 a2 a3 : Nat} (hR : zRok N R) (ha0 : a0 < N) (ha1 : a1 < N) (ha2 : a2 < N) (ha3 : a3 < N) : zRok (N + 4) (sR_X6_3 R a0 a1 a2 a3 N) := (zRok.w (zRok.mono (N := (N + 3)) (sok_X6_2 hR ha0 ha1 ha2 ha3) (by omega)) (by omega) (by omega))
abbrev sT_X6_3 (T : zTT) : zTT := ((sT_X6_2 T) ++ [(1, 3)])
abbrev sR_X6_4 (R : zRR) (a0 a1 a2 a3 N : Nat) : zRR := (zwR (sR_X6_3 R a0 a1 a2 a3 N) a0 0 a2)
theorem sok_X6_4 {R : zRR} {N a0 a1 a2 a3 : Nat} (hR : zRok N R) (ha0 : a0 < N) (ha1 : a1 < N) (ha2 : a2 < N) (ha3 : a3 < N) : zRok (N + 4) (sR_X6_4 R a0 a1 a2 a3 N) := (zRok.w (sok_X6_3 hR ha0 ha1 ha2 ha3) (by omega) (by omega))
abbrev sT_X6_4 (T : zTT) : zTT := (sT_X6_3 T)
abbrev sR_X6_5 (R : zRR) (a0 a1 a2 a3 N : Nat) : zRR := (zwR (sR_X6_4 R a0 a1 a2 a3 N) a0 1 a3)
theorem sok_X6_5 {R : zRR} {N a0 a1 a2 a3 : Nat} (hR : zRok N R) (ha0 : a0 < N) (ha1 : a1 < N) (ha2 : a2 < N) (ha3 : a3 < N) : zRok (N + 4) (sR_X6_5 R a0 a1 a2 a3 N) := (zRok.w (sok_X6_4 hR ha0 ha1 ha2 ha3) (by omega) (by omega))
abbrev sT_X6_5 (T : zTT) : zTT := (sT_X6_4 T)
abbrev sR_X6_6 (R : zRR) (a0 a1 a2 a3 N : Nat) : zRR := (cR_X3 (sR_X6_5 R a0 a1 a2 a3 N) (N + 4) a1 (N + 5))
theorem sok_X6_6 {R : zRR} {N a0 a1 a2 a3 : Nat} (hR : zRok N R) (ha0 : a0 < N) (ha1 : a1 < N) (ha2 : a2 < N) (ha3 : a3 < N) : zRok (N + 6) (sR_X6_6 R a0 a1 a2 a3 N) := (rok_X3 (zRok.mono (N := (N + 4)) (sok_X6_5 hR ha0 ha1 ha2 ha3) (by omega)) (by omega) (by omega))
abbrev sT_X6_6 (T : zTT) : zTT := (cT_X3 ((sT_X6_5 T) ++ [(0, 3)]))
abbrev sR_X6_7 (R : zRR) (a0 a1 a2 a3 N : Nat) : zRR := (zwR (sR_X6_6 R a0 a1 a2 a3 N) a0 2 (N + 4))
theorem sok_X6_7 {R : zRR} {N a0 a1 a2 a3 : Nat} (hR : zRok N R) (ha0 : a0 < N) (ha1 : a1 < N) (ha2 : a2 < N) (ha3 : a3 < N) : zRok (N + 6) (sR_X6_7 R a0 a1 a2 a3 N) := (zRok.w (sok_X6_6 hR ha0 ha1 ha2 ha3) (by omega) (by omega))
abbrev sT_X6_7 (T : zTT) : zTT := (sT_X6_6 T)
abbrev sR_X6_8 (R : zRR) (a0 a1 a2 a3 N : Nat) : zRR := (cR_X3 (sR_X6_7 R a0 a1 a2 a3 N) (N + 6) a1 (N + 7))
theorem sok_X6_8 {R : zRR} {N a0 a1 a2 a3 : Nat} (hR : zRok N R) (ha0 : a0 < N) (ha1 : a1 < N) (ha2 : a2 < N) (ha3 : a3 < N) : zRok (N + 8) (sR_X6_8 R a0 a1 a2 a3 N) := (rok_X3 (zRok.mono (N := (N + 6)) (sok_X6_7 hR ha0 ha1 ha2 ha3) (by omega)) (by omega) (by omega))
abbrev sT_X6_8 (T : zTT) : zTT := (cT_X3 ((sT_X6_7 T) ++ [(0, 3)]))
abbrev sR_X6_9 (R : zRR) (a0 a1 a2 a3 N : Nat) : zRR := (zwR (sR_X6_8 R a0 a1 a2 a3 N) a0 3 (N + 6))
theorem sok_X6_9 {R : zRR} {N a0 a1 a2 a3 : Nat} (hR : zRok N R) (ha0 : a0 < N) (ha1 : a1 < N) (ha2 : a2 < N) (ha3 : a3 < N) : zRok (N + 8) (sR_X6_9 R a0 a1 a2 a3 N) := (zRok.w (sok_X6_8 hR ha0 ha1 ha2 ha3) (by omega) (by omega))
abbrev sT_X6_9 (T : zTT) : zTT := (sT_X6_8 T)
abbrev sR_X6_10 (R : zRR) (a0 a1 a2 a3 N : Nat) : zRR := (cR_X3 (sR_X6_9 R a0 a1 a2 a3 N) (N + 8) a1 (N + 9))
theorem sok_X6_10 {R : zRR} {N a0 a1 a2 a3 : Nat} (hR : zRok N R) (ha0 : a0 < N) (ha1 : a1 < N) (ha2 : a2 < N) (ha3 : a3 < N) : zRok (N + 10) (sR_X6_10 R a0 a1 a2 a3 N) := (rok_X3 (zRok.mono (N := (N + 8)) (sok_X6_9 hR ha0 ha1 ha2 ha3) (by omega)) (by omega) (by omega))
abbrev sT_X6_10 (T : zTT) : zTT := (cT_X3 ((sT_X6_9 T) ++ [(0, 3)]))
abbrev sR_X6_11 (R : zRR) (a0 a1 a2 a3 N : Nat) : zRR := (zwR (sR_X6_10 R a0 a1 a2 a3 N) a0 4 (N + 8))
theorem sok_X6_11 {R : zRR} {N a0 a1 a2 a3 : Nat} (hR : zRok N R) (ha0 : a0 < N) (ha1 : a1 < N) (ha2 : a2 < N) (ha3 : a3 < N) : zRok (N + 10) (sR_X6_11 R a0 a1 a2 a3 N) := (zRok.w (sok_X6_10 hR ha0 ha1 ha2 ha3) (by omega) (by omega))
abbrev sT_X6_11 (T : zTT) : zTT := (sT_X6_10 T)
abbrev cT_X6 (T : zTT) : zTT := (sT_X6_11 T)
abbrev cR_X6 (R : zRR) (a0 a1 a2 a3 N : Nat) : zRR := (sR_X6_11 R a0 a1 a2 a3 N)
theorem zTb_X6 {T : zTT} {o : Nat} {t : Nat × Nat} (h : T[o]? = some t) : (cT_X6 T)[o]? = some t := (zTb_X3 (zTa (zTb_X3 (zTa (zTb_X3 (zTa (zTa (zTa (zTa (zTa h))))))))))
theorem rok_X6 {R : zRR} {N a0 a1 a2 a3 : Nat} (hR : zRok N R) (ha0 : a0 < N) (ha1 : a1 < N) (ha2 : a2 < N) (ha3 : a3 < N) : zRok (N + 10) (cR_X6 R a0 a1 a2 a3 N) := (sok_X6_11 hR ha0 ha1 ha2 ha3)
def cf_X6 (R : zRR) (a0 a1 a2 a3 N : Nat) (M : zMem) : Option (Unit × zMem) :=
  zcl (cf_X3 (sR_X6_5 R a0 a1 a2 a3 N) (N + 4) a1 (N + 5) (zrow0 (zrow0 (zrow0 (zrow0 (zrow0 M N) (N + 1)) (N + 2)) (N + 3)) (N + 4))) fun _ M6 =>
  zcl (cf_X3 (sR_X6_7 R a0 a1 a2 a3 N) (N + 6) a1 (N + 7) (zrow0 M6 (N + 6))) fun _ M9 =>
  zcl (cf_X3 (sR_X6_9 R a0 a1 a2 a3 N) (N + 8) a1 (N + 9) (zrow0 M9 (N + 8))) fun _ M12 =>
  some ((), M12)
def hW_X6 (T : zTT) (R : zRR) (a0 a1 a2 a3 N : Nat) : Prop := hW_X3 ((sT_X6_5 T) ++ [(0, 3)]) (sR_X6_5 R a0 a1 a2 a3 N) (N + 4) a1 (N + 5) ∧ hW_X3 ((sT_X6_7 T) ++ [(0, 3)]) (sR_X6_7 R a0 a1 a2 a3 N) (N + 6) a1 (N + 7) ∧ hW_X3 ((sT_X6_9 T) ++ [(0, 3)]) (sR_X6_9 R a0 a1 a2 a3 N) (N + 8) a1 (N + 9)
set_option maxRecDepth 100000 in
theorem mk_X6 (l : Launch) {T : zTT} {R : zRR} {N a0 a1 a2 a3 : Nat} {M : zMem} (hN : T.length = N) (hB : N + 10 ≤ 900000) (hR : zRok N R) (ha0 : a0 < N) (ha1 : a1 < N) (ha2 : a2 < N) (ha3 : a3 < N) (ht : T[a0]? = some (0, 6)) (hw0 : hW_X6 T R a0 a1 a2 a3 N) : zMC l yX6_init mi9_X6_init (cf_X6 R a0 a1 a2 a3 N M) [.ref a0, .ref a1, .ref a2, .ref a3] N T R M (cT_X6 T) (cR_X6 R a0 a1 a2 a3 N) := by
  refine zMC.of (by decide +kernel) rfl (Nat.le_of_ble_eq_true rfl) (fun C ad _ hnm => ?_)
  show zX C mi9_X6_init (zFinC C mi9_X6_init ad N (cT_X6 T) (cR_X6 R a0 a1 a2 a3 N)) 0 0 (cf_X6 R a0 a1 a2 a3 N M) 0 [(0, .ref a0), (1, .ref a1), (2, .ref a2), (3, .ref a3)] [] ad T R M
  unfold cf_X6
  have hw1 := hw0.1
  have hw2 := hw0.2.1
  have hw3 := hw0.2.2
  refine zx_aload_n (i := 0) (zd me_X6_init 0 rfl) rfl 0 rfl ?_
  refine zx_objInit (zd me_X6_init 1 rfl) lo_X6 ⟨(Nat.le_of_ble_eq_true rfl), (Nat.le_of_ble_eq_true rfl)⟩ ?_
  refine zx_aload_n (i := 0) (zd me_X6_init 2 rfl) rfl 0 rfl ?_
  refine zx_iconst (v := 3) (zd me_X6_init 3 rfl) (by decide) ?_
  refine zx_newaI (NN := 3) (zd me_X6_init 4 rfl) la9_I (by decide) (by decide) (by decide) ⟨(Nat.le_of_ble_eq_true rfl), (Nat.le_of_ble_eq_true rfl)⟩ hN hR (by unfold zBIG; omega) (zr_r (by omega) zr_n) (zr_r (by omega) (zr_r (by omega) (zr_r (by omega) (zr_r (by omega) zr_n)))) (fun q1 => ?_)
  refine zx_putR (zd me_X6_init 5 rfl) fr_X6_11 hnm (zTa ht) rfl (fun _ => ⟨rfl, rfl⟩) ?_
  refine zx_aload_n (i := 0) (zd me_X6_init 6 rfl) rfl 0 rfl ?_
  refine zx_iconst (v := 3) (zd me_X6_init 7 rfl) (by decide) ?_
  refine zx_newaI (NN := 3) (zd me_X6_init 8 rfl) la9_I (by decide) (by decide) (by decide) ⟨(Nat.le_of_ble_eq_true rfl), (Nat.le_of_ble_eq_true rfl)⟩ (by simp [hN]) (sok_X6_0 hR ha0 ha1 ha2 ha3) (by unfold zBIG; omega) (zr_r (by omega) zr_n) (zr_r (by omega) (zr_r (by omega) (zr_r (by omega) (zr_r (by omega) zr_n)))) (fun q2 => ?_)
  refine zx_putR (zd me_X6_init 9 rfl) fr_X6_15 hnm (zTa (zTa ht)) rfl (fun _ => ⟨rfl, rfl⟩) ?_
  refine zx_aload_n (i := 0) (zd me_X6_init 10 rfl) rfl 0 rfl ?_
  refine zx_iconst (v := 3) (zd me_X6_init 11 rfl) (by decide) ?_
  refine zx_newaI (NN := 3) (zd me_X6_init 12 rfl) la9_I (by decide) (by decide) (by decide) ⟨(Nat.le_of_ble_eq_true rfl), (Nat.le_of_ble_eq_true rfl)⟩ (by simp [hN]) (sok_X6_1 hR ha0 ha1 ha2 ha3) (by unfold zBIG; omega) (zr_r (by omega) zr_n) (zr_r (by omega) (zr_r (by omega) (zr_r (by omega) (zr_r (by omega) zr_n)))) (fun q3 => ?_)
  refine zx_putR (zd me_X6_init 13 rfl) fr_X6_18 hnm (zTa (zTa (zTa ht))) rfl (fun _ => ⟨rfl, rfl⟩) ?_
  refine zx_aload_n (i := 0) (zd me_X6_init 14 rfl) rfl 0 rfl ?_
  refine zx_iconst (v := 3) (zd me_X6_init 15 rfl) (by decide) ?_
  refine zx_newaI (NN := 3) (zd me_X6_init 16 rfl) la9_I (by decide) (by decide) (by decide) ⟨(Nat.le_of_ble_eq_true rfl), (Nat.le_of_ble_eq_true rfl)⟩ (by simp [hN]) (sok_X6_2 hR ha0 ha1 ha2 ha3) (by unfold zBIG; omega) (zr_r (by omega) zr_n) (zr_r (by omega) (zr_r (by omega) (zr_r (by omega) (zr_r (by omega) zr_n)))) (fun q4 => ?_)
  refine zx_putR (zd me_X6_init 17 rfl) fr_X6_21 hnm (zTa (zTa (zTa (zTa ht)))) rfl (fun _ => ⟨rfl, rfl⟩) ?_
  refine zx_aload_n (i := 0) (zd me_X6_init 18 rfl) rfl 0 rfl ?_
  refine zx_aload_n (i := 2) (zd me_X6_init 19 rfl) rfl 2 rfl ?_
  refine zx_putR (zd me_X6_init 20 rfl) fr_X6_24 hnm (zTa (zTa (zTa (zTa ht)))) rfl (fun _ => ⟨rfl, rfl⟩) ?_
  refine zx_aload_n (i := 0) (zd me_X6_init 21 rfl) rfl 0 rfl ?_
  refine zx_aload_n (i := 3) (zd me_X6_init 22 rfl) rfl 3 rfl ?_
  refine zx_putR (zd me_X6_init 23 rfl) fr_X6_28 hnm (zTa (zTa (zTa (zTa ht)))) rfl (fun _ => ⟨rfl, rfl⟩) ?_
  refine zx_aload_n (i := 0) (zd me_X6_init 24 rfl) rfl 0 rfl ?_
  refine zx_new (ci := 3) (qc := (RX3, TX3, 2)) (zd me_X6_init 25 rfl) rfl lw9_X6_31 ld9_X3.1 ld9_X3.2 (by decide +kernel) ⟨(Nat.le_of_ble_eq_true rfl), (Nat.le_of_ble_eq_true rfl)⟩ (by simp [hN]) (sok_X6_5 hR ha0 ha1 ha2 ha3) (by unfold zBIG; omega) (zr_r (by omega) zr_n) (zr_r (by omega) (zr_r (by omega) (zr_r (by omega) (zr_r (by omega) zr_n)))) (fun q5 => ?_)
  refine zx_dup (zd me_X6_init 26 rfl) rfl ?_
  refine zx_aload_n (i := 1) (zd me_X6_init 27 rfl) rfl 1 rfl ?_
  refine zx_callI (N0 := (N + 5)) (as := [.ref a1]) (zd me_X6_init 28 rfl) (mk_X3 (zl C) (N := (N + 5)) (by simp [hN]) (by omega) (zRok.mono (N := (N + 4)) (sok_X6_5 hR ha0 ha1 ha2 ha3) (by omega)) (by omega) (by omega) (zTl (t := (0, 3)) (by simp [hN])) hw1) li9_X6_33 rfl ⟨(Nat.le_of_ble_eq_true rfl), (Nat.le_of_ble_eq_true rfl)⟩ (Nat.le_of_ble_eq_true rfl) rfl ⟨(Nat.le_of_ble_eq_true rfl), (Nat.le_of_ble_eq_true rfl)⟩ (zr_r (by omega) (zr_r (by omega) zr_n)) (zr_r (by omega) (zr_r (by omega) (zr_r (by omega) (zr_r (by omega) zr_n)))) rfl (fun M6 ad7 _ hgad7 => ?_)
  refine zx_putR (zd me_X6_init 29 rfl) fr_X6_36 hnm (zTb_X3 (zTa (zTa (zTa (zTa (zTa ht)))))) rfl (fun _ => ⟨rfl, rfl⟩) ?_
  refine zx_aload_n (i := 0) (zd me_X6_init 30 rfl) rfl 0 rfl ?_
  refine zx_new (ci := 3) (qc := (RX3, TX3, 2)) (zd me_X6_init 31 rfl) rfl lw9_X6_31 ld9_X3.1 ld9_X3.2 (by decide +kernel) ⟨(Nat.le_of_ble_eq_true rfl), (Nat.le_of_ble_eq_true rfl)⟩ (by simp [hN]) (sok_X6_7 hR ha0 ha1 ha2 ha3) (by unfold zBIG; omega) (zr_r (by omega) zr_n) (zr_r (by omega) (zr_r (by omega) (zr_r (by omega) (zr_r (by omega) zr_n)))) (fun q8 => ?_)
  refine zx_dup (zd me_X6_init 32 rfl) rfl ?_
  refine zx_aload_n (i := 1) (zd me_X6_init 33 rfl) rfl 1 rfl ?_
  refine zx_callI (N0 := (N + 7)) (as := [.ref a1]) (zd me_X6_init 34 rfl) (mk_X3 (zl C) (N := (N + 7)) (by simp [hN]) (by omega) (zRok.mono (N := (N + 6)) (sok_X6_7 hR ha0 ha1 ha2 ha3) (by omega)) (by omega) (by omega) (zTl (t := (0, 3)) (by simp [hN])) hw2) li9_X6_33 rfl ⟨(Nat.le_of_ble_eq_true rfl), (Nat.le_of_ble_eq_true rfl)⟩ (Nat.le_of_ble_eq_true rfl) rfl ⟨(Nat.le_of_ble_eq_true rfl), (Nat.le_of_ble_eq_true rfl)⟩ (zr_r (by omega) (zr_r (by omega) zr_n)) (zr_r (by omega) (zr_r (by omega) (zr_r (by omega) (zr_r (by omega) zr_n)))) rfl (fun M9 ad10 _ hgad10 => ?_)
  refine zx_putR (zd me_X6_init 35 rfl) fr_X6_39 hnm (zTb_X3 (zTa (zTb_X3 (zTa (zTa (zTa (zTa (zTa ht)))))))) rfl (fun _ => ⟨rfl, rfl⟩) ?_
  refine zx_aload_n (i := 0) (zd me_X6_init 36 rfl) rfl 0 rfl ?_
  refine zx_new (ci := 3) (qc := (RX3, TX3, 2)) (zd me_X6_init 37 rfl) rfl lw9_X6_31 ld9_X3.1 ld9_X3.2 (by decide +kernel) ⟨(Nat.le_of_ble_eq_true rfl), (Nat.le_of_ble_eq_true rfl)⟩ (by simp [hN]) (sok_X6_9 hR ha0 ha1 ha2 ha3) (by unfold zBIG; omega) (zr_r (by omega) zr_n) (zr_r (by omega) (zr_r (by omega) (zr_r (by omega) (zr_r (by omega) zr_n)))) (fun q11 => ?_)
  refine zx_dup (zd me_X6_init 38 rfl) rfl ?_
  refine zx_aload_n (i := 1) (zd me_X6_init 39 rfl) rfl 1 rfl ?_
  refine zx_callI (N0 := (N + 9)) (as := [.ref a1]) (zd me_X6_init 40 rfl) (mk_X3 (zl C) (N := (N + 9)) (by simp [hN]) (by omega) (zRok.mono (N := (N + 8)) (sok_X6_9 hR ha0 ha1 ha2 ha3) (by omega)) (by omega) (by omega) (zTl (t := (0, 3)) (by simp [hN])) hw3) li9_X6_33 rfl ⟨(Nat.le_of_ble_eq_true rfl), (Nat.le_of_ble_eq_true rfl)⟩ (Nat.le_of_ble_eq_true rfl) rfl ⟨(Nat.le_of_ble_eq_true rfl), (Nat.le_of_ble_eq_true rfl)⟩ (zr_r (by omega) (zr_r (by omega) zr_n)) (zr_r (by omega) (zr_r (by omega) (zr_r (by omega) (zr_r (by omega) zr_n)))) rfl (fun M12 ad13 _ hgad13 => ?_)
  refine zx_putR (zd me_X6_init 41 rfl) fr_X6_42 hnm (zTb_X3 (zTa (zTb_X3 (zTa (zTb_X3 (zTa (zTa (zTa (zTa (zTa ht)))))))))) rfl (fun _ => ⟨rfl, rfl⟩) ?_
  exact zx_vretC (zd me_X6_init 42 rfl) rfl rfl rfl ⟨(Nat.le_of_ble_eq_true rfl), (Nat.le_of_ble_eq_true rfl)⟩ (zag_tr (zag_up (q := q11) (zag_tr (zag_up (q := q8) (zag_tr (zag_up (q := q5) (zag_up (q := q4) (zag_up (q := q3) (zag_up (q := q2) (zag_up (q := q1) (fun _ _ => rfl) (by omega) (by unfold zBIG; omega)) (by omega) (by unfold zBIG; omega)) (by omega) (by unfold zBIG; omega)) (by omega) (by unfold zBIG; omega)) (by omega) (by unfold zBIG; omega)) hgad7 (by omega)) (by omega) (by unfold zBIG; omega)) hgad10 (by omega)) (by omega) (by unfold zBIG; omega)) hgad13 (by omega))
abbrev sR_X12_0 (R : zRR) (a0 N : Nat) : zRR := (zwR R a0 1 N)
theorem sok_X12_0 {R : zRR} {N a0 : Nat} (hR : zRok N R) (ha0 : a0 < N) : zRok (N + 1) (sR_X12_0 R a0 N) := (zRok.w (zRok.mono (N := N) hR (by omega)) (by omega) (by omega))
abbrev sT_X12_0 (T : zTT) : zTT := (T ++ [(1, 940)])
abbrev sR_X12_1 (R : zRR) (a0 N : Nat) : zRR := (zwR (sR_X12_0 R a0 N) a0 14 (N + 1))
theorem sok_X12_1 {R : zRR} {N a0 : Nat} (hR : zRok N R) (ha0 : a0 < N) : zRok (N + 2) (sR_X12_1 R a0 N) := (zRok.w (zRok.mono (N := (N + 1)) (sok_X12_0 hR ha0) (by omega)) (by omega) (by omega))
abbrev sT_X12_1 (T : zTT) : zTT := ((sT_X12_0 T) ++ [(1, 354)])
abbrev sR_X12_2 (R : zRR) (a0 N : Nat) : zRR := (zwR (sR_X12_1 R a0 N) a0 15 (N + 2))
theorem sok_X12_2 {R : zRR} {N a0 : Nat} (hR : zRok N R) (ha0 : a0 < N) : zRok (N + 3) (sR_X12_2 R a0 N) := (zRok.w (zRok.mono (N := (N + 2)) (sok_X12_1 hR ha0) (by omega)) (by omega) (by omega))
abbrev sT_X12_2 (T : zTT) : zTT := ((sT_X12_1 T) ++ [(1, 56)])
abbrev sR_X12_3 (R : zRR) (a0 N : Nat) : zRR := (zwR (sR_X12_2 R a0 N) a0 16 (N + 3))
theorem sok_X12_3 {R : zRR} {N a0 : Nat} (hR : zRok N R) (ha0 : a0 < N) : zRok (N + 4) (sR_X12_3 R a0 N) := (zRok.w (zRok.mono (N := (N + 3)) (sok_X12_2 hR ha0) (by omega)) (by omega) (by omega))
abbrev sT_X12_3 (T : zTT) : zTT := ((sT_X12_2 T) ++ [(1, 708)])
abbrev sR_X12_4 (R : zRR) (a0 N : Nat) : zRR := (zwR (sR_X12_3 R a0 N) a0 17 (N + 4))
theorem sok_X12_4 {R : zRR} {N a0 : Nat} (hR : zRok N R) (ha0 : a0 < N) : zRok (N + 5) (sR_X12_4 R a0 N) := (zRok.w (zRok.mono (N := (N + 4)) (sok_X12_3 hR ha0) (by omega)) (by omega) (by omega))
abbrev sT_X12_4 (T : zTT) : zTT := ((sT_X12_3 T) ++ [(1, 448)])
abbrev sR_X12_5 (R : zRR) (a0 N : Nat) : zRR := (zwR (sR_X12_4 R a0 N) a0 18 (N + 5))
theorem sok_X12_5 {R : zRR} {N a0 : Nat} (hR : zRok N R) (ha0 : a0 < N) : zRok (N + 6) (sR_X12_5 R a0 N) := (zRok.w (zRok.mono (N := (N + 5)) (sok_X12_4 hR ha0) (by omega)) (by omega) (by omega))
abbrev sT_X12_5 (T : zTT) : zTT := ((sT_X12_4 T) ++ [(1, 56)])
abbrev sR_X12_6 (R : zRR) (a0 N : Nat) : zRR := (zwR (sR_X12_5 R a0 N) a0 19 (N + 6))
theorem sok_X12_6 {R : zRR} {N a0 : Nat} (hR : zRok N R) (ha0 : a0 < N) : zRok (N + 7) (sR_X12_6 R a0 N) := (zRok.w (zRok.mono (N := (N + 6)) (sok_X12_5 hR ha0) (by omega)) (by omega) (by omega))
abbrev sT_X12_6 (T : zTT) : zTT := ((sT_X12_5 T) ++ [(1, 56)])
abbrev sR_X12_7 (R : zRR) (a0 N : Nat) : zRR := (zwR (sR_X12_6 R a0 N) a0 20 (N + 7))
theorem sok_X12_7 {R : zRR} {N a0 : Nat} (hR : zRok N R) (ha0 : a0 < N) : zRok (N + 8) (sR_X12_7 R a0 N) := (zRok.w (zRok.mono (N := (N + 7)) (sok_X12_6 hR ha0) (by omega)) (by omega) (by omega))
abbrev sT_X12_7 (T : zTT) : zTT := ((sT_X12_6 T) ++ [(1, 56)])
abbrev sR_X12_8 (R : zRR) (a0 N : Nat) : zRR := (zwR (sR_X12_7 R a0 N) a0 21 (N + 8))
theorem sok_X12_8 {R : zRR} {N a0 : Nat} (hR : zRok N R) (ha0 : a0 < N) : zRok (N + 9) (sR_X12_8 R a0 N) := (zRok.w (zRok.mono (N := (N + 8)) (sok_X12_7 hR ha0) (by omega)) (by omega) (by omega))
abbrev sT_X12_8 (T : zTT) : zTT := ((sT_X12_7 T) ++ [(2, 19)])
abbrev sR_X12_9 (R : zRR) (a0 N : Nat) : zRR := (zwR (sR_X12_8 R a0 N) a0 22 (N + 9))
theorem sok_X12_9 {R : zRR} {N a0 : Nat} (hR : zRok N R) (ha0 : a0 < N) : zRok (N + 10) (sR_X12_9 R a0 N) := (zRok.w (zRok.mono (N := (N + 9)) (sok_X12_8 hR ha0) (by omega)) (by omega) (by omega))
abbrev sT_X12_9 (T : zTT) : zTT := ((sT_X12_8 T) ++ [(2, 19)])
abbrev sR_X12_10 (R : zRR) (a0 N : Nat) : zRR := (zwR (sR_X12_9 R a0 N) a0 23 (N + 10))
theorem sok_X12_10 {R : zRR} {N a0 : Nat} (hR : zRok N R) (ha0 : a0 < N) : zRok (N + 11) (sR_X12_10 R a0 N) := (zRok.w (zRok.mono (N := (N + 10)) (sok_X12_9 hR ha0) (by omega)) (by omega) (by omega))
abbrev sT_X12_10 (T : zTT) : zTT := ((sT_X12_9 T) ++ [(2, 38)])
abbrev sR_X12_11 (R : zRR) (a0 N : Nat) : zRR := (zwR (sR_X12_10 R a0 N) a0 24 (N + 11))
theorem sok_X12_11 {R : zRR} {N a0 : Nat} (hR : zRok N R) (ha0 : a0 < N) : zRok (N + 12) (sR_X12_11 R a0 N) := (zRok.w (zRok.mono (N := (N + 11)) (sok_X12_10 hR ha0) (by omega)) (by omega) (by omega))
abbrev sT_X12_11 (T : zTT) : zTT := ((sT_X12_10 T) ++ [(3, 2)])
abbrev sR_X12_12 (R : zRR) (a0 N : Nat) : zRR := (zwR (sR_X12_11 R a0 N) a0 27 (N + 12))
theorem sok_X12_12 {R : zRR} {N a0 : Nat} (hR : zRok N R) (ha0 : a0 < N) : zRok (N + 13) (sR_X12_12 R a0 N) := (zRok.w (zRok.mono (N := (N + 12)) (sok_X12_11 hR ha0) (by omega)) (by omega) (by omega))
abbrev sT_X12_12 (T : zTT) : zTT := ((sT_X12_11 T) ++ [(1, 3)])
abbrev sR_X12_13 (R : zRR) (a0 N : Nat) : zRR := (zwR (sR_X12_12 R a0 N) a0 28 (N + 13))
theorem sok_X12_13 {R : zRR} {N a0 : Nat} (hR : zRok N R) (ha0 : a0 < N) : zRok (N + 14) (sR_X12_13 R a0 N) := (zRok.w (zRok.mono (N := (N + 13)) (sok_X12_12 hR ha0) (by omega)) (by omega) (by omega))
abbrev sT_X12_13 (T : zTT) : zTT := ((sT_X12_12 T) ++ [(1, 3)])
abbrev sR_X12_14 (R : zRR) (a0 N : Nat) : zRR := (zwR (sR_X12_13 R a0 N) a0 29 (N + 14))
theorem sok_X12_14 {R : zRR} {N a0 : Nat} (hR : zRok N R) (ha0 : a0 < N) : zRok (N + 15) (sR_X12_14 R a0 N) := (zRok.w (zRok.mono (N := (N + 14)) (sok_X12_13 hR ha0) (by omega)) (by omega) (by omega))
abbrev sT_X12_14 (T : zTT) : zTT := ((sT_X12_13 T) ++ [(1, 3)])
abbrev sR_X12_15 (R : zRR) (a0 N : Nat) : zRR := (zwR (sR_X12_14 R a0 N) a0 30 (N + 15))
theorem sok_X12_15 {R : zRR} {N a0 : Nat} (hR : zRok N R) (ha0 : a0 < N) : zRok (N + 16) (sR_X12_15 R a0 N) := (zRok.w (zRok.mono (N := (N + 15)) (sok_X12_14 hR ha0) (by omega)) (by omega) (by omega))
abbrev sT_X12_15 (T : zTT) : zTT := ((sT_X12_14 T) ++ [(1, 3)])
abbrev sR_X12_16 (R : zRR) (a0 N : Nat) : zRR := (zwR (sR_X12_15 R a0 N) a0 33 (N + 16))
theorem sok_X12_16 {R : zRR} {N a0 : Nat} (hR : zRok N R) (ha0 : a0 < N) : zRok (N + 17) (sR_X12_16 R a0 N) := (zRok.w (zRok.mono (N := (N + 16)) (sok_X12_15 hR ha0) (by omega)) (by omega) (by omega))
abbrev sT_X12_16 (T : zTT) : zTT := ((sT_X12_15 T) ++ [(1, 3)])
abbrev sR_X12_17 (R : zRR) (a0 N : Nat) : zRR := (zwR (sR_X12_16 R a0 N) a0 34 (N + 17))
theorem sok_X12_17 {R : zRR} {N a0 : Nat} (hR : zRok N R) (ha0 : a0 < N) : zRok (N + 18) (sR_X12_17 R a0 N) := (zRok.w (zRok.mono (N := (N + 17)) (sok_X12_16 hR ha0) (by omega)) (by omega) (by omega))
abbrev sT_X12_17 (T : zTT) : zTT := ((sT_X12_16 T) ++ [(1, 3)])
abbrev sR_X12_18 (R : zRR) (a0 N : Nat) : zRR := (zwR (sR_X12_17 R a0 N) a0 36 (N + 18))
theorem sok_X12_18 {R : zRR} {N a0 : Nat} (hR : zRok N R) (ha0 : a0 < N) : zRok (N + 19) (sR_X12_18 R a0 N) := (zRok.w (zRok.mono (N := (N + 18)) (sok_X12_17 hR ha0) (by omega)) (by omega) (by omega))
abbrev sT_X12_18 (T : zTT) : zTT := ((sT_X12_17 T) ++ [(1, 5)])
abbrev sR_X12_19 (R : zRR) (a0 N : Nat) : zRR := (zwR (sR_X12_18 R a0 N) a0 37 (N + 19))
theorem sok_X12_19 {R : zRR} {N a0 : Nat} (hR : zRok N R) (ha0 : a0 < N) : zRok (N + 20) (sR_X12_19 R a0 N) := (zRok.w (zRok.mono (N := (N + 19)) (sok_X12_18 hR ha0) (by omega)) (by omega) (by omega))
abbrev sT_X12_19 (T : zTT) : zTT := ((sT_X12_18 T) ++ [(1, 5)])
abbrev sR_X12_20 (R : zRR) (a0 N : Nat) : zRR := (zwR (sR_X12_19 R a0 N) a0 40 (N + 20))
theorem sok_X12_20 {R : zRR} {N a0 : Nat} (hR : zRok N R) (ha0 : a0 < N) : zRok (N + 21) (sR_X12_20 R a0 N) := (zRok.w (zRok.mono (N := (N + 20)) (sok_X12_19 hR ha0) (by omega)) (by omega) (by omega))
abbrev sT_X12_20 (T : zTT) : zTT := ((sT_X12_19 T) ++ [(1, 48)])
abbrev sR_X12_21 (R : zRR) (a0 N : Nat) : zRR := (zwR (sR_X12_20 R a0 N) a0 43 (N + 21))
theorem sok_X12_21 {R : zRR} {N a0 : Nat} (hR : zRok N R) (ha0 : a0 < N) : zRok (N + 22) (sR_X12_21 R a0 N) := (zRok.w (zRok.mono (N := (N + 21)) (sok_X12_20 hR ha0) (by omega)) (by omega) (by omega))
abbrev sT_X12_21 (T : zTT) : zTT := ((sT_X12_20 T) ++ [(1, 80)])
abbrev sR_X12_22 (R : zRR) (a0 N : Nat) : zRR := (zwR (sR_X12_21 R a0 N) a0 44 (N + 22))
theorem sok_X12_22 {R : zRR} {N a0 : Nat} (hR : zRok N R) (ha0 : a0 < N) : zRok (N + 23) (sR_X12_22 R a0 N) := (zRok.w (zRok.mono (N := (N + 22)) (sok_X12_21 hR ha0) (by omega)) (by omega) (by omega))
abbrev sT_X12_22 (T : zTT) : zTT := ((sT_X12_21 T) ++ [(1, 4)])
abbrev sR_X12_23 (R : zRR) (a0 N : Nat) : zRR := (zwR (sR_X12_22 R a0 N) a0 47 (N + 23))
theorem sok_X12_23 {R : zRR} {N a0 : Nat} (hR : zRok N R) (ha0 : a0 < N) : zRok (N + 24) (sR_X12_23 R a0 N) := (zRok.w (zRok.mono (N := (N + 23)) (sok_X12_22 hR ha0) (by omega)) (by omega) (by omega))
abbrev sT_X12_23 (T : zTT) : zTT := ((sT_X12_22 T) ++ [(1, 240)])
abbrev cT_X12 (T : zTT) : zTT := (sT_X12_23 T)
abbrev cR_X12 (R : zRR) (a0 N : Nat) : zRR := (sR_X12_23 R a0 N)
theorem zTb_X12 {T : zTT} {o : Nat} {t : Nat × Nat} (h : T[o]? = some t) : (cT_X12 T)[o]? = some t := (zTa (zTa (zTa (zTa (zTa (zTa (zTa (zTa (zTa (zTa (zTa (zTa (zTa (zTa (zTa (zTa (zTa (zTa (zTa (zTa (zTa (zTa (zTa (zTa h))))))))))))))))))))))))
theorem rok_X12 {R : zRR} {N a0 : Nat} (hR : zRok N R) (ha0 : a0 < N) : zRok (N + 24) (cR_X12 R a0 N) := (sok_X12_23 hR ha0)
def cf_X12 (R : zRR) (a0 N : Nat) (M : zMem) : Option (Unit × zMem) :=
  zlet (zwI (zrow0 (zrow0 (zrow0 (zrow0 (zrow0 (zrow0 (zrow0 (zrow0 (zrow0 (zrow0 (zrow0 (zrow0 (zrow0 (zrow0 (zrow0 (zrow0 (zrow0 (zrow0 M N) (N + 1)) (N + 2)) (N + 3)) (N + 4)) (N + 5)) (N + 6)) (N + 7)) (N + 8)) (N + 9)) (N + 10)) (N + 11)) (N + 12)) (N + 13)) (N + 14)) (N + 15)) (N + 16)) (N + 17)) a0 35 (-1 : Int32)) fun M19 =>
  zald 354 (5 : Int32) fun j26 =>
  zlet (zwI (zrow0 (zrow0 (zrow0 (zrow0 (zrow0 (zrow0 M19 (N + 18)) (N + 19)) (N + 20)) (N + 21)) (N + 22)) (N + 23)) (N + 1) j26 (5 : Int32)) fun M27 =>
  zcl (mf_X12_startSo (sR_X12_23 R a0 N) a0 M27) fun _ M28 =>
  some ((), M28)
def hW_X12 (T : zTT) (R : zRR) (a0 N : Nat) : Prop := zi12 (sT_X12_23 T) (sR_X12_23 R a0 N) a0
set_option maxRecDepth 100000 in
theorem mk_X12 (l : Launch) {T : zTT} {R : zRR} {N a0 : Nat} {M : zMem} (hN : T.length = N) (hB : N + 24 ≤ 900000) (hR : zRok N R) (ha0 : a0 < N) (ht : T[a0]? = some (0, 12)) (hw0 : hW_X12 T R a0 N) : zMC l yX12_init mi9_X12_init (cf_X12 R a0 N M) [.ref a0] N T R M (cT_X12 T) (cR_X12 R a0 N) := by
  refine zMC.of (by decide +kernel) rfl (Nat.le_of_ble_eq_true rfl) (fun C ad _ hnm => ?_)
  show zX C mi9_X12_init (zFinC C mi9_X12_init ad N (cT_X12 T) (cR_X12 R a0 N)) 0 0 (cf_X12 R a0 N M) 0 [(0, .ref a0)] [] ad T R M
  unfold cf_X12
  have hw := hw0
  refine zx_aload_n (i := 0) (zd me_X12_init 0 rfl) rfl 0 rfl ?_
  refine zx_objInit (zd me_X12_init 1 rfl) lo_X12 ⟨(Nat.le_of_ble_eq_true rfl), (Nat.le_of_ble_eq_true rfl)⟩ ?_
  refine zx_aload_n (i := 0) (zd me_X12_init 2 rfl) rfl 0 rfl ?_
  refine zx_sipush (v := 940) (zd me_X12_init 3 rfl) (by decide) ?_
  refine zx_newaI (NN := 940) (zd me_X12_init 4 rfl) la9_I (by decide) (by decide) (by decide) ⟨(Nat.le_of_ble_eq_true rfl), (Nat.le_of_ble_eq_true rfl)⟩ hN hR (by unfold zBIG; omega) (zr_r (by omega) zr_n) (zr_r (by omega) zr_n) (fun q1 => ?_)
  refine zx_putR (zd me_X12_init 5 rfl) fr_X12_7 hnm (zTa ht) rfl (fun _ => ⟨rfl, rfl⟩) ?_
  refine zx_aload_n (i := 0) (zd me_X12_init 6 rfl) rfl 0 rfl ?_
  refine zx_sipush (v := 354) (zd me_X12_init 7 rfl) (by decide) ?_
  refine zx_newaI (NN := 354) (zd me_X12_init 8 rfl) la9_I (by decide) (by decide) (by decide) ⟨(Nat.le_of_ble_eq_true rfl), (Nat.le_of_ble_eq_true rfl)⟩ (by simp [hN]) (sok_X12_0 hR ha0) (by unfold zBIG; omega) (zr_r (by omega) zr_n) (zr_r (by omega) zr_n) (fun q2 => ?_)
  refine zx_putR (zd me_X12_init 9 rfl) fr_X12_98 hnm (zTa (zTa ht)) rfl (fun _ => ⟨rfl, rfl⟩) ?_
  refine zx_aload_n (i := 0) (zd me_X12_init 10 rfl) rfl 0 rfl ?_
  refine zx_bipush (v := 56) (zd me_X12_init 11 rfl) (by decide) ?_
  refine zx_newaI (NN := 56) (zd me_X12_init 12 rfl) la9_I (by decide) (by decide) (by decide) ⟨(Nat.le_of_ble_eq_true rfl), (Nat.le_of_ble_eq_true rfl)⟩ (by simp [hN]) (sok_X12_1 hR ha0) (by unfold zBIG; omega) (zr_r (by omega) zr_n) (zr_r (by omega) zr_n) (fun q3 => ?_)
  refine zx_putR (zd me_X12_init 13 rfl) fr_X12_101 hnm (zTa (zTa (zTa ht))) rfl (fun _ => ⟨rfl, rfl⟩) ?_
  refine zx_aload_n (i := 0) (zd me_X12_init 14 rfl) rfl 0 rfl ?_
  refine zx_sipush (v := 708) (zd me_X12_init 15 rfl) (by decide) ?_
  refine zx_newaI (NN := 708) (zd me_X12_init 16 rfl) la9_I (by decide) (by decide) (by decide) ⟨(Nat.le_of_ble_eq_true rfl), (Nat.le_of_ble_eq_true rfl)⟩ (by simp [hN]) (sok_X12_2 hR ha0) (by unfold zBIG; omega) (zr_r (by omega) zr_n) (zr_r (by omega) zr_n) (fun q4 => ?_)
  refine zx_putR (zd me_X12_init 17 rfl) fr_X12_104 hnm (zTa (zTa (zTa (zTa ht)))) rfl (fun _ => ⟨rfl, rfl⟩) ?_
  refine zx_aload_n (i := 0) (zd me_X12_init 18 rfl) rfl 0 rfl ?_
  refine zx_sipush (v := 448) (zd me_X12_init 19 rfl) (by decide) ?_
  refine zx_newaI (NN := 448) (zd me_X12_init 20 rfl) la9_I (by decide) (by decide) (by decide) ⟨(Nat.le_of_ble_eq_true rfl), (Nat.le_of_ble_eq_true rfl)⟩ (by simp [hN]) (sok_X12_3 hR ha0) (by unfold zBIG; omega) (zr_r (by omega) zr_n) (zr_r (by omega) zr_n) (fun q5 => ?_)
  refine zx_putR (zd me_X12_init 21 rfl) fr_X12_107 hnm (zTa (zTa (zTa (zTa (zTa ht))))) rfl (fun _ => ⟨rfl, rfl⟩) ?_
  refine zx_aload_n (i := 0) (zd me_X12_init 22 rfl) rfl 0 rfl ?_
  refine zx_bipush (v := 56) (zd me_X12_init 23 rfl) (by decide) ?_
  refine zx_newaI (NN := 56) (zd me_X12_init 24 rfl) la9_I (by decide) (by decide) (by decide) ⟨(Nat.le_of_ble_eq_true rfl), (Nat.le_of_ble_eq_true rfl)⟩ (by simp [hN]) (sok_X12_4 hR ha0) (by unfold zBIG; omega) (zr_r (by omega) zr_n) (zr_r (by omega) zr_n) (fun q6 => ?_)
  refine zx_putR (zd me_X12_init 25 rfl) fr_X12_110 hnm (zTa (zTa (zTa (zTa (zTa (zTa ht)))))) rfl (fun _ => ⟨rfl, rfl⟩) ?_
  refine zx_aload_n (i := 0) (zd me_X12_init 26 rfl) rfl 0 rfl ?_
  refine zx_bipush (v := 56) (zd me_X12_init 27 rfl) (by decide) ?_
  refine zx_newaI (NN := 56) (zd me_X12_init 28 rfl) la9_I (by decide) (by decide) (by decide) ⟨(Nat.le_of_ble_eq_true rfl), (Nat.le_of_ble_eq_true rfl)⟩ (by simp [hN]) (sok_X12_5 hR ha0) (by unfold zBIG; omega) (zr_r (by omega) zr_n) (zr_r (by omega) zr_n) (fun q7 => ?_)
  refine zx_putR (zd me_X12_init 29 rfl) fr_X12_113 hnm (zTa (zTa (zTa (zTa (zTa (zTa (zTa ht))))))) rfl (fun _ => ⟨rfl, rfl⟩) ?_
  refine zx_aload_n (i := 0) (zd me_X12_init 30 rfl) rfl 0 rfl ?_
  refine zx_bipush (v := 56) (zd me_X12_init 31 rfl) (by decide) ?_
  refine zx_newaI (NN := 56) (zd me_X12_init 32 rfl) la9_I (by decide) (by decide) (by decide) ⟨(Nat.le_of_ble_eq_true rfl), (Nat.le_of_ble_eq_true rfl)⟩ (by simp [hN]) (sok_X12_6 hR ha0) (by unfold zBIG; omega) (zr_r (by omega) zr_n) (zr_r (by omega) zr_n) (fun q8 => ?_)
  refine zx_putR (zd me_X12_init 33 rfl) fr_X12_116 hnm (zTa (zTa (zTa (zTa (zTa (zTa (zTa (zTa ht)))))))) rfl (fun _ => ⟨rfl, rfl⟩) ?_
  refine zx_aload_n (i := 0) (zd me_X12_init 34 rfl) rfl 0 rfl ?_
  refine zx_bipush (v := 19) (zd me_X12_init 35 rfl) (by decide) ?_
  refine zx_newaL (NN := 19) (zd me_X12_init 36 rfl) la9_L (by decide) (by decide) (by decide) ⟨(Nat.le_of_ble_eq_true rfl), (Nat.le_of_ble_eq_true rfl)⟩ (by simp [hN]) (sok_X12_7 hR ha0) (by unfold zBIG; omega) (zr_r (by omega) zr_n) (zr_r (by omega) zr_n) (fun q9 => ?_)
  refine zx_putR (zd me_X12_init 37 rfl) fr_X12_119 hnm (zTa (zTa (zTa (zTa (zTa (zTa (zTa (zTa (zTa ht))))))))) rfl (fun _ => ⟨rfl, rfl⟩) ?_
  refine zx_aload_n (i := 0) (zd me_X12_init 38 rfl) rfl 0 rfl ?_
  refine zx_bipush (v := 19) (zd me_X12_init 39 rfl) (by decide) ?_
  refine zx_newaL (NN := 19) (zd me_X12_init 40 rfl) la9_L (by decide) (by decide) (by decide) ⟨(Nat.le_of_ble_eq_true rfl), (Nat.le_of_ble_eq_true rfl)⟩ (by simp [hN]) (sok_X12_8 hR ha0) (by unfold zBIG; omega) (zr_r (by omega) zr_n) (zr_r (by omega) zr_n) (fun q10 => ?_)
  refine zx_putR (zd me_X12_init 41 rfl) fr_X12_123 hnm (zTa (zTa (zTa (zTa (zTa (zTa (zTa (zTa (zTa (zTa ht)))))))))) rfl (fun _ => ⟨rfl, rfl⟩) ?_
  refine zx_aload_n (i := 0) (zd me_X12_init 42 rfl) rfl 0 rfl ?_
  refine zx_bipush (v := 38) (zd me_X12_init 43 rfl) (by decide) ?_
  refine zx_newaL (NN := 38) (zd me_X12_init 44 rfl) la9_L (by decide) (by decide) (by decide) ⟨(Nat.le_of_ble_eq_true rfl), (Nat.le_of_ble_eq_true rfl)⟩ (by simp [hN]) (sok_X12_9 hR ha0) (by unfold zBIG; omega) (zr_r (by omega) zr_n) (zr_r (by omega) zr_n) (fun q11 => ?_)
  refine zx_putR (zd me_X12_init 45 rfl) fr_X12_126 hnm (zTa (zTa (zTa (zTa (zTa (zTa (zTa (zTa (zTa (zTa (zTa ht))))))))))) rfl (fun _ => ⟨rfl, rfl⟩) ?_
  refine zx_aload_n (i := 0) (zd me_X12_init 46 rfl) rfl 0 rfl ?_
  refine zx_iconst (v := 2) (zd me_X12_init 47 rfl) (by decide) ?_
  refine zx_newaZ (NN := 2) (zd me_X12_init 48 rfl) la9_Z (by decide) (by decide) (by decide) ⟨(Nat.le_of_ble_eq_true rfl), (Nat.le_of_ble_eq_true rfl)⟩ (by simp [hN]) (sok_X12_10 hR ha0) (by unfold zBIG; omega) (zr_r (by omega) zr_n) (zr_r (by omega) zr_n) (fun q12 => ?_)
  refine zx_putR (zd me_X12_init 49 rfl) fr_X12_129 hnm (zTa (zTa (zTa (zTa (zTa (zTa (zTa (zTa (zTa (zTa (zTa (zTa ht)))))))))))) rfl (fun _ => ⟨rfl, rfl⟩) ?_
  refine zx_aload_n (i := 0) (zd me_X12_init 50 rfl) rfl 0 rfl ?_
  refine zx_iconst (v := 3) (zd me_X12_init 51 rfl) (by decide) ?_
  refine zx_newaI (NN := 3) (zd me_X12_init 52 rfl) la9_I (by decide) (by decide) (by decide) ⟨(Nat.le_of_ble_eq_true rfl), (Nat.le_of_ble_eq_true rfl)⟩ (by simp [hN]) (sok_X12_11 hR ha0) (by unfold zBIG; omega) (zr_r (by omega) zr_n) (zr_r (by omega) zr_n) (fun q13 => ?_)
  refine zx_putR (zd me_X12_init 53 rfl) fr_X12_133 hnm (zTa (zTa (zTa (zTa (zTa (zTa (zTa (zTa (zTa (zTa (zTa (zTa (zTa ht))))))))))))) rfl (fun _ => ⟨rfl, rfl⟩) ?_
  refine zx_aload_n (i := 0) (zd me_X12_init 54 rfl) rfl 0 rfl ?_
  refine zx_iconst (v := 3) (zd me_X12_init 55 rfl) (by decide) ?_
  refine zx_newaI (NN := 3) (zd me_X12_init 56 rfl) la9_I (by decide) (by decide) (by decide) ⟨(Nat.le_of_ble_eq_true rfl), (Nat.le_of_ble_eq_true rfl)⟩ (by simp [hN]) (sok_X12_12 hR ha0) (by unfold zBIG; omega) (zr_r (by omega) zr_n) (zr_r (by omega) zr_n) (fun q14 => ?_)
  refine zx_putR (zd me_X12_init 57 rfl) fr_X12_136 hnm (zTa (zTa (zTa (zTa (zTa (zTa (zTa (zTa (zTa (zTa (zTa (zTa (zTa (zTa ht)))))))))))))) rfl (fun _ => ⟨rfl, rfl⟩) ?_
  refine zx_aload_n (i := 0) (zd me_X12_init 58 rfl) rfl 0 rfl ?_
  refine zx_iconst (v := 3) (zd me_X12_init 59 rfl) (by decide) ?_
  refine zx_newaI (NN := 3) (zd me_X12_init 60 rfl) la9_I (by decide) (by decide) (by decide) ⟨(Nat.le_of_ble_eq_true rfl), (Nat.le_of_ble_eq_true rfl)⟩ (by simp [hN]) (sok_X12_13 hR ha0) (by unfold zBIG; omega) (zr_r (by omega) zr_n) (zr_r (by omega) zr_n) (fun q15 => ?_)
  refine zx_putR (zd me_X12_init 61 rfl) fr_X12_139 hnm (zTa (zTa (zTa (zTa (zTa (zTa (zTa (zTa (zTa (zTa (zTa (zTa (zTa (zTa (zTa ht))))))))))))))) rfl (fun _ => ⟨rfl, rfl⟩) ?_
  refine zx_aload_n (i := 0) (zd me_X12_init 62 rfl) rfl 0 rfl ?_
  refine zx_iconst (v := 3) (zd me_X12_init 63 rfl) (by decide) ?_
  refine zx_newaI (NN := 3) (zd me_X12_init 64 rfl) la9_I (by decide) (by decide) (by decide) ⟨(Nat.le_of_ble_eq_true rfl), (Nat.le_of_ble_eq_true rfl)⟩ (by simp [hN]) (sok_X12_14 hR ha0) (by unfold zBIG; omega) (zr_r (by omega) zr_n) (zr_r (by omega) zr_n) (fun q16 => ?_)
  refine zx_putR (zd me_X12_init 65 rfl) fr_X12_142 hnm (zTa (zTa (zTa (zTa (zTa (zTa (zTa (zTa (zTa (zTa (zTa (zTa (zTa (zTa (zTa (zTa ht)))))))))))))))) rfl (fun _ => ⟨rfl, rfl⟩) ?_
  refine zx_aload_n (i := 0) (zd me_X12_init 66 rfl) rfl 0 rfl ?_
  refine zx_iconst (v := 3) (zd me_X12_init 67 rfl) (by decide) ?_
  refine zx_newaI (NN := 3) (zd me_X12_init 68 rfl) la9_I (by decide) (by decide) (by decide) ⟨(Nat.le_of_ble_eq_true rfl), (Nat.le_of_ble_eq_true rfl)⟩ (by simp [hN]) (sok_X12_15 hR ha0) (by unfold zBIG; omega) (zr_r (by omega) zr_n) (zr_r (by omega) zr_n) (fun q17 => ?_)
  refine zx_putR (zd me_X12_init 69 rfl) fr_X12_145 hnm (zTa (zTa (zTa (zTa (zTa (zTa (zTa (zTa (zTa (zTa (zTa (zTa (zTa (zTa (zTa (zTa (zTa ht))))))))))))))))) rfl (fun _ => ⟨rfl, rfl⟩) ?_
  refine zx_aload_n (i := 0) (zd me_X12_init 70 rfl) rfl 0 rfl ?_
  refine zx_iconst (v := 3) (zd me_X12_init 71 rfl) (by decide) ?_
  refine zx_newaI (NN := 3) (zd me_X12_init 72 rfl) la9_I (by decide) (by decide) (by decide) ⟨(Nat.le_of_ble_eq_true rfl), (Nat.le_of_ble_eq_true rfl)⟩ (by simp [hN]) (sok_X12_16 hR ha0) (by unfold zBIG; omega) (zr_r (by omega) zr_n) (zr_r (by omega) zr_n) (fun q18 => ?_)
  refine zx_putR (zd me_X12_init 73 rfl) fr_X12_148 hnm (zTa (zTa (zTa (zTa (zTa (zTa (zTa (zTa (zTa (zTa (zTa (zTa (zTa (zTa (zTa (zTa (zTa (zTa ht)))))))))))))))))) rfl (fun _ => ⟨rfl, rfl⟩) ?_
  refine zx_aload_n (i := 0) (zd me_X12_init 74 rfl) rfl 0 rfl ?_
  refine zx_iconst (v := (-1)) (zd me_X12_init 75 rfl) (by decide) ?_
  refine zx_putI (zd me_X12_init 76 rfl) fp_X12_151 (zTa (zTa (zTa (zTa (zTa (zTa (zTa (zTa (zTa (zTa (zTa (zTa (zTa (zTa (zTa (zTa (zTa (zTa ht)))))))))))))))))) rfl (fun M19 _ => ?_)
  refine zx_aload_n (i := 0) (zd me_X12_init 77 rfl) rfl 0 rfl ?_
  refine zx_iconst (v := 5) (zd me_X12_init 78 rfl) (by decide) ?_
  refine zx_newaI (NN := 5) (zd me_X12_init 79 rfl) la9_I (by decide) (by decide) (by decide) ⟨(Nat.le_of_ble_eq_true rfl), (Nat.le_of_ble_eq_true rfl)⟩ (by simp [hN]) (sok_X12_17 hR ha0) (by unfold zBIG; omega) (zr_r (by omega) zr_n) (zr_r (by omega) zr_n) (fun q20 => ?_)
  refine zx_putR (zd me_X12_init 80 rfl) fr_X12_154 hnm (zTa (zTa (zTa (zTa (zTa (zTa (zTa (zTa (zTa (zTa (zTa (zTa (zTa (zTa (zTa (zTa (zTa (zTa (zTa ht))))))))))))))))))) rfl (fun _ => ⟨rfl, rfl⟩) ?_
  refine zx_aload_n (i := 0) (zd me_X12_init 81 rfl) rfl 0 rfl ?_
  refine zx_iconst (v := 5) (zd me_X12_init 82 rfl) (by decide) ?_
  refine zx_newaI (NN := 5) (zd me_X12_init 83 rfl) la9_I (by decide) (by decide) (by decide) ⟨(Nat.le_of_ble_eq_true rfl), (Nat.le_of_ble_eq_true rfl)⟩ (by simp [hN]) (sok_X12_18 hR ha0) (by unfold zBIG; omega) (zr_r (by omega) zr_n) (zr_r (by omega) zr_n) (fun q21 => ?_)
  refine zx_putR (zd me_X12_init 84 rfl) fr_X12_157 hnm (zTa (zTa (zTa (zTa (zTa (zTa (zTa (zTa (zTa (zTa (zTa (zTa (zTa (zTa (zTa (zTa (zTa (zTa (zTa (zTa ht)))))))))))))))))))) rfl (fun _ => ⟨rfl, rfl⟩) ?_
  refine zx_aload_n (i := 0) (zd me_X12_init 85 rfl) rfl 0 rfl ?_
  refine zx_bipush (v := 48) (zd me_X12_init 86 rfl) (by decide) ?_
  refine zx_newaI (NN := 48) (zd me_X12_init 87 rfl) la9_I (by decide) (by decide) (by decide) ⟨(Nat.le_of_ble_eq_true rfl), (Nat.le_of_ble_eq_true rfl)⟩ (by simp [hN]) (sok_X12_19 hR ha0) (by unfold zBIG; omega) (zr_r (by omega) zr_n) (zr_r (by omega) zr_n) (fun q22 => ?_)
  refine zx_putR (zd me_X12_init 88 rfl) fr_X12_160 hnm (zTa (zTa (zTa (zTa (zTa (zTa (zTa (zTa (zTa (zTa (zTa (zTa (zTa (zTa (zTa (zTa (zTa (zTa (zTa (zTa (zTa ht))))))))))))))))))))) rfl (fun _ => ⟨rfl, rfl⟩) ?_
  refine zx_aload_n (i := 0) (zd me_X12_init 89 rfl) rfl 0 rfl ?_
  refine zx_bipush (v := 80) (zd me_X12_init 90 rfl) (by decide) ?_
  refine zx_newaI (NN := 80) (zd me_X12_init 91 rfl) la9_I (by decide) (by decide) (by decide) ⟨(Nat.le_of_ble_eq_true rfl), (Nat.le_of_ble_eq_true rfl)⟩ (by simp [hN]) (sok_X12_20 hR ha0) (by unfold zBIG; omega) (zr_r (by omega) zr_n) (zr_r (by omega) zr_n) (fun q23 => ?_)
  refine zx_putR (zd me_X12_init 92 rfl) fr_X12_163 hnm (zTa (zTa (zTa (zTa (zTa (zTa (zTa (zTa (zTa (zTa (zTa (zTa (zTa (zTa (zTa (zTa (zTa (zTa (zTa (zTa (zTa (zTa ht)))))))))))))))))))))) rfl (fun _ => ⟨rfl, rfl⟩) ?_
  refine zx_aload_n (i := 0) (zd me_X12_init 93 rfl) rfl 0 rfl ?_
  refine zx_iconst (v := 4) (zd me_X12_init 94 rfl) (by decide) ?_
  refine zx_newaI (NN := 4) (zd me_X12_init 95 rfl) la9_I (by decide) (by decide) (by decide) ⟨(Nat.le_of_ble_eq_true rfl), (Nat.le_of_ble_eq_true rfl)⟩ (by simp [hN]) (sok_X12_21 hR ha0) (by unfold zBIG; omega) (zr_r (by omega) zr_n) (zr_r (by omega) zr_n) (fun q24 => ?_)
  refine zx_putR (zd me_X12_init 96 rfl) fr_X12_166 hnm (zTa (zTa (zTa (zTa (zTa (zTa (zTa (zTa (zTa (zTa (zTa (zTa (zTa (zTa (zTa (zTa (zTa (zTa (zTa (zTa (zTa (zTa (zTa ht))))))))))))))))))))))) rfl (fun _ => ⟨rfl, rfl⟩) ?_
  refine zx_aload_n (i := 0) (zd me_X12_init 97 rfl) rfl 0 rfl ?_
  refine zx_sipush (v := 240) (zd me_X12_init 98 rfl) (by decide) ?_
  refine zx_newaI (NN := 240) (zd me_X12_init 99 rfl) la9_I (by decide) (by decide) (by decide) ⟨(Nat.le_of_ble_eq_true rfl), (Nat.le_of_ble_eq_true rfl)⟩ (by simp [hN]) (sok_X12_22 hR ha0) (by unfold zBIG; omega) (zr_r (by omega) zr_n) (zr_r (by omega) zr_n) (fun q25 => ?_)
  refine zx_putR (zd me_X12_init 100 rfl) fr_X12_169 hnm (zTa (zTa (zTa (zTa (zTa (zTa (zTa (zTa (zTa (zTa (zTa (zTa (zTa (zTa (zTa (zTa (zTa (zTa (zTa (zTa (zTa (zTa (zTa (zTa ht)))))))))))))))))))))))) rfl (fun _ => ⟨rfl, rfl⟩) ?_
  refine zx_aload_n (i := 0) (zd me_X12_init 101 rfl) rfl 0 rfl ?_
  refine zx_getR (b := (N + 1)) (zd me_X12_init 102 rfl) fl_X12_98 (zTa (zTa (zTa (zTa (zTa (zTa (zTa (zTa (zTa (zTa (zTa (zTa (zTa (zTa (zTa (zTa (zTa (zTa (zTa (zTa (zTa (zTa (zTa (zTa ht)))))))))))))))))))))))) rfl (by simp [zwR, va_up]) ?_
  refine zx_iconst (v := 5) (zd me_X12_init 103 rfl) (by decide) ?_
  refine zx_iconst (v := 5) (zd me_X12_init 104 rfl) (by decide) ?_
  refine zx_iast (zd me_X12_init 105 rfl) (zTa (zTa (zTa (zTa (zTa (zTa (zTa (zTa (zTa (zTa (zTa (zTa (zTa (zTa (zTa (zTa (zTa (zTa (zTa (zTa (zTa (zTa (zTl (t := (1, 354)) (by simp [hN])))))))))))))))))))))))) (fun M27 => ?_)
  refine zx_aload_n (i := 0) (zd me_X12_init 106 rfl) rfl 0 rfl ?_
  refine zx_callVV0 (zd me_X12_init 107 rfl) (mc_X12_startSo (zl C) hw M27) lk_X12_172 ⟨(Nat.le_of_ble_eq_true rfl), (Nat.le_of_ble_eq_true rfl)⟩ (Nat.le_of_ble_eq_true rfl) (zi12_c hw) rfl (fun _ M28 => ?_)
  exact zx_vretC (zd me_X12_init 108 rfl) rfl rfl rfl ⟨(Nat.le_of_ble_eq_true rfl), (Nat.le_of_ble_eq_true rfl)⟩ (zag_up (q := q25) (zag_up (q := q24) (zag_up (q := q23) (zag_up (q := q22) (zag_up (q := q21) (zag_up (q := q20) (zag_up (q := q18) (zag_up (q := q17) (zag_up (q := q16) (zag_up (q := q15) (zag_up (q := q14) (zag_up (q := q13) (zag_up (q := q12) (zag_up (q := q11) (zag_up (q := q10) (zag_up (q := q9) (zag_up (q := q8) (zag_up (q := q7) (zag_up (q := q6) (zag_up (q := q5) (zag_up (q := q4) (zag_up (q := q3) (zag_up (q := q2) (zag_up (q := q1) (fun _ _ => rfl) (by omega) (by unfold zBIG; omega)) (by omega) (by unfold zBIG; omega)) (by omega) (by unfold zBIG; omega)) (by omega) (by unfold zBIG; omega)) (by omega) (by unfold zBIG; omega)) (by omega) (by unfold zBIG; omega)) (by omega) (by unfold zBIG; omega)) (by omega) (by unfold zBIG; omega)) (by omega) (by unfold zBIG; omega)) (by omega) (by unfold zBIG; omega)) (by omega) (by unfold zBIG; omega)) (by omega) (by unfold zBIG; omega)) (by omega) (by unfold zBIG; omega)) (by omega) (by unfold zBIG; omega)) (by omega) (by unfold zBIG; omega)) (by omega) (by unfold zBIG; omega)) (by omega) (by unfold zBIG; omega)) (by omega) (by unfold zBIG; omega)) (by omega) (by unfold zBIG; omega)) (by omega) (by unfold zBIG; omega)) (by omega) (by unfold zBIG; omega)) (by omega) (by unfold zBIG; omega)) (by omega) (by unfold zBIG; omega)) (by omega) (by unfold zBIG; omega))
