theorem zgw {own : String} {idx : Nat} {y : MethodName} (h : Cond.methodLink own idx y ∈ zgtbl) : Cond.methodLink own idx y ∈ zgtbl ∨ ∃ host, Cond.methodLinkNest own idx y host ∈ zNest := Or.inl h
def zi10 (T : zTT) (R : zRR) (o : Nat) : Prop := T[o]? = some (0, 10) ∧ (R o 0 = some (zrf R o 0) ∧ (T[(zrf R o 0)]? = some (1, 940))) ∧ (R o 11 = some (zrf R o 11) ∧ (T[(zrf R o 11)]? = some (2, 24))) ∧ True
theorem zi10_c {T : zTT} {R : zRR} {o : Nat} (h : zi10 T R o) : T[o]? = some (0, 10) := h.1
theorem zi10_r0 {T : zTT} {R : zRR} {o : Nat} (h : zi10 T R o) : R o 0 = some (zrf R o 0) := h.2.1.1
theorem zi10_t0 {T : zTT} {R : zRR} {o : Nat} (h : zi10 T R o) : T[(zrf R o 0)]? = some (1, 940) := h.2.1.2
theorem zi10_r11 {T : zTT} {R : zRR} {o : Nat} (h : zi10 T R o) : R o 11 = some (zrf R o 11) := h.2.2.1.1
theorem zi10_t11 {T : zTT} {R : zRR} {o : Nat} (h : zi10 T R o) : T[(zrf R o 11)]? = some (2, 24) := h.2.2.1.2
def zi7 (T : zTT) (R : zRR) (o : Nat) : Prop := T[o]? = some (0, 7) ∧ (R o 6 = some (zrf R o 6) ∧ (T[(zrf R o 6)]? = some (1, 6))) ∧ (R o 7 = some (zrf R o 7) ∧ (T[(zrf R o 7)]? = some (1, 6))) ∧ (R o 8 = some (zrf R o 8) ∧ (T[(zrf R o 8)]? = some (1, 8))) ∧ (R o 9 = some (zrf R o 9) ∧ (T[(zrf R o 9)]? = some (2, 19))) ∧ (R o 10 = some (zrf R o 10) ∧ (T[(zrf R o 10)]? = some (1, 30))) ∧ True
theorem zi7_c {T : zTT} {R : zRR} {o : Nat} (h : zi7 T R o) : T[o]? = some (0, 7) := h.1
theorem zi7_r6 {T : zTT} {R : zRR} {o : Nat} (h : zi7 T R o) : R o 6 = some (zrf R o 6) := h.2.1.1
theorem zi7_t6 {T : zTT} {R : zRR} {o : Nat} (h : zi7 T R o) : T[(zrf R o 6)]? = some (1, 6) := h.2.1.2
theorem zi7_r7 {T : zTT} {R : zRR} {o : Nat} (h : zi7 T R o) : R o 7 = some (zrf R o 7) := h.2.2.1.1
theorem zi7_t7 {T : zTT} {R : zRR} {o : Nat} (h : zi7 T R o) : T[(zrf R o 7)]? = some (1, 6) := h.2.2.1.2
theorem zi7_r8 {T : zTT} {R : zRR} {o : Nat} (h : zi7 T R o) : R o 8 = some (zrf R o 8) := h.2.2.2.1.1
theorem zi7_t8 {T : zTT} {R : zRR} {o : Nat} (h : zi7 T R o) : T[(zrf R o 8)]? = some (1, 8) := h.2.2.2.1.2
theorem zi7_r9 {T : zTT} {R : zRR} {o : Nat} (h : zi7 T R o) : R o 9 = some (zrf R o 9) := h.2.2.2.2.1.1
theorem zi7_t9 {T : zTT} {R : zRR} {o : Nat} (h : zi7 T R o) : T[(zrf R o 9)]? = some (2, 19) := h.2.2.2.2.1.2
theorem zi7_r10 {T : zTT} {R : zRR} {o : Nat} (h : zi7 T R o) : R o 10 = some (zrf R o 10) := h.2.2.2.2.2.1.1
theorem zi7_t10 {T : zTT} {R : zRR} {o : Nat} (h : zi7 T R o) : T[(zrf R o 10)]? = some (1, 30) := h.2.2.2.2.2.1.2
def zi3 (T : zTT) (R : zRR) (o : Nat) : Prop := T[o]? = some (0, 3) ∧ (R o 0 = some (zrf R o 0) ∧ (zi7 T R (zrf R o 0))) ∧ (R o 1 = some (zrf R o 1) ∧ (T[(zrf R o 1)]? = some (1, 62))) ∧ True
theorem zi3_c {T : zTT} {R : zRR} {o : Nat} (h : zi3 T R o) : T[o]? = some (0, 3) := h.1
theorem zi3_r0 {T : zTT} {R : zRR} {o : Nat} (h : zi3 T R o) : R o 0 = some (zrf R o 0) := h.2.1.1
theorem zi3_t0 {T : zTT} {R : zRR} {o : Nat} (h : zi3 T R o) : zi7 T R (zrf R o 0) := h.2.1.2
theorem zi3_r1 {T : zTT} {R : zRR} {o : Nat} (h : zi3 T R o) : R o 1 = some (zrf R o 1) := h.2.2.1.1
theorem zi3_t1 {T : zTT} {R : zRR} {o : Nat} (h : zi3 T R o) : T[(zrf R o 1)]? = some (1, 62) := h.2.2.1.2
def zi8 (T : zTT) (R : zRR) (o : Nat) : Prop := T[o]? = some (0, 8) ∧ (R o 2 = some (zrf R o 2) ∧ (T[(zrf R o 2)]? = some (1, 40))) ∧ (R o 3 = some (zrf R o 3) ∧ (T[(zrf R o 3)]? = some (1, 40))) ∧ (R o 4 = some (zrf R o 4) ∧ (T[(zrf R o 4)]? = some (1, 40))) ∧ (R o 5 = some (zrf R o 5) ∧ (T[(zrf R o 5)]? = some (1, 40))) ∧ True
theorem zi8_c {T : zTT} {R : zRR} {o : Nat} (h : zi8 T R o) : T[o]? = some (0, 8) := h.1
theorem zi8_r2 {T : zTT} {R : zRR} {o : Nat} (h : zi8 T R o) : R o 2 = some (zrf R o 2) := h.2.1.1
theorem zi8_t2 {T : zTT} {R : zRR} {o : Nat} (h : zi8 T R o) : T[(zrf R o 2)]? = some (1, 40) := h.2.1.2
theorem zi8_r3 {T : zTT} {R : zRR} {o : Nat} (h : zi8 T R o) : R o 3 = some (zrf R o 3) := h.2.2.1.1
theorem zi8_t3 {T : zTT} {R : zRR} {o : Nat} (h : zi8 T R o) : T[(zrf R o 3)]? = some (1, 40) := h.2.2.1.2
theorem zi8_r4 {T : zTT} {R : zRR} {o : Nat} (h : zi8 T R o) : R o 4 = some (zrf R o 4) := h.2.2.2.1.1
theorem zi8_t4 {T : zTT} {R : zRR} {o : Nat} (h : zi8 T R o) : T[(zrf R o 4)]? = some (1, 40) := h.2.2.2.1.2
theorem zi8_r5 {T : zTT} {R : zRR} {o : Nat} (h : zi8 T R o) : R o 5 = some (zrf R o 5) := h.2.2.2.2.1.1
theorem zi8_t5 {T : zTT} {R : zRR} {o : Nat} (h : zi8 T R o) : T[(zrf R o 5)]? = some (1, 40) := h.2.2.2.2.1.2
def zi0 (T : zTT) (R : zRR) (o : Nat) : Prop := T[o]? = some (0, 0) ∧ (R o 0 = some (zrf R o 0) ∧ (T[(zrf R o 0)]? = some (1, 40))) ∧ (R o 1 = some (zrf R o 1) ∧ (T[(zrf R o 1)]? = some (1, 40))) ∧ True
theorem zi0_c {T : zTT} {R : zRR} {o : Nat} (h : zi0 T R o) : T[o]? = some (0, 0) := h.1
theorem zi0_r0 {T : zTT} {R : zRR} {o : Nat} (h : zi0 T R o) : R o 0 = some (zrf R o 0) := h.2.1.1
theorem zi0_t0 {T : zTT} {R : zRR} {o : Nat} (h : zi0 T R o) : T[(zrf R o 0)]? = some (1, 40) := h.2.1.2
theorem zi0_r1 {T : zTT} {R : zRR} {o : Nat} (h : zi0 T R o) : R o 1 = some (zrf R o 1) := h.2.2.1.1
theorem zi0_t1 {T : zTT} {R : zRR} {o : Nat} (h : zi0 T R o) : T[(zrf R o 1)]? = some (1, 40) := h.2.2.1.2
def zi1 (T : zTT) (R : zRR) (o : Nat) : Prop := T[o]? = some (0, 1) ∧ True
theorem zi1_c {T : zTT} {R : zRR} {o : Nat} (h : zi1 T R o) : T[o]? = some (0, 1) := h.1
def zi5 (T : zTT) (R : zRR) (o : Nat) : Prop := T[o]? = some (0, 5) ∧ (R o 0 = some (zrf R o 0) ∧ (T[(zrf R o 0)]? = some (5, 9) ∧ ∀ j, j < 9 → R (zrf R o 0) j = some (zrf R (zrf R o 0) j) ∧ T[zrf R (zrf R o 0) j]? = some (1, 62))) ∧ True
theorem zi5_c {T : zTT} {R : zRR} {o : Nat} (h : zi5 T R o) : T[o]? = some (0, 5) := h.1
theorem zi5_r0 {T : zTT} {R : zRR} {o : Nat} (h : zi5 T R o) : R o 0 = some (zrf R o 0) := h.2.1.1
theorem zi5_t0 {T : zTT} {R : zRR} {o : Nat} (h : zi5 T R o) : T[(zrf R o 0)]? = some (5, 9) ∧ ∀ j, j < 9 → R (zrf R o 0) j = some (zrf R (zrf R o 0) j) ∧ T[zrf R (zrf R o 0) j]? = some (1, 62) := h.2.1.2
def zi2 (T : zTT) (R : zRR) (o : Nat) : Prop := T[o]? = some (0, 2) ∧ (R o 0 = some (zrf R o 0) ∧ (zi7 T R (zrf R o 0))) ∧ (R o 1 = some (zrf R o 1) ∧ (zi8 T R (zrf R o 1))) ∧ (R o 2 = some (zrf R o 2) ∧ (T[(zrf R o 2)]? = some (1, 62))) ∧ True
theorem zi2_c {T : zTT} {R : zRR} {o : Nat} (h : zi2 T R o) : T[o]? = some (0, 2) := h.1
theorem zi2_r0 {T : zTT} {R : zRR} {o : Nat} (h : zi2 T R o) : R o 0 = some (zrf R o 0) := h.2.1.1
theorem zi2_t0 {T : zTT} {R : zRR} {o : Nat} (h : zi2 T R o) : zi7 T R (zrf R o 0) := h.2.1.2
theorem zi2_r1 {T : zTT} {R : zRR} {o : Nat} (h : zi2 T R o) : R o 1 = some (zrf R o 1) := h.2.2.1.1
theorem zi2_t1 {T : zTT} {R : zRR} {o : Nat} (h : zi2 T R o) : zi8 T R (zrf R o 1) := h.2.2.1.2
theorem zi2_r2 {T : zTT} {R : zRR} {o : Nat} (h : zi2 T R o) : R o 2 = some (zrf R o 2) := h.2.2.2.1.1
theorem zi2_t2 {T : zTT} {R : zRR} {o : Nat} (h : zi2 T R o) : T[(zrf R o 2)]? = some (1, 62) := h.2.2.2.1.2
def zi9 (T : zTT) (R : zRR) (o : Nat) : Prop := T[o]? = some (0, 9) ∧ (R o 0 = some (zrf R o 0) ∧ (T[(zrf R o 0)]? = some (1, 24))) ∧ True
theorem zi9_c {T : zTT} {R : zRR} {o : Nat} (h : zi9 T R o) : T[o]? = some (0, 9) := h.1
theorem zi9_r0 {T : zTT} {R : zRR} {o : Nat} (h : zi9 T R o) : R o 0 = some (zrf R o 0) := h.2.1.1
theorem zi9_t0 {T : zTT} {R : zRR} {o : Nat} (h : zi9 T R o) : T[(zrf R o 0)]? = some (1, 24) := h.2.1.2
def zi4 (T : zTT) (R : zRR) (o : Nat) : Prop := T[o]? = some (0, 4) ∧ (R o 0 = some (zrf R o 0) ∧ (zi7 T R (zrf R o 0))) ∧ (R o 1 = some (zrf R o 1) ∧ (T[(zrf R o 1)]? = some (1, 25))) ∧ (R o 2 = some (zrf R o 2) ∧ (T[(zrf R o 2)]? = some (1, 5))) ∧ (R o 3 = some (zrf R o 3) ∧ (T[(zrf R o 3)]? = some (1, 5))) ∧ True
theorem zi4_c {T : zTT} {R : zRR} {o : Nat} (h : zi4 T R o) : T[o]? = some (0, 4) := h.1
theorem zi4_r0 {T : zTT} {R : zRR} {o : Nat} (h : zi4 T R o) : R o 0 = some (zrf R o 0) := h.2.1.1
theorem zi4_t0 {T : zTT} {R : zRR} {o : Nat} (h : zi4 T R o) : zi7 T R (zrf R o 0) := h.2.1.2
theorem zi4_r1 {T : zTT} {R : zRR} {o : Nat} (h : zi4 T R o) : R o 1 = some (zrf R o 1) := h.2.2.1.1
theorem zi4_t1 {T : zTT} {R : zRR} {o : Nat} (h : zi4 T R o) : T[(zrf R o 1)]? = some (1, 25) := h.2.2.1.2
theorem zi4_r2 {T : zTT} {R : zRR} {o : Nat} (h : zi4 T R o) : R o 2 = some (zrf R o 2) := h.2.2.2.1.1
theorem zi4_t2 {T : zTT} {R : zRR} {o : Nat} (h : zi4 T R o) : T[(zrf R o 2)]? = some (1, 5) := h.2.2.2.1.2
theorem zi4_r3 {T : zTT} {R : zRR} {o : Nat} (h : zi4 T R o) : R o 3 = some (zrf R o 3) := h.2.2.2.2.1.1
theorem zi4_t3 {T : zTT} {R : zRR} {o : Nat} (h : zi4 T R o) : T[(zrf R o 3)]? = some (1, 5) := h.2.2.2.2.1.2
def zi6 (T : zTT) (R : zRR) (o : Nat) : Prop := T[o]? = some (0, 6) ∧ (R o 0 = some (zrf R o 0) ∧ (zi3 T R (zrf R o 0))) ∧ (R o 1 = some (zrf R o 1) ∧ (zi3 T R (zrf R o 1))) ∧ (R o 2 = some (zrf R o 2) ∧ (zi3 T R (zrf R o 2))) ∧ (R o 3 = some (zrf R o 3) ∧ (zi3 T R (zrf R o 3))) ∧ (R o 4 = some (zrf R o 4) ∧ (zi3 T R (zrf R o 4))) ∧ (R o 5 = some (zrf R o 5) ∧ (T[(zrf R o 5)]? = some (1, 3))) ∧ (R o 6 = some (zrf R o 6) ∧ (T[(zrf R o 6)]? = some (1, 3))) ∧ (R o 8 = some (zrf R o 8) ∧ (T[(zrf R o 8)]? = some (1, 3))) ∧ (R o 9 = some (zrf R o 9) ∧ (T[(zrf R o 9)]? = some (1, 3))) ∧ True
theorem zi6_c {T : zTT} {R : zRR} {o : Nat} (h : zi6 T R o) : T[o]? = some (0, 6) := h.1
theorem zi6_r0 {T : zTT} {R : zRR} {o : Nat} (h : zi6 T R o) : R o 0 = some (zrf R o 0) := h.2.1.1
theorem zi6_t0 {T : zTT} {R : zRR} {o : Nat} (h : zi6 T R o) : zi3 T R (zrf R o 0) := h.2.1.2
theorem zi6_r1 {T : zTT} {R : zRR} {o : Nat} (h : zi6 T R o) : R o 1 = some (zrf R o 1) := h.2.2.1.1
theorem zi6_t1 {T : zTT} {R : zRR} {o : Nat} (h : zi6 T R o) : zi3 T R (zrf R o 1) := h.2.2.1.2
theorem zi6_r2 {T : zTT} {R : zRR} {o : Nat} (h : zi6 T R o) : R o 2 = some (zrf R o 2) := h.2.2.2.1.1
theorem zi6_t2 {T : zTT} {R : zRR} {o : Nat} (h : zi6 T R o) : zi3 T R (zrf R o 2) := h.2.2.2.1.2
theorem zi6_r3 {T : zTT} {R : zRR} {o : Nat} (h : zi6 T R o) : R o 3 = some (zrf R o 3) := h.2.2.2.2.1.1
theorem zi6_t3 {T : zTT} {R : zRR} {o : Nat} (h : zi6 T R o) : zi3 T R (zrf R o 3) := h.2.2.2.2.1.2
theorem zi6_r4 {T : zTT} {R : zRR} {o : Nat} (h : zi6 T R o) : R o 4 = some (zrf R o 4) := h.2.2.2.2.2.1.1
theorem zi6_t4 {T : zTT} {R : zRR} {o : Nat} (h : zi6 T R o) : zi3 T R (zrf R o 4) := h.2.2.2.2.2.1.2
theorem zi6_r5 {T : zTT} {R : zRR} {o : Nat} (h : zi6 T R o) : R o 5 = some (zrf R o 5) := h.2.2.2.2.2.2.1.1
theorem zi6_t5 {T : zTT} {R : zRR} {o : Nat} (h : zi6 T R o) : T[(zrf R o 5)]? = some (1, 3) := h.2.2.2.2.2.2.1.2
theorem zi6_r6 {T : zTT} {R : zRR} {o : Nat} (h : zi6 T R o) : R o 6 = some (zrf R o 6) := h.2.2.2.2.2.2.2.1.1
theorem zi6_t6 {T : zTT} {R : zRR} {o : Nat} (h : zi6 T R o) : T[(zrf R o 6)]? = some (1, 3) := h.2.2.2.2.2.2.2.1.2
theorem zi6_r8 {T : zTT} {R : zRR} {o : Nat} (h : zi6 T R o) : R o 8 = some (zrf R o 8) := h.2.2.2.2.2.2.2.2.1.1
theorem zi6_t8 {T : zTT} {R : zRR} {o : Nat} (h : zi6 T R o) : T[(zrf R o 8)]? = some (1, 3) := h.2.2.2.2.2.2.2.2.1.2
theorem zi6_r9 {T : zTT} {R : zRR} {o : Nat} (h : zi6 T R o) : R o 9 = some (zrf R o 9) := h.2.2.2.2.2.2.2.2.2.1.1
theorem zi6_t9 {T : zTT} {R : zRR} {o : Nat} (h : zi6 T R o) : T[(zrf R o 9)]? = some (1, 3) := h.2.2.2.2.2.2.2.2.2.1.2
def zi11 (T : zTT) (R : zRR) (o : Nat) : Prop := T[o]? = some (0, 11) ∧ (R o 0 = some (zrf R o 0) ∧ (zi10 T R (zrf R o 0))) ∧ (R o 1 = some (zrf R o 1) ∧ (zi7 T R (zrf R o 1))) ∧ (R o 2 = some (zrf R o 2) ∧ (zi7 T R (zrf R o 2))) ∧ (R o 3 = some (zrf R o 3) ∧ (zi3 T R (zrf R o 3))) ∧ (R o 4 = some (zrf R o 4) ∧ (zi3 T R (zrf R o 4))) ∧ (R o 5 = some (zrf R o 5) ∧ (zi8 T R (zrf R o 5))) ∧ (R o 6 = some (zrf R o 6) ∧ (zi8 T R (zrf R o 6))) ∧ (R o 7 = some (zrf R o 7) ∧ (zi0 T R (zrf R o 7))) ∧ (R o 8 = some (zrf R o 8) ∧ (zi5 T R (zrf R o 8))) ∧ (R o 9 = some (zrf R o 9) ∧ (zi6 T R (zrf R o 9))) ∧ (R o 10 = some (zrf R o 10) ∧ (zi4 T R (zrf R o 10))) ∧ (R o 11 = some (zrf R o 11) ∧ (zi1 T R (zrf R o 11))) ∧ (R o 12 = some (zrf R o 12) ∧ (zi9 T R (zrf R o 12))) ∧ (R o 13 = some (zrf R o 13) ∧ (T[(zrf R o 13)]? = some (4, 2) ∧ ∀ j, j < 2 → R (zrf R o 13) j = some (zrf R (zrf R o 13) j) ∧ zi2 T R (zrf R (zrf R o 13) j))) ∧ True
theorem zi11_c {T : zTT} {R : zRR} {o : Nat} (h : zi11 T R o) : T[o]? = some (0, 11) := h.1
theorem zi11_r0 {T : zTT} {R : zRR} {o : Nat} (h : zi11 T R o) : R o 0 = some (zrf R o 0) := h.2.1.1
theorem zi11_t0 {T : zTT} {R : zRR} {o : Nat} (h : zi11 T R o) : zi10 T R (zrf R o 0) := h.2.1.2
theorem zi11_r1 {T : zTT} {R : zRR} {o : Nat} (h : zi11 T R o) : R o 1 = some (zrf R o 1) := h.2.2.1.1
theorem zi11_t1 {T : zTT} {R : zRR} {o : Nat} (h : zi11 T R o) : zi7 T R (zrf R o 1) := h.2.2.1.2
theorem zi11_r2 {T : zTT} {R : zRR} {o : Nat} (h : zi11 T R o) : R o 2 = some (zrf R o 2) := h.2.2.2.1.1
theorem zi11_t2 {T : zTT} {R : zRR} {o : Nat} (h : zi11 T R o) : zi7 T R (zrf R o 2) := h.2.2.2.1.2
theorem zi11_r3 {T : zTT} {R : zRR} {o : Nat} (h : zi11 T R o) : R o 3 = some (zrf R o 3) := h.2.2.2.2.1.1
theorem zi11_t3 {T : zTT} {R : zRR} {o : Nat} (h : zi11 T R o) : zi3 T R (zrf R o 3) := h.2.2.2.2.1.2
theorem zi11_r4 {T : zTT} {R : zRR} {o : Nat} (h : zi11 T R o) : R o 4 = some (zrf R o 4) := h.2.2.2.2.2.1.1
theorem zi11_t4 {T : zTT} {R : zRR} {o : Nat} (h : zi11 T R o) : zi3 T R (zrf R o 4) := h.2.2.2.2.2.1.2
theorem zi11_r5 {T : zTT} {R : zRR} {o : Nat} (h : zi11 T R o) : R o 5 = some (zrf R o 5) := h.2.2.2.2.2.2.1.1
theorem zi11_t5 {T : zTT} {R : zRR} {o : Nat} (h : zi11 T R o) : zi8 T R (zrf R o 5) := h.2.2.2.2.2.2.1.2
theorem zi11_r6 {T : zTT} {R : zRR} {o : Nat} (h : zi11 T R o) : R o 6 = some (zrf R o 6) := h.2.2.2.2.2.2.2.1.1
theorem zi11_t6 {T : zTT} {R : zRR} {o : Nat} (h : zi11 T R o) : zi8 T R (zrf R o 6) := h.2.2.2.2.2.2.2.1.2
theorem zi11_r7 {T : zTT} {R : zRR} {o : Nat} (h : zi11 T R o) : R o 7 = some (zrf R o 7) := h.2.2.2.2.2.2.2.2.1.1
theorem zi11_t7 {T : zTT} {R : zRR} {o : Nat} (h : zi11 T R o) : zi0 T R (zrf R o 7) := h.2.2.2.2.2.2.2.2.1.2
theorem zi11_r8 {T : zTT} {R : zRR} {o : Nat} (h : zi11 T R o) : R o 8 = some (zrf R o 8) := h.2.2.2.2.2.2.2.2.2.1.1
theorem zi11_t8 {T : zTT} {R : zRR} {o : Nat} (h : zi11 T R o) : zi5 T R (zrf R o 8) := h.2.2.2.2.2.2.2.2.2.1.2
theorem zi11_r9 {T : zTT} {R : zRR} {o : Nat} (h : zi11 T R o) : R o 9 = some (zrf R o 9) := h.2.2.2.2.2.2.2.2.2.2.1.1
theorem zi11_t9 {T : zTT} {R : zRR} {o : Nat} (h : zi11 T R o) : zi6 T R (zrf R o 9) := h.2.2.2.2.2.2.2.2.2.2.1.2
theorem zi11_r10 {T : zTT} {R : zRR} {o : Nat} (h : zi11 T R o) : R o 10 = some (zrf R o 10) := h.2.2.2.2.2.2.2.2.2.2.2.1.1
theorem zi11_t10 {T : zTT} {R : zRR} {o : Nat} (h : zi11 T R o) : zi4 T R (zrf R o 10) := h.2.2.2.2.2.2.2.2.2.2.2.1.2
theorem zi11_r11 {T : zTT} {R : zRR} {o : Nat} (h : zi11 T R o) : R o 11 = some (zrf R o 11) := h.2.2.2.2.2.2.2.2.2.2.2.2.1.1
theorem zi11_t11 {T : zTT} {R : zRR} {o : Nat} (h : zi11 T R o) : zi1 T R (zrf R o 11) := h.2.2.2.2.2.2.2.2.2.2.2.2.1.2
theorem zi11_r12 {T : zTT} {R : zRR} {o : Nat} (h : zi11 T R o) : R o 12 = some (zrf R o 12) := h.2.2.2.2.2.2.2.2.2.2.2.2.2.1.1
theorem zi11_t12 {T : zTT} {R : zRR} {o : Nat} (h : zi11 T R o) : zi9 T R (zrf R o 12) := h.2.2.2.2.2.2.2.2.2.2.2.2.2.1.2
theorem zi11_r13 {T : zTT} {R : zRR} {o : Nat} (h : zi11 T R o) : R o 13 = some (zrf R o 13) := h.2.2.2.2.2.2.2.2.2.2.2.2.2.2.1.1
theorem zi11_t13 {T : zTT} {R : zRR} {o : Nat} (h : zi11 T R o) : T[(zrf R o 13)]? = some (4, 2) ∧ ∀ j, j < 2 → R (zrf R o 13) j = some (zrf R (zrf R o 13) j) ∧ zi2 T R (zrf R (zrf R o 13) j) := h.2.2.2.2.2.2.2.2.2.2.2.2.2.2.1.2
def zi12 (T : zTT) (R : zRR) (o : Nat) : Prop := T[o]? = some (0, 12) ∧ (R o 1 = some (zrf R o 1) ∧ (T[(zrf R o 1)]? = some (1, 940))) ∧ (R o 14 = some (zrf R o 14) ∧ (T[(zrf R o 14)]? = some (1, 354))) ∧ (R o 15 = some (zrf R o 15) ∧ (T[(zrf R o 15)]? = some (1, 56))) ∧ (R o 16 = some (zrf R o 16) ∧ (T[(zrf R o 16)]? = some (1, 708))) ∧ (R o 17 = some (zrf R o 17) ∧ (T[(zrf R o 17)]? = some (1, 448))) ∧ (R o 18 = some (zrf R o 18) ∧ (T[(zrf R o 18)]? = some (1, 56))) ∧ (R o 19 = some (zrf R o 19) ∧ (T[(zrf R o 19)]? = some (1, 56))) ∧ (R o 20 = some (zrf R o 20) ∧ (T[(zrf R o 20)]? = some (1, 56))) ∧ (R o 21 = some (zrf R o 21) ∧ (T[(zrf R o 21)]? = some (2, 19))) ∧ (R o 22 = some (zrf R o 22) ∧ (T[(zrf R o 22)]? = some (2, 19))) ∧ (R o 23 = some (zrf R o 23) ∧ (T[(zrf R o 23)]? = some (2, 38))) ∧ (R o 24 = some (zrf R o 24) ∧ (T[(zrf R o 24)]? = some (3, 2))) ∧ (R o 27 = some (zrf R o 27) ∧ (T[(zrf R o 27)]? = some (1, 3))) ∧ (R o 28 = some (zrf R o 28) ∧ (T[(zrf R o 28)]? = some (1, 3))) ∧ (R o 29 = some (zrf R o 29) ∧ (T[(zrf R o 29)]? = some (1, 3))) ∧ (R o 30 = some (zrf R o 30) ∧ (T[(zrf R o 30)]? = some (1, 3))) ∧ (R o 33 = some (zrf R o 33) ∧ (T[(zrf R o 33)]? = some (1, 3))) ∧ (R o 34 = some (zrf R o 34) ∧ (T[(zrf R o 34)]? = some (1, 3))) ∧ (R o 36 = some (zrf R o 36) ∧ (T[(zrf R o 36)]? = some (1, 5))) ∧ (R o 37 = some (zrf R o 37) ∧ (T[(zrf R o 37)]? = some (1, 5))) ∧ (R o 40 = some (zrf R o 40) ∧ (T[(zrf R o 40)]? = some (1, 48))) ∧ (R o 43 = some (zrf R o 43) ∧ (T[(zrf R o 43)]? = some (1, 80))) ∧ (R o 44 = some (zrf R o 44) ∧ (T[(zrf R o 44)]? = some (1, 4))) ∧ (R o 47 = some (zrf R o 47) ∧ (T[(zrf R o 47)]? = some (1, 240))) ∧ True
theorem zi12_c {T : zTT} {R : zRR} {o : Nat} (h : zi12 T R o) : T[o]? = some (0, 12) := h.1
theorem zi12_r1 {T : zTT} {R : zRR} {o : Nat} (h : zi12 T R o) : R o 1 = some (zrf R o 1) := h.2.1.1
theorem zi12_t1 {T : zTT} {R : zRR} {o : Nat} (h : zi12 T R o) : T[(zrf R o 1)]? = some (1, 940) := h.2.1.2
theorem zi12_r14 {T : zTT} {R : zRR} {o : Nat} (h : zi12 T R o) : R o 14 = some (zrf R o 14) := h.2.2.1.1
theorem zi12_t14 {T : zTT} {R : zRR} {o : Nat} (h : zi12 T R o) : T[(zrf R o 14)]? = some (1, 354) := h.2.2.1.2
theorem zi12_r15 {T : zTT} {R : zRR} {o : Nat} (h : zi12 T R o) : R o 15 = some (zrf R o 15) := h.2.2.2.1.1
theorem zi12_t15 {T : zTT} {R : zRR} {o : Nat} (h : zi12 T R o) : T[(zrf R o 15)]? = some (1, 56) := h.2.2.2.1.2
theorem zi12_r16 {T : zTT} {R : zRR} {o : Nat} (h : zi12 T R o) : R o 16 = some (zrf R o 16) := h.2.2.2.2.1.1
theorem zi12_t16 {T : zTT} {R : zRR} {o : Nat} (h : zi12 T R o) : T[(zrf R o 16)]? = some (1, 708) := h.2.2.2.2.1.2
theorem zi12_r17 {T : zTT} {R : zRR} {o : Nat} (h : zi12 T R o) : R o 17 = some (zrf R o 17) := h.2.2.2.2.2.1.1
theorem zi12_t17 {T : zTT} {R : zRR} {o : Nat} (h : zi12 T R o) : T[(zrf R o 17)]? = some (1, 448) := h.2.2.2.2.2.1.2
theorem zi12_r18 {T : zTT} {R : zRR} {o : Nat} (h : zi12 T R o) : R o 18 = some (zrf R o 18) := h.2.2.2.2.2.2.1.1
theorem zi12_t18 {T : zTT} {R : zRR} {o : Nat} (h : zi12 T R o) : T[(zrf R o 18)]? = some (1, 56) := h.2.2.2.2.2.2.1.2
theorem zi12_r19 {T : zTT} {R : zRR} {o : Nat} (h : zi12 T R o) : R o 19 = some (zrf R o 19) := h.2.2.2.2.2.2.2.1.1
theorem zi12_t19 {T : zTT} {R : zRR} {o : Nat} (h : zi12 T R o) : T[(zrf R o 19)]? = some (1, 56) := h.2.2.2.2.2.2.2.1.2
theorem zi12_r20 {T : zTT} {R : zRR} {o : Nat} (h : zi12 T R o) : R o 20 = some (zrf R o 20) := h.2.2.2.2.2.2.2.2.1.1
theorem zi12_t20 {T : zTT} {R : zRR} {o : Nat} (h : zi12 T R o) : T[(zrf R o 20)]? = some (1, 56) := h.2.2.2.2.2.2.2.2.1.2
theorem zi12_r21 {T : zTT} {R : zRR} {o : Nat} (h : zi12 T R o) : R o 21 = some (zrf R o 21) := h.2.2.2.2.2.2.2.2.2.1.1
theorem zi12_t21 {T : zTT} {R : zRR} {o : Nat} (h : zi12 T R o) : T[(zrf R o 21)]? = some (2, 19) := h.2.2.2.2.2.2.2.2.2.1.2
theorem zi12_r22 {T : zTT} {R : zRR} {o : Nat} (h : zi12 T R o) : R o 22 = some (zrf R o 22) := h.2.2.2.2.2.2.2.2.2.2.1.1
theorem zi12_t22 {T : zTT} {R : zRR} {o : Nat} (h : zi12 T R o) : T[(zrf R o 22)]? = some (2, 19) := h.2.2.2.2.2.2.2.2.2.2.1.2
theorem zi12_r23 {T : zTT} {R : zRR} {o : Nat} (h : zi12 T R o) : R o 23 = some (zrf R o 23) := h.2.2.2.2.2.2.2.2.2.2.2.1.1
theorem zi12_t23 {T : zTT} {R : zRR} {o : Nat} (h : zi12 T R o) : T[(zrf R o 23)]? = some (2, 38) := h.2.2.2.2.2.2.2.2.2.2.2.1.2
theorem zi12_r24 {T : zTT} {R : zRR} {o : Nat} (h : zi12 T R o) : R o 24 = some (zrf R o 24) := h.2.2.2.2.2.2.2.2.2.2.2.2.1.1
theorem zi12_t24 {T : zTT} {R : zRR} {o : Nat} (h : zi12 T R o) : T[(zrf R o 24)]? = some (3, 2) := h.2.2.2.2.2.2.2.2.2.2.2.2.1.2
theorem zi12_r27 {T : zTT} {R : zRR} {o : Nat} (h : zi12 T R o) : R o 27 = some (zrf R o 27) := h.2.2.2.2.2.2.2.2.2.2.2.2.2.1.1
theorem zi12_t27 {T : zTT} {R : zRR} {o : Nat} (h : zi12 T R o) : T[(zrf R o 27)]? = some (1, 3) := h.2.2.2.2.2.2.2.2.2.2.2.2.2.1.2
theorem zi12_r28 {T : zTT} {R : zRR} {o : Nat} (h : zi12 T R o) : R o 28 = some (zrf R o 28) := h.2.2.2.2.2.2.2.2.2.2.2.2.2.2.1.1
theorem zi12_t28 {T : zTT} {R : zRR} {o : Nat} (h : zi12 T R o) : T[(zrf R o 28)]? = some (1, 3) := h.2.2.2.2.2.2.2.2.2.2.2.2.2.2.1.2
theorem zi12_r29 {T : zTT} {R : zRR} {o : Nat} (h : zi12 T R o) : R o 29 = some (zrf R o 29) := h.2.2.2.2.2.2.2.2.2.2.2.2.2.2.2.1.1
theorem zi12_t29 {T : zTT} {R : zRR} {o : Nat} (h : zi12 T R o) : T[(zrf R o 29)]? = some (1, 3) := h.2.2.2.2.2.2.2.2.2.2.2.2.2.2.2.1.2
theorem zi12_r30 {T : zTT} {R : zRR} {o : Nat} (h : zi12 T R o) : R o 30 = some (zrf R o 30) := h.2.2.2.2.2.2.2.2.2.2.2.2.2.2.2.2.1.1
theorem zi12_t30 {T : zTT} {R : zRR} {o : Nat} (h : zi12 T R o) : T[(zrf R o 30)]? = some (1, 3) := h.2.2.2.2.2.2.2.2.2.2.2.2.2.2.2.2.1.2
theorem zi12_r33 {T : zTT} {R : zRR} {o : Nat} (h : zi12 T R o) : R o 33 = some (zrf R o 33) := h.2.2.2.2.2.2.2.2.2.2.2.2.2.2.2.2.2.1.1
theorem zi12_t33 {T : zTT} {R : zRR} {o : Nat} (h : zi12 T R o) : T[(zrf R o 33)]? = some (1, 3) := h.2.2.2.2.2.2.2.2.2.2.2.2.2.2.2.2.2.1.2
theorem zi12_r34 {T : zTT} {R : zRR} {o : Nat} (h : zi12 T R o) : R o 34 = some (zrf R o 34) := h.2.2.2.2.2.2.2.2.2.2.2.2.2.2.2.2.2.2.1.1
theorem zi12_t34 {T : zTT} {R : zRR} {o : Nat} (h : zi12 T R o) : T[(zrf R o 34)]? = some (1, 3) := h.2.2.2.2.2.2.2.2.2.2.2.2.2.2.2.2.2.2.1.2
theorem zi12_r36 {T : zTT} {R : zRR} {o : Nat} (h : zi12 T R o) : R o 36 = some (zrf R o 36) := h.2.2.2.2.2.2.2.2.2.2.2.2.2.2.2.2.2.2.2.1.1
theorem zi12_t36 {T : zTT} {R : zRR} {o : Nat} (h : zi12 T R o) : T[(zrf R o 36)]? = some (1, 5) := h.2.2.2.2.2.2.2.2.2.2.2.2.2.2.2.2.2.2.2.1.2
theorem zi12_r37 {T : zTT} {R : zRR} {o : Nat} (h : zi12 T R o) : R o 37 = some (zrf R o 37) := h.2.2.2.2.2.2.2.2.2.2.2.2.2.2.2.2.2.2.2.2.1.1
theorem zi12_t37 {T : zTT} {R : zRR} {o : Nat} (h : zi12 T R o) : T[(zrf R o 37)]? = some (1, 5) := h.2.2.2.2.2.2.2.2.2.2.2.2.2.2.2.2.2.2.2.2.1.2
theorem zi12_r40 {T : zTT} {R : zRR} {o : Nat} (h : zi12 T R o) : R o 40 = some (zrf R o 40) := h.2.2.2.2.2.2.2.2.2.2.2.2.2.2.2.2.2.2.2.2.2.1.1
theorem zi12_t40 {T : zTT} {R : zRR} {o : Nat} (h : zi12 T R o) : T[(zrf R o 40)]? = some (1, 48) := h.2.2.2.2.2.2.2.2.2.2.2.2.2.2.2.2.2.2.2.2.2.1.2
theorem zi12_r43 {T : zTT} {R : zRR} {o : Nat} (h : zi12 T R o) : R o 43 = some (zrf R o 43) := h.2.2.2.2.2.2.2.2.2.2.2.2.2.2.2.2.2.2.2.2.2.2.1.1
theorem zi12_t43 {T : zTT} {R : zRR} {o : Nat} (h : zi12 T R o) : T[(zrf R o 43)]? = some (1, 80) := h.2.2.2.2.2.2.2.2.2.2.2.2.2.2.2.2.2.2.2.2.2.2.1.2
theorem zi12_r44 {T : zTT} {R : zRR} {o : Nat} (h : zi12 T R o) : R o 44 = some (zrf R o 44) := h.2.2.2.2.2.2.2.2.2.2.2.2.2.2.2.2.2.2.2.2.2.2.2.1.1
theorem zi12_t44 {T : zTT} {R : zRR} {o : Nat} (h : zi12 T R o) : T[(zrf R o 44)]? = some (1, 4) := h.2.2.2.2.2.2.2.2.2.2.2.2.2.2.2.2.2.2.2.2.2.2.2.1.2
theorem zi12_r47 {T : zTT} {R : zRR} {o : Nat} (h : zi12 T R o) : R o 47 = some (zrf R o 47) := h.2.2.2.2.2.2.2.2.2.2.2.2.2.2.2.2.2.2.2.2.2.2.2.2.1.1
theorem zi12_t47 {T : zTT} {R : zRR} {o : Nat} (h : zi12 T R o) : T[(zrf R o 47)]? = some (1, 240) := h.2.2.2.2.2.2.2.2.2.2.2.2.2.2.2.2.2.2.2.2.2.2.2.2.1.2
def md_X0_init : List (Nat × Instr × Nat) := [(0, .aload_n 0, 1), (1, .invokespecial 3, 3), (4, .aload_n 0, 1), (5, .bipush 40, 2), (7, .newarray .int, 2), (9, .putfield 11, 3), (12, .aload_n 0, 1), (13, .bipush 40, 2), (15, .newarray .int, 2), (17, .putfield 15, 3), (20, .return_, 1)]
set_option maxRecDepth 20000 in
theorem me_X0_init : zdecs cX0_init md_X0_init := by
  unfold zdecs md_X0_init
  decide +kernel
def md_X0_readLines : List (Nat × Instr × Nat) := [(0, .aload_n 0, 1), (1, .iconst 0, 1), (2, .putfield 18, 3), (5, .aload_n 1, 1), (6, .sipush 400, 3), (9, .invokevirtual 22, 3), (12, .iconst 0, 1), (13, .istore_n 3, 1), (14, .iload_n 3, 1), (15, .sipush 400, 3), (18, .if_icmp .gt 38, 3), (21, .aload_n 1, 1), (22, .invokevirtual 28, 3), (25, .ifCond .eq 5, 3), (28, .iconst 1, 1), (29, .ireturn, 1), (30, .aload_n 0, 1), (31, .aload_n 1, 1), (32, .aload_n 2, 1), (33, .invokevirtual 32, 3), (36, .ifCond .eq 12, 3), (39, .aload_n 1, 1), (40, .bipush 59, 2), (42, .invokevirtual 36, 3), (45, .ifCond .ne 5, 3), (48, .iconst 0, 1), (49, .ireturn, 1), (50, .iinc 3 1, 3), (53, .goto (-39), 3), (56, .iconst 0, 1), (57, .ireturn, 1)]
set_option maxRecDepth 20000 in
theorem me_X0_readLines : zdecs cX0_readLines md_X0_readLines := by
  unfold zdecs md_X0_readLines
  decide +kernel
def md_X0_readLine : List (Nat × Instr × Nat) := [(0, .aload_n 1, 1), (1, .getfield 40, 3), (4, .istore_n 3, 1), (5, .iload_n 3, 1), (6, .bipush 6, 2), (8, .if_icmp .lt 9, 3), (11, .iload_n 3, 1), (12, .bipush 10, 2), (14, .if_icmp .le 9, 3), (17, .aload_n 1, 1), (18, .iconst 1, 1), (19, .invokevirtual 43, 3), (22, .ireturn, 1), (23, .aload_n 0, 1), (24, .getfield 18, 3), (27, .bipush 40, 2), (29, .if_icmp .lt 9, 3), (32, .aload_n 1, 1), (33, .iconst 4, 1), (34, .invokevirtual 43, 3), (37, .ireturn, 1), (38, .aload_n 1, 1), (39, .invokevirtual 46, 3), (42, .iload_n 3, 1), (43, .bipush 10, 2), (45, .if_icmp .ne 15, 3), (48, .aload_n 1, 1), (49, .iconst 1, 1), (50, .bipush 60, 2), (52, .invokevirtual 49, 3), (55, .istore 4, 2), (57, .goto 37, 3), (60, .iload_n 3, 1), (61, .bipush 9, 2), (63, .if_icmp .ne 18, 3), (66, .aload_n 2, 1), (67, .aload_n 1, 1), (68, .iconst 0, 1), (69, .aload_n 2, 1), (70, .getfield 55, 3), (73, .invokevirtual 58, 3), (76, .istore 4, 2), (78, .goto 16, 3), (81, .aload_n 2, 1), (82, .aload_n 1, 1), (83, .bipush 11, 2), (85, .aload_n 2, 1), (86, .getfield 62, 3), (89, .invokevirtual 58, 3), (92, .istore 4, 2), (94, .iload 4, 2), (96, .iconst (-1), 1), (97, .if_icmp .ne 5, 3), (100, .iconst 0, 1), (101, .ireturn, 1), (102, .aload_n 0, 1), (103, .getfield 11, 3), (106, .aload_n 0, 1), (107, .getfield 18, 3), (110, .iload_n 3, 1), (111, .iastore, 1), (112, .aload_n 0, 1), (113, .getfield 15, 3), (116, .aload_n 0, 1), (117, .getfield 18, 3), (120, .iload 4, 2), (122, .iastore, 1), (123, .aload_n 0, 1), (124, .dup, 1), (125, .getfield 18, 3), (128, .iconst 1, 1), (129, .iadd, 1), (130, .putfield 18, 3), (133, .iconst 1, 1), (134, .ireturn, 1)]
set_option maxRecDepth 20000 in
theorem me_X0_readLine : zdecs cX0_readLine md_X0_readLine := by
  unfold zdecs md_X0_readLine
  decide +kernel
def md_X0_live : List (Nat × Instr × Nat) := [(0, .aload_n 0, 1), (1, .iconst 0, 1), (2, .putfield 65, 3), (5, .aload_n 0, 1), (6, .iconst 0, 1), (7, .putfield 68, 3), (10, .aload_n 0, 1), (11, .getfield 68, 3), (14, .aload_n 0, 1), (15, .getfield 18, 3), (18, .if_icmp .ge 61, 3), (21, .aload_n 0, 1), (22, .getfield 68, 3), (25, .bipush 40, 2), (27, .if_icmp .ge 52, 3), (30, .aload_n 0, 1), (31, .aload_n 1, 1), (32, .aload_n 0, 1), (33, .getfield 11, 3), (36, .aload_n 0, 1), (37, .getfield 68, 3), (40, .iaload, 1), (41, .aload_n 0, 1), (42, .getfield 15, 3), (45, .aload_n 0, 1), (46, .getfield 68, 3), (49, .iaload, 1), (50, .invokestatic 71, 3), (53, .putfield 65, 3), (56, .aload_n 0, 1), (57, .getfield 65, 3), (60, .ifCond .eq 6, 3), (63, .goto 16, 3), (66, .aload_n 0, 1), (67, .dup, 1), (68, .getfield 68, 3), (71, .iconst 1, 1), (72, .iadd, 1), (73, .putfield 68, 3), (76, .goto (-66), 3), (79, .aload_n 0, 1), (80, .iconst 1, 1), (81, .putfield 75, 3), (84, .aload_n 0, 1), (85, .aload_n 1, 1), (86, .invokevirtual 79, 3), (89, .putfield 85, 3), (92, .aload_n 0, 1), (93, .aload_n 1, 1), (94, .iconst 2, 1), (95, .invokevirtual 88, 3), (98, .putfield 92, 3), (101, .return_, 1)]
set_option maxRecDepth 20000 in
theorem me_X0_live : zdecs cX0_live md_X0_live := by
  unfold zdecs md_X0_live
  decide +kernel
def md_X0_liveLine : List (Nat × Instr × Nat) := [(0, .iload_n 1, 1), (1, .tableswitch 70 6 9 #[31, 37, 48, 59], 31), (32, .aload_n 0, 1), (33, .iload_n 2, 1), (34, .invokevirtual 95, 3), (37, .ireturn, 1), (38, .bipush 10, 2), (40, .aload_n 0, 1), (41, .iload_n 2, 1), (42, .invokevirtual 98, 3), (45, .invokestatic 101, 3), (48, .ireturn, 1), (49, .bipush 20, 2), (51, .aload_n 0, 1), (52, .iload_n 2, 1), (53, .invokevirtual 104, 3), (56, .invokestatic 101, 3), (59, .ireturn, 1), (60, .bipush 30, 2), (62, .aload_n 0, 1), (63, .iload_n 2, 1), (64, .invokevirtual 107, 3), (67, .invokestatic 101, 3), (70, .ireturn, 1), (71, .aload_n 0, 1), (72, .invokevirtual 79, 3), (75, .iload_n 2, 1), (76, .iadd, 1), (77, .sipush 1000, 3), (80, .if_icmp .le 6, 3), (83, .bipush 41, 2), (85, .ireturn, 1), (86, .aload_n 0, 1), (87, .iload_n 2, 1), (88, .invokevirtual 110, 3), (91, .iconst 0, 1), (92, .ireturn, 1)]
set_option maxRecDepth 20000 in
theorem me_X0_liveLine : zdecs cX0_liveLine md_X0_liveLine := by
  unfold zdecs md_X0_liveLine
  decide +kernel
def md_X0_moreThan : List (Nat × Instr × Nat) := [(0, .iload_n 1, 1), (1, .ifCond .ne 7, 3), (4, .iconst 0, 1), (5, .goto 6, 3), (8, .iload_n 0, 1), (9, .iload_n 1, 1), (10, .iadd, 1), (11, .ireturn, 1)]
set_option maxRecDepth 20000 in
theorem me_X0_moreThan : zdecs cX0_moreThan md_X0_moreThan := by
  unfold zdecs md_X0_moreThan
  decide +kernel
def md_X0_tell : List (Nat × Instr × Nat) := [(0, .aload_n 0, 1), (1, .getfield 75, 3), (4, .ifCond .ne 5, 3), (7, .iconst (-1), 1), (8, .ireturn, 1), (9, .iload_n 1, 1), (10, .tableswitch 50 0 3 #[30, 35, 40, 45], 30), (40, .aload_n 0, 1), (41, .getfield 65, 3), (44, .ireturn, 1), (45, .aload_n 0, 1), (46, .getfield 68, 3), (49, .ireturn, 1), (50, .aload_n 0, 1), (51, .getfield 85, 3), (54, .ireturn, 1), (55, .aload_n 0, 1), (56, .getfield 92, 3), (59, .ireturn, 1), (60, .iconst (-1), 1), (61, .ireturn, 1)]
set_option maxRecDepth 20000 in
theorem me_X0_tell : zdecs cX0_tell md_X0_tell := by
  unfold zdecs md_X0_tell
  decide +kernel
def md_X1_init : List (Nat × Instr × Nat) := [(0, .aload_n 0, 1), (1, .invokespecial 3, 3), (4, .return_, 1)]
set_option maxRecDepth 20000 in
theorem me_X1_init : zdecs cX1_init md_X1_init := by
  unfold zdecs md_X1_init
  decide +kernel
def md_X1_liveMinutes : List (Nat × Instr × Nat) := [(0, .aload_n 0, 1), (1, .iload_n 3, 1), (2, .putfield 9, 3), (5, .iconst 0, 1), (6, .istore 4, 2), (8, .iload 4, 2), (10, .iload_n 2, 1), (11, .if_icmp .ge 29, 3), (14, .aload_n 1, 1), (15, .invokevirtual 15, 3), (18, .sipush 1000, 3), (21, .if_icmp .ge 19, 3), (24, .aload_n 0, 1), (25, .aload_n 1, 1), (26, .invokevirtual 21, 3), (29, .aload_n 1, 1), (30, .iconst 1, 1), (31, .invokevirtual 25, 3), (34, .iinc 4 1, 3), (37, .goto (-29), 3), (40, .iload 4, 2), (42, .ireturn, 1)]
set_option maxRecDepth 20000 in
theorem me_X1_liveMinutes : zdecs cX1_liveMinutes md_X1_liveMinutes := by
  unfold zdecs md_X1_liveMinutes
  decide +kernel
def md_X1_actByDraw : List (Nat × Instr × Nat) := [(0, .aload_n 1, 1), (1, .getfield 29, 3), (4, .getfield 33, 3), (7, .istore_n 2, 1), (8, .aload_n 1, 1), (9, .getfield 29, 3), (12, .getfield 38, 3), (15, .istore_n 3, 1), (16, .aload_n 0, 1), (17, .bipush 8, 2), (19, .invokevirtual 41, 3), (22, .istore 4, 2), (24, .iload 4, 2), (26, .iconst 2, 1), (27, .if_icmp .gt 20, 3), (30, .iload_n 2, 1), (31, .ifCond .le 16, 3), (34, .aload_n 1, 1), (35, .aload_n 0, 1), (36, .iload_n 2, 1), (37, .invokevirtual 41, 3), (40, .invokevirtual 45, 3), (43, .pop, 1), (44, .goto 77, 3), (47, .iload 4, 2), (49, .iconst 3, 1), (50, .if_icmp .ne 20, 3), (53, .iload_n 2, 1), (54, .ifCond .le 16, 3), (57, .aload_n 1, 1), (58, .aload_n 0, 1), (59, .iload_n 2, 1), (60, .invokevirtual 41, 3), (63, .invokevirtual 48, 3), (66, .pop, 1), (67, .goto 54, 3), (70, .iload 4, 2), (72, .iconst 4, 1), (73, .if_icmp .ne 20, 3), (76, .iload_n 3, 1), (77, .ifCond .le 16, 3), (80, .aload_n 1, 1), (81, .aload_n 0, 1), (82, .iload_n 3, 1), (83, .invokevirtual 41, 3), (86, .invokevirtual 51, 3), (89, .pop, 1), (90, .goto 31, 3), (93, .iload 4, 2), (95, .iconst 5, 1), (96, .if_icmp .ne 25, 3), (99, .aload_n 0, 1), (100, .iconst 4, 1), (101, .invokevirtual 41, 3), (104, .ifCond .ne 17, 3), (107, .iload_n 2, 1), (108, .ifCond .le 13, 3), (111, .aload_n 1, 1), (112, .aload_n 0, 1), (113, .iload_n 2, 1), (114, .invokevirtual 41, 3), (117, .invokevirtual 54, 3), (120, .pop, 1), (121, .return_, 1)]
set_option maxRecDepth 20000 in
theorem me_X1_actByDraw : zdecs cX1_actByDraw md_X1_actByDraw := by
  unfold zdecs md_X1_actByDraw
  decide +kernel
def md_X1_draw : List (Nat × Instr × Nat) := [(0, .aload_n 0, 1), (1, .aload_n 0, 1), (2, .getfield 9, 3), (5, .ldc 57, 2), (7, .imul, 1), (8, .sipush 12345, 3), (11, .iadd, 1), (12, .putfield 9, 3), (15, .iload_n 1, 1), (16, .iconst 1, 1), (17, .if_icmp .ge 7, 3), (20, .iconst 0, 1), (21, .goto 12, 3), (24, .aload_n 0, 1), (25, .getfield 9, 3), (28, .bipush 8, 2), (30, .iushr, 1), (31, .iload_n 1, 1), (32, .irem, 1), (33, .ireturn, 1)]
set_option maxRecDepth 20000 in
theorem me_X1_draw : zdecs cX1_draw md_X1_draw := by
  unfold zdecs md_X1_draw
  decide +kernel
def md_X2_init : List (Nat × Instr × Nat) := [(0, .aload_n 0, 1), (1, .invokespecial 1, 3), (4, .aload_n 0, 1), (5, .new 7, 3), (8, .dup, 1), (9, .invokespecial 9, 3), (12, .putfield 10, 3), (15, .aload_n 0, 1), (16, .new 16, 3), (19, .dup, 1), (20, .invokespecial 18, 3), (23, .putfield 19, 3), (26, .aload_n 0, 1), (27, .bipush 62, 2), (29, .newarray .int, 2), (31, .putfield 25, 3), (34, .return_, 1)]
set_option maxRecDepth 20000 in
theorem me_X2_init : zdecs cX2_init md_X2_init := by
  unfold zdecs md_X2_init
  decide +kernel
def md_X2_keep : List (Nat × Instr × Nat) := [(0, .aload_n 0, 1), (1, .getfield 10, 3), (4, .aload_n 1, 1), (5, .invokevirtual 29, 3), (8, .aload_n 0, 1), (9, .getfield 19, 3), (12, .aload_n 3, 1), (13, .invokevirtual 33, 3), (16, .aload_n 2, 1), (17, .aload_n 0, 1), (18, .getfield 25, 3), (21, .invokevirtual 36, 3), (24, .aload_n 0, 1), (25, .iconst 1, 1), (26, .putfield 40, 3), (29, .return_, 1)]
set_option maxRecDepth 20000 in
theorem me_X2_keep : zdecs cX2_keep md_X2_keep := by
  unfold zdecs md_X2_keep
  decide +kernel
def md_X2_giveBack : List (Nat × Instr × Nat) := [(0, .aload_n 1, 1), (1, .aload_n 0, 1), (2, .getfield 10, 3), (5, .invokevirtual 29, 3), (8, .aload_n 3, 1), (9, .aload_n 0, 1), (10, .getfield 19, 3), (13, .invokevirtual 33, 3), (16, .aload_n 2, 1), (17, .aload_n 0, 1), (18, .getfield 25, 3), (21, .invokevirtual 44, 3), (24, .return_, 1)]
set_option maxRecDepth 20000 in
theorem me_X2_giveBack : zdecs cX2_giveBack md_X2_giveBack := by
  unfold zdecs md_X2_giveBack
  decide +kernel
def md_X3_init : List (Nat × Instr × Nat) := [(0, .aload_n 0, 1), (1, .invokespecial 5, 3), (4, .aload_n 0, 1), (5, .bipush 62, 2), (7, .newarray .int, 2), (9, .putfield 11, 3), (12, .aload_n 0, 1), (13, .aload_n 1, 1), (14, .putfield 15, 3), (17, .aload_n 0, 1), (18, .invokevirtual 19, 3), (21, .return_, 1)]
set_option maxRecDepth 20000 in
theorem me_X3_init : zdecs cX3_init md_X3_init := by
  unfold zdecs md_X3_init
  decide +kernel
def md_X3_begin : List (Nat × Instr × Nat) := [(0, .iconst 0, 1), (1, .istore_n 1, 1), (2, .iload_n 1, 1), (3, .bipush 62, 2), (5, .if_icmp .ge 32, 3), (8, .aload_n 0, 1), (9, .getfield 11, 3), (12, .iload_n 1, 1), (13, .iload_n 1, 1), (14, .bipush 20, 2), (16, .if_icmp .lt 13, 3), (19, .iload_n 1, 1), (20, .bipush 28, 2), (22, .if_icmp .ge 7, 3), (25, .iconst (-1), 1), (26, .goto 4, 3), (29, .iconst 0, 1), (30, .iastore, 1), (31, .iinc 1 1, 3), (34, .goto (-32), 3), (37, .aload_n 0, 1), (38, .getfield 11, 3), (41, .bipush 61, 2), (43, .aload_n 0, 1), (44, .getfield 15, 3), (47, .getfield 22, 3), (50, .iastore, 1), (51, .return_, 1)]
set_option maxRecDepth 20000 in
theorem me_X3_begin : zdecs cX3_begin md_X3_begin := by
  unfold zdecs md_X3_begin
  decide +kernel
def md_X3_copyFrom : List (Nat × Instr × Nat) := [(0, .aload_n 1, 1), (1, .getfield 11, 3), (4, .iconst 0, 1), (5, .aload_n 0, 1), (6, .getfield 11, 3), (9, .iconst 0, 1), (10, .bipush 62, 2), (12, .invokestatic 28, 3), (15, .return_, 1)]
set_option maxRecDepth 20000 in
theorem me_X3_copyFrom : zdecs cX3_copyFrom md_X3_copyFrom := by
  unfold zdecs md_X3_copyFrom
  decide +kernel
def md_X3_putInto : List (Nat × Instr × Nat) := [(0, .aload_n 0, 1), (1, .getfield 11, 3), (4, .iconst 0, 1), (5, .aload_n 1, 1), (6, .iconst 0, 1), (7, .bipush 62, 2), (9, .aload_n 1, 1), (10, .arraylength, 1), (11, .invokestatic 34, 3), (14, .invokestatic 28, 3), (17, .return_, 1)]
set_option maxRecDepth 20000 in
theorem me_X3_putInto : zdecs cX3_putInto md_X3_putInto := by
  unfold zdecs md_X3_putInto
  decide +kernel
def md_X3_takeFrom : List (Nat × Instr × Nat) := [(0, .aload_n 1, 1), (1, .iconst 0, 1), (2, .aload_n 0, 1), (3, .getfield 11, 3), (6, .iconst 0, 1), (7, .bipush 62, 2), (9, .aload_n 1, 1), (10, .arraylength, 1), (11, .invokestatic 34, 3), (14, .invokestatic 28, 3), (17, .return_, 1)]
set_option maxRecDepth 20000 in
theorem me_X3_takeFrom : zdecs cX3_takeFrom md_X3_takeFrom := by
  unfold zdecs md_X3_takeFrom
  decide +kernel
def md_X3_minute : List (Nat × Instr × Nat) := [(0, .aload_n 0, 1), (1, .getfield 11, 3), (4, .bipush 60, 2), (6, .iaload, 1), (7, .ireturn, 1)]
set_option maxRecDepth 20000 in
theorem me_X3_minute : zdecs cX3_minute md_X3_minute := by
  unfold zdecs md_X3_minute
  decide +kernel
def md_X3_freshLeft : List (Nat × Instr × Nat) := [(0, .aload_n 0, 1), (1, .getfield 11, 3), (4, .bipush 61, 2), (6, .iaload, 1), (7, .ireturn, 1)]
set_option maxRecDepth 20000 in
theorem me_X3_freshLeft : zdecs cX3_freshLeft md_X3_freshLeft := by
  unfold zdecs md_X3_freshLeft
  decide +kernel
def md_X3_hadBy : List (Nat × Instr × Nat) := [(0, .aload_n 0, 1), (1, .getfield 15, 3), (4, .iload_n 1, 1), (5, .invokevirtual 40, 3), (8, .ifCond .eq 14, 3), (11, .aload_n 0, 1), (12, .getfield 11, 3), (15, .iconst 0, 1), (16, .iload_n 1, 1), (17, .iadd, 1), (18, .iaload, 1), (19, .goto 4, 3), (22, .iconst 0, 1), (23, .ireturn, 1)]
set_option maxRecDepth 20000 in
theorem me_X3_hadBy : zdecs cX3_hadBy md_X3_hadBy := by
  unfold zdecs md_X3_hadBy
  decide +kernel
def md_X3_insideOf : List (Nat × Instr × Nat) := [(0, .aload_n 0, 1), (1, .getfield 15, 3), (4, .iload_n 1, 1), (5, .invokevirtual 40, 3), (8, .ifCond .eq 15, 3), (11, .aload_n 0, 1), (12, .getfield 11, 3), (15, .bipush 6, 2), (17, .iload_n 1, 1), (18, .iadd, 1), (19, .iaload, 1), (20, .goto 4, 3), (23, .iconst 0, 1), (24, .ireturn, 1)]
set_option maxRecDepth 20000 in
theorem me_X3_insideOf : zdecs cX3_insideOf md_X3_insideOf := by
  unfold zdecs md_X3_insideOf
  decide +kernel
def md_X3_isOpen : List (Nat × Instr × Nat) := [(0, .aload_n 0, 1), (1, .getfield 15, 3), (4, .iload_n 1, 1), (5, .invokevirtual 40, 3), (8, .ifCond .eq 51, 3), (11, .aload_n 0, 1), (12, .getfield 11, 3), (15, .bipush 6, 2), (17, .iload_n 1, 1), (18, .iadd, 1), (19, .iaload, 1), (20, .invokestatic 44, 3), (23, .aload_n 0, 1), (24, .getfield 15, 3), (27, .getfield 50, 3), (30, .iload_n 1, 1), (31, .iaload, 1), (32, .if_icmp .ge 27, 3), (35, .aload_n 0, 1), (36, .getfield 11, 3), (39, .iconst 0, 1), (40, .iload_n 1, 1), (41, .iadd, 1), (42, .iaload, 1), (43, .aload_n 0, 1), (44, .getfield 15, 3), (47, .getfield 53, 3), (50, .iload_n 1, 1), (51, .iaload, 1), (52, .if_icmp .ge 7, 3), (55, .iconst 1, 1), (56, .goto 4, 3), (59, .iconst 0, 1), (60, .ireturn, 1)]
set_option maxRecDepth 20000 in
theorem me_X3_isOpen : zdecs cX3_isOpen md_X3_isOpen := by
  unfold zdecs md_X3_isOpen
  decide +kernel
def md_X3_openBaths : List (Nat × Instr × Nat) := [(0, .iconst 0, 1), (1, .istore_n 1, 1), (2, .iconst 0, 1), (3, .istore_n 2, 1), (4, .iload_n 2, 1), (5, .aload_n 0, 1), (6, .getfield 15, 3), (9, .getfield 56, 3), (12, .if_icmp .ge 23, 3), (15, .aload_n 0, 1), (16, .iload_n 2, 1), (17, .invokevirtual 59, 3), (20, .ifCond .eq 9, 3), (23, .iload_n 1, 1), (24, .iconst 1, 1), (25, .iload_n 2, 1), (26, .ishl, 1), (27, .ior, 1), (28, .istore_n 1, 1), (29, .iinc 2 1, 3), (32, .goto (-28), 3), (35, .iload_n 1, 1), (36, .ireturn, 1)]
set_option maxRecDepth 20000 in
theorem me_X3_openBaths : zdecs cX3_openBaths md_X3_openBaths := by
  unfold zdecs md_X3_openBaths
  decide +kernel
def md_X3_howIs : List (Nat × Instr × Nat) := [(0, .aload_n 0, 1), (1, .getfield 15, 3), (4, .iload_n 1, 1), (5, .invokevirtual 62, 3), (8, .ifCond .eq 15, 3), (11, .aload_n 0, 1), (12, .getfield 11, 3), (15, .bipush 12, 2), (17, .iload_n 1, 1), (18, .iadd, 1), (19, .iaload, 1), (20, .goto 4, 3), (23, .iconst (-1), 1), (24, .ireturn, 1)]
set_option maxRecDepth 20000 in
theorem me_X3_howIs : zdecs cX3_howIs md_X3_howIs := by
  unfold zdecs md_X3_howIs
  decide +kernel
def md_X3_bathOf : List (Nat × Instr × Nat) := [(0, .aload_n 0, 1), (1, .getfield 15, 3), (4, .iload_n 1, 1), (5, .invokevirtual 62, 3), (8, .ifCond .eq 15, 3), (11, .aload_n 0, 1), (12, .getfield 11, 3), (15, .bipush 20, 2), (17, .iload_n 1, 1), (18, .iadd, 1), (19, .iaload, 1), (20, .goto 4, 3), (23, .iconst (-1), 1), (24, .ireturn, 1)]
set_option maxRecDepth 20000 in
theorem me_X3_bathOf : zdecs cX3_bathOf md_X3_bathOf := by
  unfold zdecs md_X3_bathOf
  decide +kernel
def md_X3_leftOf : List (Nat × Instr × Nat) := [(0, .aload_n 0, 1), (1, .getfield 15, 3), (4, .iload_n 1, 1), (5, .invokevirtual 62, 3), (8, .ifCond .eq 15, 3), (11, .aload_n 0, 1), (12, .getfield 11, 3), (15, .bipush 28, 2), (17, .iload_n 1, 1), (18, .iadd, 1), (19, .iaload, 1), (20, .goto 4, 3), (23, .iconst 0, 1), (24, .ireturn, 1)]
set_option maxRecDepth 20000 in
theorem me_X3_leftOf : zdecs cX3_leftOf md_X3_leftOf := by
  unfold zdecs md_X3_leftOf
  decide +kernel
def md_X3_overOf : List (Nat × Instr × Nat) := [(0, .aload_n 0, 1), (1, .getfield 15, 3), (4, .iload_n 1, 1), (5, .invokevirtual 62, 3), (8, .ifCond .eq 15, 3), (11, .aload_n 0, 1), (12, .getfield 11, 3), (15, .bipush 44, 2), (17, .iload_n 1, 1), (18, .iadd, 1), (19, .iaload, 1), (20, .goto 4, 3), (23, .iconst 0, 1), (24, .ireturn, 1)]
set_option maxRecDepth 20000 in
theorem me_X3_overOf : zdecs cX3_overOf md_X3_overOf := by
  unfold zdecs md_X3_overOf
  decide +kernel
def md_X3_triesOf : List (Nat × Instr × Nat) := [(0, .aload_n 0, 1), (1, .getfield 15, 3), (4, .iload_n 1, 1), (5, .invokevirtual 62, 3), (8, .ifCond .eq 15, 3), (11, .aload_n 0, 1), (12, .getfield 11, 3), (15, .bipush 52, 2), (17, .iload_n 1, 1), (18, .iadd, 1), (19, .iaload, 1), (20, .goto 4, 3), (23, .iconst 0, 1), (24, .ireturn, 1)]
set_option maxRecDepth 20000 in
theorem me_X3_triesOf : zdecs cX3_triesOf md_X3_triesOf := by
  unfold zdecs md_X3_triesOf
  decide +kernel
def md_X3_isHeld : List (Nat × Instr × Nat) := [(0, .aload_n 0, 1), (1, .iload_n 1, 1), (2, .invokevirtual 65, 3), (5, .iconst 1, 1), (6, .if_icmp .ne 19, 3), (9, .aload_n 0, 1), (10, .getfield 11, 3), (13, .bipush 28, 2), (15, .iload_n 1, 1), (16, .iadd, 1), (17, .iaload, 1), (18, .ifCond .ne 7, 3), (21, .iconst 1, 1), (22, .goto 4, 3), (25, .iconst 0, 1), (26, .ireturn, 1)]
set_option maxRecDepth 20000 in
theorem me_X3_isHeld : zdecs cX3_isHeld md_X3_isHeld := by
  unfold zdecs md_X3_isHeld
  decide +kernel
def md_X3_tellSheet : List (Nat × Instr × Nat) := [(0, .iload_n 2, 1), (1, .tableswitch 84 1 5 #[35, 41, 47, 53, 78], 35), (36, .aload_n 0, 1), (37, .iload_n 1, 1), (38, .invokevirtual 65, 3), (41, .ireturn, 1), (42, .aload_n 0, 1), (43, .iload_n 1, 1), (44, .invokevirtual 68, 3), (47, .ireturn, 1), (48, .aload_n 0, 1), (49, .iload_n 1, 1), (50, .invokevirtual 71, 3), (53, .ireturn, 1), (54, .aload_n 0, 1), (55, .getfield 15, 3), (58, .iload_n 1, 1), (59, .invokevirtual 62, 3), (62, .ifCond .eq 15, 3), (65, .aload_n 0, 1), (66, .getfield 11, 3), (69, .bipush 36, 2), (71, .iload_n 1, 1), (72, .iadd, 1), (73, .iaload, 1), (74, .goto 4, 3), (77, .iconst 0, 1), (78, .ireturn, 1), (79, .aload_n 0, 1), (80, .iload_n 1, 1), (81, .invokevirtual 74, 3), (84, .ireturn, 1), (85, .aload_n 0, 1), (86, .iload_n 1, 1), (87, .invokevirtual 77, 3), (90, .ireturn, 1)]
set_option maxRecDepth 20000 in
theorem me_X3_tellSheet : zdecs cX3_tellSheet md_X3_tellSheet := by
  unfold zdecs md_X3_tellSheet
  decide +kernel
def md_X3_allThatAre : List (Nat × Instr × Nat) := [(0, .iconst 0, 1), (1, .istore_n 2, 1), (2, .iconst 0, 1), (3, .istore_n 3, 1), (4, .iload_n 3, 1), (5, .aload_n 0, 1), (6, .getfield 15, 3), (9, .getfield 80, 3), (12, .if_icmp .ge 28, 3), (15, .aload_n 0, 1), (16, .getfield 11, 3), (19, .bipush 12, 2), (21, .iload_n 3, 1), (22, .iadd, 1), (23, .iaload, 1), (24, .iload_n 1, 1), (25, .if_icmp .ne 9, 3), (28, .iload_n 2, 1), (29, .iconst 1, 1), (30, .iload_n 3, 1), (31, .ishl, 1), (32, .ior, 1), (33, .istore_n 2, 1), (34, .iinc 3 1, 3), (37, .goto (-33), 3), (40, .iload_n 2, 1), (41, .ireturn, 1)]
set_option maxRecDepth 20000 in
theorem me_X3_allThatAre : zdecs cX3_allThatAre md_X3_allThatAre := by
  unfold zdecs md_X3_allThatAre
  decide +kernel
def md_X3_allHeld : List (Nat × Instr × Nat) := [(0, .iconst 0, 1), (1, .istore_n 1, 1), (2, .iconst 0, 1), (3, .istore_n 2, 1), (4, .iload_n 2, 1), (5, .aload_n 0, 1), (6, .getfield 15, 3), (9, .getfield 80, 3), (12, .if_icmp .ge 23, 3), (15, .aload_n 0, 1), (16, .iload_n 2, 1), (17, .invokevirtual 83, 3), (20, .ifCond .eq 9, 3), (23, .iload_n 1, 1), (24, .iconst 1, 1), (25, .iload_n 2, 1), (26, .ishl, 1), (27, .ior, 1), (28, .istore_n 1, 1), (29, .iinc 2 1, 3), (32, .goto (-28), 3), (35, .iload_n 1, 1), (36, .ireturn, 1)]
set_option maxRecDepth 20000 in
theorem me_X3_allHeld : zdecs cX3_allHeld md_X3_allHeld := by
  unfold zdecs md_X3_allHeld
  decide +kernel
def md_X3_minutesOver : List (Nat × Instr × Nat) := [(0, .iconst 0, 1), (1, .istore_n 1, 1), (2, .iconst 0, 1), (3, .istore_n 2, 1), (4, .iload_n 2, 1), (5, .aload_n 0, 1), (6, .getfield 15, 3), (9, .getfield 80, 3), (12, .if_icmp .ge 21, 3), (15, .iload_n 1, 1), (16, .aload_n 0, 1), (17, .getfield 11, 3), (20, .bipush 44, 2), (22, .iload_n 2, 1), (23, .iadd, 1), (24, .iaload, 1), (25, .iadd, 1), (26, .istore_n 1, 1), (27, .iinc 2 1, 3), (30, .goto (-26), 3), (33, .iload_n 1, 1), (34, .ireturn, 1)]
set_option maxRecDepth 20000 in
theorem me_X3_minutesOver : zdecs cX3_minutesOver md_X3_minutesOver := by
  unfold zdecs md_X3_minutesOver
  decide +kernel
def md_X3_mostStarted : List (Nat × Instr × Nat) := [(0, .iconst 0, 1), (1, .istore_n 1, 1), (2, .iconst (-1), 1), (3, .istore_n 2, 1), (4, .iconst 0, 1), (5, .istore_n 3, 1), (6, .iload_n 3, 1), (7, .aload_n 0, 1), (8, .getfield 15, 3), (11, .getfield 80, 3), (14, .if_icmp .ge 34, 3), (17, .aload_n 0, 1), (18, .getfield 11, 3), (21, .bipush 52, 2), (23, .iload_n 3, 1), (24, .iadd, 1), (25, .iaload, 1), (26, .iload_n 1, 1), (27, .if_icmp .le 15, 3), (30, .aload_n 0, 1), (31, .getfield 11, 3), (34, .bipush 52, 2), (36, .iload_n 3, 1), (37, .iadd, 1), (38, .iaload, 1), (39, .istore_n 1, 1), (40, .iload_n 3, 1), (41, .istore_n 2, 1), (42, .iinc 3 1, 3), (45, .goto (-39), 3), (48, .iload_n 2, 1), (49, .ireturn, 1)]
set_option maxRecDepth 20000 in
theorem me_X3_mostStarted : zdecs cX3_mostStarted md_X3_mostStarted := by
  unfold zdecs md_X3_mostStarted
  decide +kernel
def md_X3_needOf : List (Nat × Instr × Nat) := [(0, .aload_n 0, 1), (1, .getfield 15, 3), (4, .iload_n 1, 1), (5, .invokevirtual 40, 3), (8, .ifCond .eq 16, 3), (11, .aload_n 0, 1), (12, .getfield 15, 3), (15, .getfield 53, 3), (18, .iload_n 1, 1), (19, .iaload, 1), (20, .iconst 1, 1), (21, .if_icmp .ge 5, 3), (24, .iconst (-1), 1), (25, .ireturn, 1), (26, .iconst 0, 1), (27, .istore_n 2, 1), (28, .iconst 0, 1), (29, .istore_n 3, 1), (30, .iload_n 3, 1), (31, .aload_n 0, 1), (32, .getfield 15, 3), (35, .getfield 80, 3), (38, .if_icmp .ge 82, 3), (41, .aload_n 0, 1), (42, .getfield 11, 3), (45, .bipush 12, 2), (47, .iload_n 3, 1), (48, .iadd, 1), (49, .iaload, 1), (50, .ifCond .eq 29, 3), (53, .aload_n 0, 1), (54, .getfield 11, 3), (57, .bipush 12, 2), (59, .iload_n 3, 1), (60, .iadd, 1), (61, .iaload, 1), (62, .iconst 1, 1), (63, .if_icmp .ne 20, 3), (66, .aload_n 0, 1), (67, .getfield 11, 3), (70, .bipush 20, 2), (72, .iload_n 3, 1), (73, .iadd, 1), (74, .iaload, 1), (75, .iload_n 1, 1), (76, .if_icmp .ge 7, 3), (79, .iconst 1, 1), (80, .goto 4, 3), (83, .iconst 0, 1), (84, .istore 4, 2), (86, .iload 4, 2), (88, .ifCond .eq 26, 3), (91, .aload_n 0, 1), (92, .getfield 15, 3), (95, .aload_n 0, 1), (96, .getfield 15, 3), (99, .getfield 86, 3), (102, .iload_n 3, 1), (103, .iaload, 1), (104, .iload_n 1, 1), (105, .invokevirtual 89, 3), (108, .ifCond .le 6, 3), (111, .iinc 2 1, 3), (114, .iinc 3 1, 3), (117, .goto (-87), 3), (120, .aload_n 0, 1), (121, .getfield 11, 3), (124, .iconst 0, 1), (125, .iload_n 1, 1), (126, .iadd, 1), (127, .iaload, 1), (128, .iload_n 2, 1), (129, .iadd, 1), (130, .aload_n 0, 1), (131, .getfield 15, 3), (134, .getfield 53, 3), (137, .iload_n 1, 1), (138, .iaload, 1), (139, .isub, 1), (140, .istore_n 3, 1), (141, .iload_n 3, 1), (142, .ifCond .gt 7, 3), (145, .iconst 0, 1), (146, .goto 26, 3), (149, .iload_n 3, 1), (150, .aload_n 0, 1), (151, .getfield 15, 3), (154, .getfield 53, 3), (157, .iload_n 1, 1), (158, .iaload, 1), (159, .iadd, 1), (160, .iconst 1, 1), (161, .isub, 1), (162, .aload_n 0, 1), (163, .getfield 15, 3), (166, .getfield 53, 3), (169, .iload_n 1, 1), (170, .iaload, 1), (171, .idiv, 1), (172, .ireturn, 1)]
set_option maxRecDepth 20000 in
theorem me_X3_needOf : zdecs cX3_needOf md_X3_needOf := by
  unfold zdecs md_X3_needOf
  decide +kernel
def md_X3_jammedBath : List (Nat × Instr × Nat) := [(0, .iconst (-1), 1), (1, .istore_n 1, 1), (2, .iconst 0, 1), (3, .istore_n 2, 1), (4, .iconst 1, 1), (5, .istore_n 3, 1), (6, .iconst 0, 1), (7, .istore 4, 2), (9, .iload 4, 2), (11, .aload_n 0, 1), (12, .getfield 15, 3), (15, .getfield 56, 3), (18, .if_icmp .ge 58, 3), (21, .aload_n 0, 1), (22, .iload 4, 2), (24, .invokevirtual 92, 3), (27, .istore 5, 2), (29, .iload_n 1, 1), (30, .iconst (-1), 1), (31, .if_icmp .eq 22, 3), (34, .iload 5, 2), (36, .iload_n 3, 1), (37, .imul, 1), (38, .iload_n 2, 1), (39, .aload_n 0, 1), (40, .getfield 15, 3), (43, .getfield 50, 3), (46, .iload 4, 2), (48, .iaload, 1), (49, .imul, 1), (50, .if_icmp .le 20, 3), (53, .iload 4, 2), (55, .istore_n 1, 1), (56, .iload 5, 2), (58, .istore_n 2, 1), (59, .aload_n 0, 1), (60, .getfield 15, 3), (63, .getfield 50, 3), (66, .iload 4, 2), (68, .iaload, 1), (69, .istore_n 3, 1), (70, .iinc 4 1, 3), (73, .goto (-64), 3), (76, .iload_n 1, 1), (77, .ireturn, 1)]
set_option maxRecDepth 20000 in
theorem me_X3_jammedBath : zdecs cX3_jammedBath md_X3_jammedBath := by
  unfold zdecs md_X3_jammedBath
  decide +kernel
def md_X3_askedByWaiting : List (Nat × Instr × Nat) := [(0, .iconst 0, 1), (1, .istore_n 2, 1), (2, .iconst 0, 1), (3, .istore_n 3, 1), (4, .iload_n 3, 1), (5, .aload_n 0, 1), (6, .getfield 15, 3), (9, .getfield 80, 3), (12, .if_icmp .ge 41, 3), (15, .aload_n 0, 1), (16, .getfield 11, 3), (19, .bipush 12, 2), (21, .iload_n 3, 1), (22, .iadd, 1), (23, .iaload, 1), (24, .ifCond .ne 23, 3), (27, .iload_n 2, 1), (28, .aload_n 0, 1), (29, .getfield 15, 3), (32, .aload_n 0, 1), (33, .getfield 15, 3), (36, .getfield 86, 3), (39, .iload_n 3, 1), (40, .iaload, 1), (41, .iload_n 1, 1), (42, .invokevirtual 89, 3), (45, .iadd, 1), (46, .istore_n 2, 1), (47, .iinc 3 1, 3), (50, .goto (-46), 3), (53, .iload_n 2, 1), (54, .ireturn, 1)]
set_option maxRecDepth 20000 in
theorem me_X3_askedByWaiting : zdecs cX3_askedByWaiting md_X3_askedByWaiting := by
  unfold zdecs md_X3_askedByWaiting
  decide +kernel
def md_X3_startSheet : List (Nat × Instr × Nat) := [(0, .aload_n 0, 1), (1, .getfield 15, 3), (4, .iload_n 1, 1), (5, .invokevirtual 62, 3), (8, .ifCond .ne 5, 3), (11, .iconst (-1), 1), (12, .ireturn, 1), (13, .aload_n 0, 1), (14, .getfield 11, 3), (17, .bipush 12, 2), (19, .iload_n 1, 1), (20, .iadd, 1), (21, .iaload, 1), (22, .ifCond .eq 5, 3), (25, .iconst 1, 1), (26, .ireturn, 1), (27, .aload_n 0, 1), (28, .getfield 15, 3), (31, .iload_n 1, 1), (32, .iconst (-1), 1), (33, .invokevirtual 95, 3), (36, .istore_n 2, 1), (37, .iload_n 2, 1), (38, .iconst (-1), 1), (39, .if_icmp .eq 13, 3), (42, .aload_n 0, 1), (43, .iload_n 2, 1), (44, .invokevirtual 59, 3), (47, .ifCond .ne 5, 3), (50, .iconst 2, 1), (51, .ireturn, 1), (52, .aload_n 0, 1), (53, .getfield 11, 3), (56, .bipush 44, 2), (58, .iload_n 1, 1), (59, .iadd, 1), (60, .iconst 0, 1), (61, .iastore, 1), (62, .aload_n 0, 1), (63, .getfield 11, 3), (66, .bipush 52, 2), (68, .iload_n 1, 1), (69, .iadd, 1), (70, .dup2, 1), (71, .iaload, 1), (72, .iconst 1, 1), (73, .iadd, 1), (74, .iastore, 1), (75, .iload_n 2, 1), (76, .iconst (-1), 1), (77, .if_icmp .ne 12, 3), (80, .aload_n 0, 1), (81, .iload_n 1, 1), (82, .iconst 2, 1), (83, .invokevirtual 98, 3), (86, .goto 9, 3), (89, .aload_n 0, 1), (90, .iload_n 1, 1), (91, .iload_n 2, 1), (92, .invokevirtual 102, 3), (95, .iconst 0, 1), (96, .ireturn, 1)]
set_option maxRecDepth 20000 in
theorem me_X3_startSheet : zdecs cX3_startSheet md_X3_startSheet := by
  unfold zdecs md_X3_startSheet
  decide +kernel
def md_X3_takeSheet : List (Nat × Instr × Nat) := [(0, .aload_n 0, 1), (1, .getfield 15, 3), (4, .iload_n 1, 1), (5, .invokevirtual 62, 3), (8, .ifCond .ne 5, 3), (11, .iconst (-1), 1), (12, .ireturn, 1), (13, .aload_n 0, 1), (14, .getfield 11, 3), (17, .bipush 12, 2), (19, .iload_n 1, 1), (20, .iadd, 1), (21, .iaload, 1), (22, .iconst 1, 1), (23, .if_icmp .eq 5, 3), (26, .iconst 1, 1), (27, .ireturn, 1), (28, .aload_n 0, 1), (29, .iload_n 1, 1), (30, .iconst 3, 1), (31, .invokevirtual 98, 3), (34, .iconst 0, 1), (35, .ireturn, 1)]
set_option maxRecDepth 20000 in
theorem me_X3_takeSheet : zdecs cX3_takeSheet md_X3_takeSheet := by
  unfold zdecs md_X3_takeSheet
  decide +kernel
def md_X3_againSheet : List (Nat × Instr × Nat) := [(0, .aload_n 0, 1), (1, .getfield 15, 3), (4, .iload_n 1, 1), (5, .invokevirtual 62, 3), (8, .ifCond .ne 5, 3), (11, .iconst (-1), 1), (12, .ireturn, 1), (13, .aload_n 0, 1), (14, .getfield 11, 3), (17, .bipush 12, 2), (19, .iload_n 1, 1), (20, .iadd, 1), (21, .iaload, 1), (22, .iconst 3, 1), (23, .if_icmp .eq 5, 3), (26, .iconst 1, 1), (27, .ireturn, 1), (28, .aload_n 0, 1), (29, .iload_n 1, 1), (30, .iconst 0, 1), (31, .invokevirtual 98, 3), (34, .iconst 0, 1), (35, .ireturn, 1)]
set_option maxRecDepth 20000 in
theorem me_X3_againSheet : zdecs cX3_againSheet md_X3_againSheet := by
  unfold zdecs md_X3_againSheet
  decide +kernel
def md_X3_renewBath : List (Nat × Instr × Nat) := [(0, .aload_n 0, 1), (1, .getfield 15, 3), (4, .iload_n 1, 1), (5, .invokevirtual 40, 3), (8, .ifCond .ne 5, 3), (11, .iconst (-1), 1), (12, .ireturn, 1), (13, .aload_n 0, 1), (14, .getfield 11, 3), (17, .iconst 0, 1), (18, .iload_n 1, 1), (19, .iadd, 1), (20, .iaload, 1), (21, .ifCond .ne 5, 3), (24, .iconst 1, 1), (25, .ireturn, 1), (26, .aload_n 0, 1), (27, .getfield 11, 3), (30, .bipush 61, 2), (32, .iaload, 1), (33, .ifCond .gt 5, 3), (36, .iconst 2, 1), (37, .ireturn, 1), (38, .aload_n 0, 1), (39, .getfield 11, 3), (42, .bipush 6, 2), (44, .iload_n 1, 1), (45, .iadd, 1), (46, .iaload, 1), (47, .ifCond .eq 5, 3), (50, .iconst 3, 1), (51, .ireturn, 1), (52, .aload_n 0, 1), (53, .getfield 11, 3), (56, .iconst 0, 1), (57, .iload_n 1, 1), (58, .iadd, 1), (59, .iconst 0, 1), (60, .iastore, 1), (61, .aload_n 0, 1), (62, .getfield 11, 3), (65, .bipush 61, 2), (67, .dup2, 1), (68, .iaload, 1), (69, .iconst 1, 1), (70, .isub, 1), (71, .iastore, 1), (72, .iconst 0, 1), (73, .ireturn, 1)]
set_option maxRecDepth 20000 in
theorem me_X3_renewBath : zdecs cX3_renewBath md_X3_renewBath := by
  unfold zdecs md_X3_renewBath
  decide +kernel
def md_X3_pass : List (Nat × Instr × Nat) := [(0, .iload_n 1, 1), (1, .istore_n 2, 1), (2, .iload_n 2, 1), (3, .ifCond .le 123, 3), (6, .aload_n 0, 1), (7, .iload_n 2, 1), (8, .invokevirtual 105, 3), (11, .istore_n 3, 1), (12, .iload_n 3, 1), (13, .ifCond .le 15, 3), (16, .aload_n 0, 1), (17, .iload_n 3, 1), (18, .invokevirtual 108, 3), (21, .iload_n 2, 1), (22, .iload_n 3, 1), (23, .isub, 1), (24, .istore_n 2, 1), (25, .goto (-23), 3), (28, .aload_n 0, 1), (29, .getfield 15, 3), (32, .getfield 56, 3), (35, .iconst 1, 1), (36, .isub, 1), (37, .istore 4, 2), (39, .iload 4, 2), (41, .ifCond .lt 68, 3), (44, .aload_n 0, 1), (45, .getfield 11, 3), (48, .bipush 6, 2), (50, .iload 4, 2), (52, .iadd, 1), (53, .iaload, 1), (54, .istore 5, 2), (56, .iconst 0, 1), (57, .istore 6, 2), (59, .iload 6, 2), (61, .aload_n 0, 1), (62, .getfield 15, 3), (65, .getfield 80, 3), (68, .if_icmp .ge 35, 3), (71, .iload 5, 2), (73, .iload 6, 2), (75, .ishr, 1), (76, .ifCond .eq 27, 3), (79, .iload 5, 2), (81, .iload 6, 2), (83, .ishr, 1), (84, .iconst 1, 1), (85, .iand, 1), (86, .ifCond .eq 11, 3), (89, .aload_n 0, 1), (90, .iload 6, 2), (92, .iload 4, 2), (94, .invokevirtual 112, 3), (97, .iinc 6 1, 3), (100, .goto (-41), 3), (103, .iinc 4 (-1), 3), (106, .goto (-67), 3), (109, .aload_n 0, 1), (110, .getfield 11, 3), (113, .bipush 60, 2), (115, .dup2, 1), (116, .iaload, 1), (117, .iconst 1, 1), (118, .iadd, 1), (119, .iastore, 1), (120, .iinc 2 (-1), 3), (123, .goto (-121), 3), (126, .return_, 1)]
set_option maxRecDepth 20000 in
theorem me_X3_pass : zdecs cX3_pass md_X3_pass := by
  unfold zdecs md_X3_pass
  decide +kernel
def md_X3_quietMinutes : List (Nat × Instr × Nat) := [(0, .iload_n 1, 1), (1, .istore_n 2, 1), (2, .iconst 0, 1), (3, .istore_n 3, 1), (4, .iload_n 3, 1), (5, .aload_n 0, 1), (6, .getfield 15, 3), (9, .getfield 80, 3), (12, .if_icmp .ge 49, 3), (15, .aload_n 0, 1), (16, .getfield 11, 3), (19, .bipush 12, 2), (21, .iload_n 3, 1), (22, .iadd, 1), (23, .iaload, 1), (24, .iconst 1, 1), (25, .if_icmp .ne 30, 3), (28, .aload_n 0, 1), (29, .getfield 11, 3), (32, .bipush 28, 2), (34, .iload_n 3, 1), (35, .iadd, 1), (36, .iaload, 1), (37, .iconst 1, 1), (38, .isub, 1), (39, .iload_n 2, 1), (40, .if_icmp .ge 15, 3), (43, .aload_n 0, 1), (44, .getfield 11, 3), (47, .bipush 28, 2), (49, .iload_n 3, 1), (50, .iadd, 1), (51, .iaload, 1), (52, .iconst 1, 1), (53, .isub, 1), (54, .istore_n 2, 1), (55, .iinc 3 1, 3), (58, .goto (-54), 3), (61, .iload_n 2, 1), (62, .ireturn, 1)]
set_option maxRecDepth 20000 in
theorem me_X3_quietMinutes : zdecs cX3_quietMinutes md_X3_quietMinutes := by
  unfold zdecs md_X3_quietMinutes
  decide +kernel
def md_X3_skip : List (Nat × Instr × Nat) := [(0, .iconst 0, 1), (1, .istore_n 2, 1), (2, .iload_n 2, 1), (3, .aload_n 0, 1), (4, .getfield 15, 3), (7, .getfield 80, 3), (10, .if_icmp .ge 35, 3), (13, .aload_n 0, 1), (14, .getfield 11, 3), (17, .bipush 12, 2), (19, .iload_n 2, 1), (20, .iadd, 1), (21, .iaload, 1), (22, .iconst 1, 1), (23, .if_icmp .ne 16, 3), (26, .aload_n 0, 1), (27, .getfield 11, 3), (30, .bipush 28, 2), (32, .iload_n 2, 1), (33, .iadd, 1), (34, .dup2, 1), (35, .iaload, 1), (36, .iload_n 1, 1), (37, .isub, 1), (38, .iastore, 1), (39, .iinc 2 1, 3), (42, .goto (-40), 3), (45, .aload_n 0, 1), (46, .getfield 11, 3), (49, .bipush 60, 2), (51, .dup2, 1), (52, .iaload, 1), (53, .iload_n 1, 1), (54, .iadd, 1), (55, .iastore, 1), (56, .return_, 1)]
set_option maxRecDepth 20000 in
theorem me_X3_skip : zdecs cX3_skip md_X3_skip := by
  unfold zdecs md_X3_skip
  decide +kernel
def md_X3_isBusy : List (Nat × Instr × Nat) := [(0, .aload_n 0, 1), (1, .iconst 1, 1), (2, .invokevirtual 115, 3), (5, .ifCond .eq 7, 3), (8, .iconst 1, 1), (9, .goto 4, 3), (12, .iconst 0, 1), (13, .ireturn, 1)]
set_option maxRecDepth 20000 in
theorem me_X3_isBusy : zdecs cX3_isBusy md_X3_isBusy := by
  unfold zdecs md_X3_isBusy
  decide +kernel
def md_X3_work : List (Nat × Instr × Nat) := [(0, .aload_n 0, 1), (1, .getfield 11, 3), (4, .bipush 28, 2), (6, .iload_n 1, 1), (7, .iadd, 1), (8, .iaload, 1), (9, .ifCond .le 16, 3), (12, .aload_n 0, 1), (13, .getfield 11, 3), (16, .bipush 28, 2), (18, .iload_n 1, 1), (19, .iadd, 1), (20, .dup2, 1), (21, .iaload, 1), (22, .iconst 1, 1), (23, .isub, 1), (24, .iastore, 1), (25, .aload_n 0, 1), (26, .getfield 11, 3), (29, .bipush 28, 2), (31, .iload_n 1, 1), (32, .iadd, 1), (33, .iaload, 1), (34, .ifCond .le 4, 3), (37, .return_, 1), (38, .aload_n 0, 1), (39, .getfield 15, 3), (42, .iload_n 1, 1), (43, .iload_n 2, 1), (44, .invokevirtual 95, 3), (47, .istore_n 3, 1), (48, .iload_n 3, 1), (49, .iconst (-1), 1), (50, .if_icmp .ne 12, 3), (53, .aload_n 0, 1), (54, .iload_n 1, 1), (55, .iconst 2, 1), (56, .invokevirtual 98, 3), (59, .goto 74, 3), (62, .aload_n 0, 1), (63, .iload_n 3, 1), (64, .invokevirtual 59, 3), (67, .ifCond .eq 12, 3), (70, .aload_n 0, 1), (71, .iload_n 1, 1), (72, .iload_n 3, 1), (73, .invokevirtual 102, 3), (76, .goto 57, 3), (79, .aload_n 0, 1), (80, .getfield 11, 3), (83, .bipush 36, 2), (85, .iload_n 1, 1), (86, .iadd, 1), (87, .iaload, 1), (88, .aload_n 0, 1), (89, .getfield 15, 3), (92, .getfield 118, 3), (95, .if_icmp .lt 12, 3), (98, .aload_n 0, 1), (99, .iload_n 1, 1), (100, .iconst 3, 1), (101, .invokevirtual 98, 3), (104, .goto 29, 3), (107, .aload_n 0, 1), (108, .getfield 11, 3), (111, .bipush 36, 2), (113, .iload_n 1, 1), (114, .iadd, 1), (115, .dup2, 1), (116, .iaload, 1), (117, .iconst 1, 1), (118, .iadd, 1), (119, .iastore, 1), (120, .aload_n 0, 1), (121, .getfield 11, 3), (124, .bipush 44, 2), (126, .iload_n 1, 1), (127, .iadd, 1), (128, .dup2, 1), (129, .iaload, 1), (130, .iconst 1, 1), (131, .iadd, 1), (132, .iastore, 1), (133, .return_, 1)]
set_option maxRecDepth 20000 in
theorem me_X3_work : zdecs cX3_work md_X3_work := by
  unfold zdecs md_X3_work
  decide +kernel
def md_X3_enter : List (Nat × Instr × Nat) := [(0, .aload_n 0, 1), (1, .iload_n 1, 1), (2, .iconst 1, 1), (3, .invokevirtual 98, 3), (6, .iconst 2, 1), (7, .aload_n 0, 1), (8, .getfield 11, 3), (11, .iconst 0, 1), (12, .iload_n 2, 1), (13, .iadd, 1), (14, .iaload, 1), (15, .imul, 1), (16, .aload_n 0, 1), (17, .getfield 15, 3), (20, .getfield 53, 3), (23, .iload_n 2, 1), (24, .iaload, 1), (25, .if_icmp .lt 7, 3), (28, .iconst 1, 1), (29, .goto 4, 3), (32, .iconst 0, 1), (33, .istore_n 3, 1), (34, .aload_n 0, 1), (35, .getfield 11, 3), (38, .bipush 20, 2), (40, .iload_n 1, 1), (41, .iadd, 1), (42, .iload_n 2, 1), (43, .iastore, 1), (44, .aload_n 0, 1), (45, .getfield 11, 3), (48, .bipush 28, 2), (50, .iload_n 1, 1), (51, .iadd, 1), (52, .aload_n 0, 1), (53, .getfield 15, 3), (56, .aload_n 0, 1), (57, .getfield 15, 3), (60, .getfield 86, 3), (63, .iload_n 1, 1), (64, .iaload, 1), (65, .iload_n 2, 1), (66, .invokevirtual 89, 3), (69, .iload_n 3, 1), (70, .ifCond .eq 13, 3), (73, .aload_n 0, 1), (74, .getfield 15, 3), (77, .getfield 121, 3), (80, .goto 4, 3), (83, .iconst 0, 1), (84, .iadd, 1), (85, .iastore, 1), (86, .aload_n 0, 1), (87, .getfield 11, 3), (90, .bipush 6, 2), (92, .iload_n 2, 1), (93, .iadd, 1), (94, .dup2, 1), (95, .iaload, 1), (96, .iconst 1, 1), (97, .iload_n 1, 1), (98, .ishl, 1), (99, .ior, 1), (100, .iastore, 1), (101, .aload_n 0, 1), (102, .getfield 11, 3), (105, .iconst 0, 1), (106, .iload_n 2, 1), (107, .iadd, 1), (108, .dup2, 1), (109, .iaload, 1), (110, .iconst 1, 1), (111, .iadd, 1), (112, .iastore, 1), (113, .return_, 1)]
set_option maxRecDepth 20000 in
theorem me_X3_enter : zdecs cX3_enter md_X3_enter := by
  unfold zdecs md_X3_enter
  decide +kernel
def md_X3_settle : List (Nat × Instr × Nat) := [(0, .aload_n 0, 1), (1, .getfield 11, 3), (4, .bipush 20, 2), (6, .iload_n 1, 1), (7, .iadd, 1), (8, .iaload, 1), (9, .istore_n 3, 1), (10, .iload_n 3, 1), (11, .ifCond .lt 20, 3), (14, .aload_n 0, 1), (15, .getfield 11, 3), (18, .bipush 6, 2), (20, .iload_n 3, 1), (21, .iadd, 1), (22, .dup2, 1), (23, .iaload, 1), (24, .iconst 1, 1), (25, .iload_n 1, 1), (26, .ishl, 1), (27, .iconst (-1), 1), (28, .ixor, 1), (29, .iand, 1), (30, .iastore, 1), (31, .aload_n 0, 1), (32, .getfield 11, 3), (35, .bipush 12, 2), (37, .iload_n 1, 1), (38, .iadd, 1), (39, .iload_n 2, 1), (40, .iastore, 1), (41, .aload_n 0, 1), (42, .getfield 11, 3), (45, .bipush 20, 2), (47, .iload_n 1, 1), (48, .iadd, 1), (49, .iconst (-1), 1), (50, .iastore, 1), (51, .aload_n 0, 1), (52, .getfield 11, 3), (55, .bipush 28, 2), (57, .iload_n 1, 1), (58, .iadd, 1), (59, .iconst 0, 1), (60, .iastore, 1), (61, .aload_n 0, 1), (62, .getfield 11, 3), (65, .bipush 36, 2), (67, .iload_n 1, 1), (68, .iadd, 1), (69, .iconst 0, 1), (70, .iastore, 1), (71, .return_, 1)]
set_option maxRecDepth 20000 in
theorem me_X3_settle : zdecs cX3_settle md_X3_settle := by
  unfold zdecs md_X3_settle
  decide +kernel
def md_X4_init : List (Nat × Instr × Nat) := [(0, .aload_n 0, 1), (1, .invokespecial 3, 3), (4, .aload_n 0, 1), (5, .bipush 25, 2), (7, .newarray .int, 2), (9, .putfield 9, 3), (12, .aload_n 0, 1), (13, .iconst 5, 1), (14, .newarray .int, 2), (16, .putfield 15, 3), (19, .aload_n 0, 1), (20, .iconst 5, 1), (21, .newarray .int, 2), (23, .putfield 18, 3), (26, .aload_n 0, 1), (27, .iconst (-1), 1), (28, .putfield 21, 3), (31, .aload_n 0, 1), (32, .aload_n 1, 1), (33, .putfield 25, 3), (36, .return_, 1)]
set_option maxRecDepth 20000 in
theorem me_X4_init : zdecs cX4_init md_X4_init := by
  unfold zdecs md_X4_init
  decide +kernel
def md_X4_minutesOf : List (Nat × Instr × Nat) := [(0, .aload_n 0, 1), (1, .getfield 25, 3), (4, .iload_n 1, 1), (5, .invokevirtual 29, 3), (8, .ifCond .ne 5, 3), (11, .iconst (-1), 1), (12, .ireturn, 1), (13, .iconst 0, 1), (14, .istore_n 2, 1), (15, .iconst 0, 1), (16, .istore_n 3, 1), (17, .iload_n 3, 1), (18, .aload_n 0, 1), (19, .getfield 25, 3), (22, .getfield 35, 3), (25, .if_icmp .ge 21, 3), (28, .iload_n 2, 1), (29, .aload_n 0, 1), (30, .getfield 25, 3), (33, .iload_n 1, 1), (34, .iload_n 3, 1), (35, .invokevirtual 38, 3), (38, .iadd, 1), (39, .istore_n 2, 1), (40, .iinc 3 1, 3), (43, .goto (-26), 3), (46, .iload_n 2, 1), (47, .ireturn, 1)]
set_option maxRecDepth 20000 in
theorem me_X4_minutesOf : zdecs cX4_minutesOf md_X4_minutesOf := by
  unfold zdecs md_X4_minutesOf
  decide +kernel
def md_X4_mostAlike : List (Nat × Instr × Nat) := [(0, .iconst (-1), 1), (1, .istore_n 2, 1), (2, .iconst 0, 1), (3, .istore_n 3, 1), (4, .iconst 0, 1), (5, .istore 4, 2), (7, .iload 4, 2), (9, .aload_n 0, 1), (10, .getfield 25, 3), (13, .getfield 42, 3), (16, .if_icmp .ge 97, 3), (19, .aload_n 0, 1), (20, .getfield 25, 3), (23, .iload_n 1, 1), (24, .invokevirtual 29, 3), (27, .ifCond .eq 86, 3), (30, .iconst 0, 1), (31, .istore 5, 2), (33, .iconst 0, 1), (34, .istore 6, 2), (36, .iload 6, 2), (38, .aload_n 0, 1), (39, .getfield 25, 3), (42, .getfield 35, 3), (45, .if_icmp .ge 39, 3), (48, .iload 5, 2), (50, .aload_n 0, 1), (51, .getfield 25, 3), (54, .iload_n 1, 1), (55, .iload 6, 2), (57, .invokevirtual 38, 3), (60, .aload_n 0, 1), (61, .getfield 25, 3), (64, .iload 4, 2), (66, .iload 6, 2), (68, .invokevirtual 38, 3), (71, .isub, 1), (72, .invokestatic 45, 3), (75, .iadd, 1), (76, .istore 5, 2), (78, .iinc 6 1, 3), (81, .goto (-45), 3), (84, .iload 4, 2), (86, .iload_n 1, 1), (87, .if_icmp .eq 20, 3), (90, .iload_n 2, 1), (91, .iconst (-1), 1), (92, .if_icmp .eq 9, 3), (95, .iload 5, 2), (97, .iload_n 3, 1), (98, .if_icmp .ge 9, 3), (101, .iload 4, 2), (103, .istore_n 2, 1), (104, .iload 5, 2), (106, .istore_n 3, 1), (107, .iinc 4 1, 3), (110, .goto (-103), 3), (113, .iload_n 2, 1), (114, .ireturn, 1)]
set_option maxRecDepth 20000 in
theorem me_X4_mostAlike : zdecs cX4_mostAlike md_X4_mostAlike := by
  unfold zdecs md_X4_mostAlike
  decide +kernel
def md_X4_gapOf : List (Nat × Instr × Nat) := [(0, .iconst 0, 1), (1, .istore_n 3, 1), (2, .iload_n 3, 1), (3, .sipush 180, 3), (6, .if_icmp .gt 21, 3), (9, .aload_n 0, 1), (10, .iload_n 1, 1), (11, .iload_n 2, 1), (12, .iload_n 3, 1), (13, .invokevirtual 51, 3), (16, .ifCond .ne 5, 3), (19, .iload_n 3, 1), (20, .ireturn, 1), (21, .iinc 3 1, 3), (24, .goto (-22), 3), (27, .iconst (-1), 1), (28, .ireturn, 1)]
set_option maxRecDepth 20000 in
theorem me_X4_gapOf : zdecs cX4_gapOf md_X4_gapOf := by
  unfold zdecs md_X4_gapOf
  decide +kernel
def md_X4_meet : List (Nat × Instr × Nat) := [(0, .iconst 0, 1), (1, .istore 4, 2), (3, .iload_n 3, 1), (4, .istore 5, 2), (6, .iconst 0, 1), (7, .istore 6, 2), (9, .iload 6, 2), (11, .aload_n 0, 1), (12, .getfield 25, 3), (15, .getfield 35, 3), (18, .if_icmp .ge 79, 3), (21, .aload_n 0, 1), (22, .getfield 25, 3), (25, .iload_n 1, 1), (26, .iload 6, 2), (28, .invokevirtual 38, 3), (31, .istore 7, 2), (33, .aload_n 0, 1), (34, .getfield 25, 3), (37, .iload_n 2, 1), (38, .iload 6, 2), (40, .invokevirtual 38, 3), (43, .istore 8, 2), (45, .iload 7, 2), (47, .ifCond .le 30, 3), (50, .iload 8, 2), (52, .ifCond .le 25, 3), (55, .iload 4, 2), (57, .iload 5, 2), (59, .iload 8, 2), (61, .iadd, 1), (62, .if_icmp .ge 15, 3), (65, .iload 5, 2), (67, .iload 4, 2), (69, .iload 7, 2), (71, .iadd, 1), (72, .if_icmp .ge 5, 3), (75, .iconst 1, 1), (76, .ireturn, 1), (77, .iload 4, 2), (79, .iload 7, 2), (81, .iadd, 1), (82, .istore 4, 2), (84, .iload 5, 2), (86, .iload 8, 2), (88, .iadd, 1), (89, .istore 5, 2), (91, .iinc 6 1, 3), (94, .goto (-85), 3), (97, .iconst 0, 1), (98, .ireturn, 1)]
set_option maxRecDepth 20000 in
theorem me_X4_meet : zdecs cX4_meet md_X4_meet := by
  unfold zdecs md_X4_meet
  decide +kernel
def md_X4_bestChain : List (Nat × Instr × Nat) := [(0, .aload_n 0, 1), (1, .getfield 25, 3), (4, .getfield 42, 3), (7, .istore_n 1, 1), (8, .iconst 0, 1), (9, .istore_n 2, 1), (10, .iload_n 2, 1), (11, .iload_n 1, 1), (12, .if_icmp .ge 45, 3), (15, .aload_n 0, 1), (16, .getfield 15, 3), (19, .iload_n 2, 1), (20, .iload_n 2, 1), (21, .iastore, 1), (22, .iconst 0, 1), (23, .istore_n 3, 1), (24, .iload_n 3, 1), (25, .iload_n 1, 1), (26, .if_icmp .ge 25, 3), (29, .aload_n 0, 1), (30, .getfield 9, 3), (33, .iload_n 2, 1), (34, .iconst 5, 1), (35, .imul, 1), (36, .iload_n 3, 1), (37, .iadd, 1), (38, .aload_n 0, 1), (39, .iload_n 2, 1), (40, .iload_n 3, 1), (41, .invokevirtual 55, 3), (44, .iastore, 1), (45, .iinc 3 1, 3), (48, .goto (-24), 3), (51, .iinc 2 1, 3), (54, .goto (-44), 3), (57, .iconst (-1), 1), (58, .istore_n 2, 1), (59, .iconst 1, 1), (60, .istore_n 3, 1), (61, .iconst 0, 1), (62, .istore 4, 2), (64, .iload 4, 2), (66, .bipush 120, 2), (68, .if_icmp .ge 57, 3), (71, .iload_n 3, 1), (72, .ifCond .eq 53, 3), (75, .aload_n 0, 1), (76, .iload_n 1, 1), (77, .invokevirtual 58, 3), (80, .istore 5, 2), (82, .iload_n 2, 1), (83, .iconst (-1), 1), (84, .if_icmp .eq 9, 3), (87, .iload 5, 2), (89, .iload_n 2, 1), (90, .if_icmp .ge 20, 3), (93, .iload 5, 2), (95, .istore_n 2, 1), (96, .aload_n 0, 1), (97, .getfield 15, 3), (100, .iconst 0, 1), (101, .aload_n 0, 1), (102, .getfield 18, 3), (105, .iconst 0, 1), (106, .iconst 5, 1), (107, .invokestatic 61, 3), (110, .aload_n 0, 1), (111, .getfield 15, 3), (114, .iload_n 1, 1), (115, .invokestatic 67, 3), (118, .istore_n 3, 1), (119, .iinc 4 1, 3), (122, .goto (-58), 3), (125, .aload_n 0, 1), (126, .iload_n 1, 1), (127, .putfield 71, 3), (130, .iload_n 2, 1), (131, .ireturn, 1)]
set_option maxRecDepth 20000 in
theorem me_X4_bestChain : zdecs cX4_bestChain md_X4_bestChain := by
  unfold zdecs md_X4_bestChain
  decide +kernel
def md_X4_gapsOfRow : List (Nat × Instr × Nat) := [(0, .iconst 0, 1), (1, .istore_n 2, 1), (2, .iconst 0, 1), (3, .istore_n 3, 1), (4, .iload_n 3, 1), (5, .iconst 1, 1), (6, .iadd, 1), (7, .iload_n 1, 1), (8, .if_icmp .ge 34, 3), (11, .iload_n 2, 1), (12, .aload_n 0, 1), (13, .getfield 9, 3), (16, .aload_n 0, 1), (17, .getfield 15, 3), (20, .iload_n 3, 1), (21, .iaload, 1), (22, .iconst 5, 1), (23, .imul, 1), (24, .aload_n 0, 1), (25, .getfield 15, 3), (28, .iload_n 3, 1), (29, .iconst 1, 1), (30, .iadd, 1), (31, .iaload, 1), (32, .iadd, 1), (33, .iaload, 1), (34, .iadd, 1), (35, .istore_n 2, 1), (36, .iinc 3 1, 3), (39, .goto (-35), 3), (42, .iload_n 2, 1), (43, .ireturn, 1)]
set_option maxRecDepth 20000 in
theorem me_X4_gapsOfRow : zdecs cX4_gapsOfRow md_X4_gapsOfRow := by
  unfold zdecs md_X4_gapsOfRow
  decide +kernel
def md_X4_sheetsByTape : List (Nat × Instr × Nat) := [(0, .aload_n 1, 1), (1, .getfield 74, 3), (4, .istore_n 2, 1), (5, .iload_n 2, 1), (6, .iconst 2, 1), (7, .if_icmp .lt 15, 3), (10, .iload_n 2, 1), (11, .bipush 12, 2), (13, .if_icmp .gt 9, 3), (16, .iload_n 2, 1), (17, .iconst 2, 1), (18, .irem, 1), (19, .ifCond .eq 5, 3), (22, .iconst (-1), 1), (23, .ireturn, 1), (24, .iconst 1, 1), (25, .aload_n 0, 1), (26, .getfield 25, 3), (29, .getfield 79, 3), (32, .ishl, 1), (33, .iconst 1, 1), (34, .isub, 1), (35, .istore_n 3, 1), (36, .iconst 0, 1), (37, .istore 4, 2), (39, .iload 4, 2), (41, .iconst 1, 1), (42, .iadd, 1), (43, .iload_n 2, 1), (44, .if_icmp .ge 51, 3), (47, .aload_n 0, 1), (48, .getfield 25, 3), (51, .aload_n 1, 1), (52, .getfield 82, 3), (55, .iload 4, 2), (57, .iaload, 1), (58, .invokevirtual 85, 3), (61, .ifCond .ne 5, 3), (64, .iconst (-1), 1), (65, .ireturn, 1), (66, .iload_n 3, 1), (67, .aload_n 0, 1), (68, .aload_n 1, 1), (69, .getfield 82, 3), (72, .iload 4, 2), (74, .iaload, 1), (75, .aload_n 1, 1), (76, .getfield 82, 3), (79, .iload 4, 2), (81, .iconst 1, 1), (82, .iadd, 1), (83, .iaload, 1), (84, .invokevirtual 88, 3), (87, .iand, 1), (88, .istore_n 3, 1), (89, .iinc 4 2, 3), (92, .goto (-53), 3), (95, .iload_n 3, 1), (96, .ireturn, 1)]
set_option maxRecDepth 20000 in
theorem me_X4_sheetsByTape : zdecs cX4_sheetsByTape md_X4_sheetsByTape := by
  unfold zdecs md_X4_sheetsByTape
  decide +kernel
def md_X4_sheetsThatAsk : List (Nat × Instr × Nat) := [(0, .iconst 0, 1), (1, .istore_n 3, 1), (2, .iconst 0, 1), (3, .istore 4, 2), (5, .iload 4, 2), (7, .aload_n 0, 1), (8, .getfield 25, 3), (11, .getfield 79, 3), (14, .if_icmp .ge 38, 3), (17, .aload_n 0, 1), (18, .getfield 25, 3), (21, .aload_n 0, 1), (22, .getfield 25, 3), (25, .getfield 91, 3), (28, .iload 4, 2), (30, .iaload, 1), (31, .iload_n 1, 1), (32, .invokevirtual 38, 3), (35, .iload_n 2, 1), (36, .if_icmp .ne 10, 3), (39, .iload_n 3, 1), (40, .iconst 1, 1), (41, .iload 4, 2), (43, .ishl, 1), (44, .ior, 1), (45, .istore_n 3, 1), (46, .iinc 4 1, 3), (49, .goto (-44), 3), (52, .iload_n 3, 1), (53, .ireturn, 1)]
set_option maxRecDepth 20000 in
theorem me_X4_sheetsThatAsk : zdecs cX4_sheetsThatAsk md_X4_sheetsThatAsk := by
  unfold zdecs md_X4_sheetsThatAsk
  decide +kernel
def md_X4_chooseQuestion : List (Nat × Instr × Nat) := [(0, .bipush 9, 2), (2, .istore_n 2, 1), (3, .iconst 0, 1), (4, .istore_n 3, 1), (5, .iload_n 3, 1), (6, .aload_n 0, 1), (7, .getfield 25, 3), (10, .getfield 35, 3), (13, .if_icmp .ge 95, 3), (16, .iconst 0, 1), (17, .istore 4, 2), (19, .iconst 0, 1), (20, .istore 5, 2), (22, .iload 5, 2), (24, .aload_n 0, 1), (25, .getfield 25, 3), (28, .getfield 79, 3), (31, .if_icmp .ge 57, 3), (34, .iload_n 1, 1), (35, .iload 5, 2), (37, .ishr, 1), (38, .iconst 1, 1), (39, .iand, 1), (40, .ifCond .eq 42, 3), (43, .aload_n 0, 1), (44, .iload_n 3, 1), (45, .aload_n 0, 1), (46, .getfield 25, 3), (49, .aload_n 0, 1), (50, .getfield 25, 3), (53, .getfield 91, 3), (56, .iload 5, 2), (58, .iaload, 1), (59, .iload_n 3, 1), (60, .invokevirtual 38, 3), (63, .invokevirtual 88, 3), (66, .iload_n 1, 1), (67, .iand, 1), (68, .istore 6, 2), (70, .iload 4, 2), (72, .iload 6, 2), (74, .invokestatic 94, 3), (77, .invokestatic 99, 3), (80, .istore 4, 2), (82, .iinc 5 1, 3), (85, .goto (-63), 3), (88, .iload 4, 2), (90, .iload_n 2, 1), (91, .if_icmp .ge 11, 3), (94, .iload 4, 2), (96, .istore_n 2, 1), (97, .aload_n 0, 1), (98, .iload_n 3, 1), (99, .putfield 21, 3), (102, .iinc 3 1, 3), (105, .goto (-100), 3), (108, .return_, 1)]
set_option maxRecDepth 20000 in
theorem me_X4_chooseQuestion : zdecs cX4_chooseQuestion md_X4_chooseQuestion := by
  unfold zdecs md_X4_chooseQuestion
  decide +kernel
def md_X5_init : List (Nat × Instr × Nat) := [(0, .aload_n 0, 1), (1, .invokespecial 5, 3), (4, .aload_n 0, 1), (5, .bipush 9, 2), (7, .bipush 62, 2), (9, .multianewarray 13 2, 4), (13, .putfield 15, 3), (16, .return_, 1)]
set_option maxRecDepth 20000 in
theorem me_X5_init : zdecs cX5_init md_X5_init := by
  unfold zdecs md_X5_init
  decide +kernel
def md_X5_mark : List (Nat × Instr × Nat) := [(0, .aload_n 1, 1), (1, .aload_n 0, 1), (2, .getfield 15, 3), (5, .aload_n 0, 1), (6, .getfield 18, 3), (9, .aaload, 1), (10, .invokevirtual 22, 3), (13, .return_, 1)]
set_option maxRecDepth 20000 in
theorem me_X5_mark : zdecs cX5_mark md_X5_mark := by
  unfold zdecs md_X5_mark
  decide +kernel
def md_X5_keepMarked : List (Nat × Instr × Nat) := [(0, .aload_n 0, 1), (1, .aload_n 0, 1), (2, .getfield 18, 3), (5, .iconst 1, 1), (6, .iadd, 1), (7, .bipush 9, 2), (9, .if_icmp .ge 12, 3), (12, .aload_n 0, 1), (13, .getfield 18, 3), (16, .iconst 1, 1), (17, .iadd, 1), (18, .goto 4, 3), (21, .iconst 0, 1), (22, .putfield 18, 3), (25, .aload_n 0, 1), (26, .aload_n 0, 1), (27, .getfield 26, 3), (30, .iconst 1, 1), (31, .iadd, 1), (32, .bipush 8, 2), (34, .invokestatic 29, 3), (37, .putfield 26, 3), (40, .return_, 1)]
set_option maxRecDepth 20000 in
theorem me_X5_keepMarked : zdecs cX5_keepMarked md_X5_keepMarked := by
  unfold zdecs md_X5_keepMarked
  decide +kernel
def md_X5_forget : List (Nat × Instr × Nat) := [(0, .aload_n 0, 1), (1, .iconst 0, 1), (2, .putfield 26, 3), (5, .return_, 1)]
set_option maxRecDepth 20000 in
theorem me_X5_forget : zdecs cX5_forget md_X5_forget := by
  unfold zdecs md_X5_forget
  decide +kernel
def md_X5_takeBack : List (Nat × Instr × Nat) := [(0, .aload_n 0, 1), (1, .getfield 26, 3), (4, .ifCond .ne 5, 3), (7, .iconst (-1), 1), (8, .ireturn, 1), (9, .aload_n 0, 1), (10, .aload_n 0, 1), (11, .getfield 18, 3), (14, .ifCond .le 12, 3), (17, .aload_n 0, 1), (18, .getfield 18, 3), (21, .iconst 1, 1), (22, .isub, 1), (23, .goto 5, 3), (26, .bipush 8, 2), (28, .putfield 18, 3), (31, .aload_n 0, 1), (32, .dup, 1), (33, .getfield 26, 3), (36, .iconst 1, 1), (37, .isub, 1), (38, .putfield 26, 3), (41, .aload_n 1, 1), (42, .aload_n 0, 1), (43, .getfield 15, 3), (46, .aload_n 0, 1), (47, .getfield 18, 3), (50, .aaload, 1), (51, .invokevirtual 35, 3), (54, .aload_n 0, 1), (55, .getfield 26, 3), (58, .ireturn, 1)]
set_option maxRecDepth 20000 in
theorem me_X5_takeBack : zdecs cX5_takeBack md_X5_takeBack := by
  unfold zdecs md_X5_takeBack
  decide +kernel
def md_X6_init : List (Nat × Instr × Nat) := [(0, .aload_n 0, 1), (1, .invokespecial 3, 3), (4, .aload_n 0, 1), (5, .iconst 3, 1), (6, .newarray .int, 2), (8, .putfield 11, 3), (11, .aload_n 0, 1), (12, .iconst 3, 1), (13, .newarray .int, 2), (15, .putfield 15, 3), (18, .aload_n 0, 1), (19, .iconst 3, 1), (20, .newarray .int, 2), (22, .putfield 18, 3), (25, .aload_n 0, 1), (26, .iconst 3, 1), (27, .newarray .int, 2), (29, .putfield 21, 3), (32, .aload_n 0, 1), (33, .aload_n 2, 1), (34, .putfield 24, 3), (37, .aload_n 0, 1), (38, .aload_n 3, 1), (39, .putfield 28, 3), (42, .aload_n 0, 1), (43, .new 31, 3), (46, .dup, 1), (47, .aload_n 1, 1), (48, .invokespecial 33, 3), (51, .putfield 36, 3), (54, .aload_n 0, 1), (55, .new 31, 3), (58, .dup, 1), (59, .aload_n 1, 1), (60, .invokespecial 33, 3), (63, .putfield 39, 3), (66, .aload_n 0, 1), (67, .new 31, 3), (70, .dup, 1), (71, .aload_n 1, 1), (72, .invokespecial 33, 3), (75, .putfield 42, 3), (78, .return_, 1)]
set_option maxRecDepth 20000 in
theorem me_X6_init : zdecs cX6_init md_X6_init := by
  unfold zdecs md_X6_init
  decide +kernel
def md_X6_whenDone : List (Nat × Instr × Nat) := [(0, .aload_n 0, 1), (1, .getfield 28, 3), (4, .aload_n 0, 1), (5, .getfield 24, 3), (8, .invokevirtual 45, 3), (11, .iconst 0, 1), (12, .istore_n 2, 1), (13, .iload_n 2, 1), (14, .sipush 300, 3), (17, .if_icmp .gt 45, 3), (20, .aload_n 0, 1), (21, .getfield 28, 3), (24, .iload_n 1, 1), (25, .invokevirtual 49, 3), (28, .iconst 2, 1), (29, .if_icmp .ne 5, 3), (32, .iload_n 2, 1), (33, .ireturn, 1), (34, .aload_n 0, 1), (35, .getfield 28, 3), (38, .iload_n 1, 1), (39, .invokevirtual 49, 3), (42, .iconst 1, 1), (43, .if_icmp .eq 5, 3), (46, .iconst (-1), 1), (47, .ireturn, 1), (48, .aload_n 0, 1), (49, .getfield 28, 3), (52, .iconst 1, 1), (53, .invokevirtual 53, 3), (56, .iinc 2 1, 3), (59, .goto (-46), 3), (62, .iconst (-1), 1), (63, .ireturn, 1)]
set_option maxRecDepth 20000 in
theorem me_X6_whenDone : zdecs cX6_whenDone md_X6_whenDone := by
  unfold zdecs md_X6_whenDone
  decide +kernel
def md_X6_soonest : List (Nat × Instr × Nat) := [(0, .aload_n 0, 1), (1, .getfield 36, 3), (4, .aload_n 1, 1), (5, .invokevirtual 45, 3), (8, .aload_n 0, 1), (9, .getfield 39, 3), (12, .aload_n 1, 1), (13, .invokevirtual 45, 3), (16, .aload_n 0, 1), (17, .getfield 39, 3), (20, .sipush 200, 3), (23, .invokevirtual 53, 3), (26, .iconst 0, 1), (27, .istore_n 3, 1), (28, .iload_n 3, 1), (29, .bipush 60, 2), (31, .if_icmp .gt 109, 3), (34, .aload_n 0, 1), (35, .getfield 28, 3), (38, .aload_n 0, 1), (39, .getfield 36, 3), (42, .invokevirtual 45, 3), (45, .aload_n 0, 1), (46, .getfield 28, 3), (49, .iload_n 2, 1), (50, .invokevirtual 57, 3), (53, .ifCond .ne 53, 3), (56, .aload_n 0, 1), (57, .getfield 28, 3), (60, .sipush 200, 3), (63, .invokevirtual 53, 3), (66, .aload_n 0, 1), (67, .getfield 28, 3), (70, .iconst 3, 1), (71, .invokevirtual 60, 3), (74, .aload_n 0, 1), (75, .getfield 39, 3), (78, .iconst 3, 1), (79, .invokevirtual 60, 3), (82, .iconst (-1), 1), (83, .ixor, 1), (84, .iand, 1), (85, .istore 4, 2), (87, .aload_n 0, 1), (88, .getfield 28, 3), (91, .iload_n 2, 1), (92, .invokevirtual 49, 3), (95, .iconst 2, 1), (96, .if_icmp .ne 10, 3), (99, .iload 4, 2), (101, .ifCond .ne 5, 3), (104, .iload_n 3, 1), (105, .ireturn, 1), (106, .aload_n 0, 1), (107, .getfield 36, 3), (110, .invokevirtual 63, 3), (113, .ifCond .ne 5, 3), (116, .iconst (-1), 1), (117, .ireturn, 1), (118, .aload_n 0, 1), (119, .getfield 36, 3), (122, .iconst 1, 1), (123, .invokevirtual 53, 3), (126, .aload_n 0, 1), (127, .getfield 39, 3), (130, .iconst 1, 1), (131, .invokevirtual 53, 3), (134, .iinc 3 1, 3), (137, .goto (-109), 3), (140, .iconst (-1), 1), (141, .ireturn, 1)]
set_option maxRecDepth 20000 in
theorem me_X6_soonest : zdecs cX6_soonest md_X6_soonest := by
  unfold zdecs md_X6_soonest
  decide +kernel
def md_X6_readRow : List (Nat × Instr × Nat) := [(0, .aload_n 1, 1), (1, .getfield 67, 3), (4, .iconst 1, 1), (5, .if_icmp .lt 11, 3), (8, .aload_n 1, 1), (9, .getfield 67, 3), (12, .iconst 3, 1), (13, .if_icmp .le 5, 3), (16, .iconst 0, 1), (17, .ireturn, 1), (18, .iconst 0, 1), (19, .istore_n 2, 1), (20, .iload_n 2, 1), (21, .aload_n 1, 1), (22, .getfield 67, 3), (25, .if_icmp .ge 100, 3), (28, .aload_n 1, 1), (29, .getfield 73, 3), (32, .iload_n 2, 1), (33, .iaload, 1), (34, .istore_n 3, 1), (35, .aload_n 0, 1), (36, .getfield 24, 3), (39, .iload_n 3, 1), (40, .invokevirtual 49, 3), (43, .ifCond .eq 5, 3), (46, .iconst 0, 1), (47, .ireturn, 1), (48, .iload_n 2, 1), (49, .istore 4, 2), (51, .iload 4, 2), (53, .ifCond .le 38, 3), (56, .aload_n 0, 1), (57, .getfield 11, 3), (60, .iload 4, 2), (62, .iconst 1, 1), (63, .isub, 1), (64, .iaload, 1), (65, .iload_n 3, 1), (66, .if_icmp .le 25, 3), (69, .aload_n 0, 1), (70, .getfield 11, 3), (73, .iload 4, 2), (75, .aload_n 0, 1), (76, .getfield 11, 3), (79, .iload 4, 2), (81, .iconst 1, 1), (82, .isub, 1), (83, .iaload, 1), (84, .iastore, 1), (85, .iinc 4 (-1), 3), (88, .goto (-37), 3), (91, .iload 4, 2), (93, .ifCond .le 18, 3), (96, .aload_n 0, 1), (97, .getfield 11, 3), (100, .iload 4, 2), (102, .iconst 1, 1), (103, .isub, 1), (104, .iaload, 1), (105, .iload_n 3, 1), (106, .if_icmp .ne 5, 3), (109, .iconst 0, 1), (110, .ireturn, 1), (111, .aload_n 0, 1), (112, .getfield 11, 3), (115, .iload 4, 2), (117, .iload_n 3, 1), (118, .iastore, 1), (119, .iinc 2 1, 3), (122, .goto (-102), 3), (125, .aload_n 0, 1), (126, .aload_n 1, 1), (127, .getfield 67, 3), (130, .putfield 76, 3), (133, .iconst 1, 1), (134, .ireturn, 1)]
set_option maxRecDepth 20000 in
theorem me_X6_readRow : zdecs cX6_readRow md_X6_readRow := by
  unfold zdecs md_X6_readRow
  decide +kernel
def md_X6_bestOrder : List (Nat × Instr × Nat) := [(0, .iconst (-1), 1), (1, .istore_n 1, 1), (2, .iconst 1, 1), (3, .istore_n 2, 1), (4, .iconst 0, 1), (5, .istore_n 3, 1), (6, .iload_n 3, 1), (7, .bipush 6, 2), (9, .if_icmp .ge 87, 3), (12, .iload_n 2, 1), (13, .ifCond .eq 83, 3), (16, .aload_n 0, 1), (17, .invokevirtual 79, 3), (20, .istore 4, 2), (22, .iload 4, 2), (24, .iconst (-1), 1), (25, .if_icmp .eq 53, 3), (28, .iload_n 1, 1), (29, .iconst (-1), 1), (30, .if_icmp .eq 9, 3), (33, .iload 4, 2), (35, .iload_n 1, 1), (36, .if_icmp .ge 42, 3), (39, .iload 4, 2), (41, .istore_n 1, 1), (42, .aload_n 0, 1), (43, .aload_n 0, 1), (44, .getfield 76, 3), (47, .putfield 83, 3), (50, .aload_n 0, 1), (51, .getfield 11, 3), (54, .iconst 0, 1), (55, .aload_n 0, 1), (56, .getfield 18, 3), (59, .iconst 0, 1), (60, .iconst 3, 1), (61, .invokestatic 86, 3), (64, .aload_n 0, 1), (65, .getfield 15, 3), (68, .iconst 0, 1), (69, .aload_n 0, 1), (70, .getfield 21, 3), (73, .iconst 0, 1), (74, .iconst 3, 1), (75, .invokestatic 86, 3), (78, .aload_n 0, 1), (79, .getfield 11, 3), (82, .aload_n 0, 1), (83, .getfield 76, 3), (86, .invokestatic 92, 3), (89, .istore_n 2, 1), (90, .iinc 3 1, 3), (93, .goto (-87), 3), (96, .iload_n 1, 1), (97, .ireturn, 1)]
set_option maxRecDepth 20000 in
theorem me_X6_bestOrder : zdecs cX6_bestOrder md_X6_bestOrder := by
  unfold zdecs md_X6_bestOrder
  decide +kernel
def md_X6_endOfRow : List (Nat × Instr × Nat) := [(0, .iconst 0, 1), (1, .istore_n 1, 1), (2, .iconst 0, 1), (3, .istore_n 2, 1), (4, .aload_n 0, 1), (5, .getfield 42, 3), (8, .aload_n 0, 1), (9, .getfield 24, 3), (12, .invokevirtual 45, 3), (15, .iconst 0, 1), (16, .istore_n 3, 1), (17, .iload_n 3, 1), (18, .aload_n 0, 1), (19, .getfield 76, 3), (22, .if_icmp .ge 84, 3), (25, .iload_n 3, 1), (26, .iconst 3, 1), (27, .if_icmp .ge 79, 3), (30, .aload_n 0, 1), (31, .aload_n 0, 1), (32, .getfield 42, 3), (35, .aload_n 0, 1), (36, .getfield 11, 3), (39, .iload_n 3, 1), (40, .iaload, 1), (41, .invokevirtual 96, 3), (44, .istore 4, 2), (46, .iload 4, 2), (48, .iconst (-1), 1), (49, .if_icmp .ne 5, 3), (52, .iconst (-1), 1), (53, .ireturn, 1), (54, .aload_n 0, 1), (55, .getfield 42, 3), (58, .iload 4, 2), (60, .invokevirtual 53, 3), (63, .aload_n 0, 1), (64, .getfield 42, 3), (67, .aload_n 0, 1), (68, .getfield 11, 3), (71, .iload_n 3, 1), (72, .iaload, 1), (73, .invokevirtual 57, 3), (76, .pop, 1), (77, .iload_n 1, 1), (78, .iload 4, 2), (80, .iadd, 1), (81, .istore_n 1, 1), (82, .aload_n 0, 1), (83, .getfield 15, 3), (86, .iload_n 3, 1), (87, .iload_n 1, 1), (88, .iastore, 1), (89, .iload_n 2, 1), (90, .iconst 1, 1), (91, .aload_n 0, 1), (92, .getfield 11, 3), (95, .iload_n 3, 1), (96, .iaload, 1), (97, .ishl, 1), (98, .ior, 1), (99, .istore_n 2, 1), (100, .iinc 3 1, 3), (103, .goto (-86), 3), (106, .iconst 0, 1), (107, .istore_n 3, 1), (108, .iload_n 3, 1), (109, .sipush 200, 3), (112, .if_icmp .gt 35, 3), (115, .aload_n 0, 1), (116, .getfield 42, 3), (119, .iconst 2, 1), (120, .invokevirtual 60, 3), (123, .iload_n 2, 1), (124, .iand, 1), (125, .iload_n 2, 1), (126, .if_icmp .ne 7, 3), (129, .iload_n 1, 1), (130, .iload_n 3, 1), (131, .iadd, 1), (132, .ireturn, 1), (133, .aload_n 0, 1), (134, .getfield 42, 3), (137, .iconst 1, 1), (138, .invokevirtual 53, 3), (141, .iinc 3 1, 3), (144, .goto (-36), 3), (147, .iconst (-1), 1), (148, .ireturn, 1)]
set_option maxRecDepth 20000 in
theorem me_X6_endOfRow : zdecs cX6_endOfRow md_X6_endOfRow := by
  unfold zdecs md_X6_endOfRow
  decide +kernel
def md_X7_init : List (Nat × Instr × Nat) := [(0, .aload_n 0, 1), (1, .invokespecial 5, 3), (4, .aload_n 0, 1), (5, .iconst 5, 1), (6, .putfield 11, 3), (9, .aload_n 0, 1), (10, .bipush 6, 2), (12, .newarray .int, 2), (14, .putfield 15, 3), (17, .aload_n 0, 1), (18, .bipush 6, 2), (20, .newarray .int, 2), (22, .putfield 19, 3), (25, .aload_n 0, 1), (26, .bipush 8, 2), (28, .newarray .int, 2), (30, .putfield 22, 3), (33, .aload_n 0, 1), (34, .bipush 19, 2), (36, .newarray .long, 2), (38, .putfield 25, 3), (41, .aload_n 0, 1), (42, .bipush 30, 2), (44, .newarray .int, 2), (46, .putfield 29, 3), (49, .return_, 1)]
set_option maxRecDepth 20000 in
theorem me_X7_init : zdecs cX7_init md_X7_init := by
  unfold zdecs md_X7_init
  decide +kernel
def md_X7_hasBath : List (Nat × Instr × Nat) := [(0, .iload_n 1, 1), (1, .ifCond .lt 15, 3), (4, .iload_n 1, 1), (5, .aload_n 0, 1), (6, .getfield 32, 3), (9, .if_icmp .ge 7, 3), (12, .iconst 1, 1), (13, .goto 4, 3), (16, .iconst 0, 1), (17, .ireturn, 1)]
set_option maxRecDepth 20000 in
theorem me_X7_hasBath : zdecs cX7_hasBath md_X7_hasBath := by
  unfold zdecs md_X7_hasBath
  decide +kernel
def md_X7_hasPaper : List (Nat × Instr × Nat) := [(0, .iload_n 1, 1), (1, .ifCond .lt 15, 3), (4, .iload_n 1, 1), (5, .aload_n 0, 1), (6, .getfield 35, 3), (9, .if_icmp .ge 7, 3), (12, .iconst 1, 1), (13, .goto 4, 3), (16, .iconst 0, 1), (17, .ireturn, 1)]
set_option maxRecDepth 20000 in
theorem me_X7_hasPaper : zdecs cX7_hasPaper md_X7_hasPaper := by
  unfold zdecs md_X7_hasPaper
  decide +kernel
def md_X7_hasSheet : List (Nat × Instr × Nat) := [(0, .iload_n 1, 1), (1, .ifCond .lt 15, 3), (4, .iload_n 1, 1), (5, .aload_n 0, 1), (6, .getfield 38, 3), (9, .if_icmp .ge 7, 3), (12, .iconst 1, 1), (13, .goto 4, 3), (16, .iconst 0, 1), (17, .ireturn, 1)]
set_option maxRecDepth 20000 in
theorem me_X7_hasSheet : zdecs cX7_hasSheet md_X7_hasSheet := by
  unfold zdecs md_X7_hasSheet
  decide +kernel
def md_X7_asked : List (Nat × Instr × Nat) := [(0, .iload_n 1, 1), (1, .ifCond .lt 37, 3), (4, .iload_n 1, 1), (5, .aload_n 0, 1), (6, .getfield 35, 3), (9, .if_icmp .ge 29, 3), (12, .iload_n 2, 1), (13, .ifCond .lt 25, 3), (16, .iload_n 2, 1), (17, .aload_n 0, 1), (18, .getfield 32, 3), (21, .if_icmp .ge 17, 3), (24, .aload_n 0, 1), (25, .getfield 29, 3), (28, .iload_n 1, 1), (29, .bipush 6, 2), (31, .imul, 1), (32, .iload_n 2, 1), (33, .iadd, 1), (34, .iaload, 1), (35, .goto 4, 3), (38, .iconst 0, 1), (39, .ireturn, 1)]
set_option maxRecDepth 20000 in
theorem me_X7_asked : zdecs cX7_asked md_X7_asked := by
  unfold zdecs md_X7_asked
  decide +kernel
def md_X7_bathAfter : List (Nat × Instr × Nat) := [(0, .aload_n 0, 1), (1, .iload_n 1, 1), (2, .invokevirtual 41, 3), (5, .ifCond .eq 8, 3), (8, .iload_n 2, 1), (9, .iconst (-1), 1), (10, .if_icmp .ge 5, 3), (13, .iconst (-1), 1), (14, .ireturn, 1), (15, .iload_n 2, 1), (16, .iconst 1, 1), (17, .iadd, 1), (18, .istore_n 3, 1), (19, .iload_n 3, 1), (20, .aload_n 0, 1), (21, .getfield 32, 3), (24, .if_icmp .ge 30, 3), (27, .aload_n 0, 1), (28, .getfield 29, 3), (31, .aload_n 0, 1), (32, .getfield 22, 3), (35, .iload_n 1, 1), (36, .iaload, 1), (37, .bipush 6, 2), (39, .imul, 1), (40, .iload_n 3, 1), (41, .iadd, 1), (42, .iaload, 1), (43, .ifCond .le 5, 3), (46, .iload_n 3, 1), (47, .ireturn, 1), (48, .iinc 3 1, 3), (51, .goto (-32), 3), (54, .iconst (-1), 1), (55, .ireturn, 1)]
set_option maxRecDepth 20000 in
theorem me_X7_bathAfter : zdecs cX7_bathAfter md_X7_bathAfter := by
  unfold zdecs md_X7_bathAfter
  decide +kernel
def md_X7_copyFrom : List (Nat × Instr × Nat) := [(0, .aload_n 0, 1), (1, .aload_n 1, 1), (2, .getfield 32, 3), (5, .putfield 32, 3), (8, .aload_n 0, 1), (9, .aload_n 1, 1), (10, .getfield 35, 3), (13, .putfield 35, 3), (16, .aload_n 0, 1), (17, .aload_n 1, 1), (18, .getfield 38, 3), (21, .putfield 38, 3), (24, .aload_n 0, 1), (25, .aload_n 1, 1), (26, .getfield 45, 3), (29, .putfield 45, 3), (32, .aload_n 0, 1), (33, .aload_n 1, 1), (34, .getfield 48, 3), (37, .putfield 48, 3), (40, .aload_n 0, 1), (41, .aload_n 1, 1), (42, .getfield 11, 3), (45, .putfield 11, 3), (48, .aload_n 1, 1), (49, .getfield 15, 3), (52, .iconst 0, 1), (53, .aload_n 0, 1), (54, .getfield 15, 3), (57, .iconst 0, 1), (58, .bipush 6, 2), (60, .invokestatic 51, 3), (63, .aload_n 1, 1), (64, .getfield 19, 3), (67, .iconst 0, 1), (68, .aload_n 0, 1), (69, .getfield 19, 3), (72, .iconst 0, 1), (73, .bipush 6, 2), (75, .invokestatic 51, 3), (78, .aload_n 1, 1), (79, .getfield 22, 3), (82, .iconst 0, 1), (83, .aload_n 0, 1), (84, .getfield 22, 3), (87, .iconst 0, 1), (88, .bipush 8, 2), (90, .invokestatic 51, 3), (93, .aload_n 1, 1), (94, .getfield 25, 3), (97, .iconst 0, 1), (98, .aload_n 0, 1), (99, .getfield 25, 3), (102, .iconst 0, 1), (103, .bipush 19, 2), (105, .invokestatic 51, 3), (108, .aload_n 1, 1), (109, .getfield 29, 3), (112, .iconst 0, 1), (113, .aload_n 0, 1), (114, .getfield 29, 3), (117, .iconst 0, 1), (118, .bipush 30, 2), (120, .invokestatic 51, 3), (123, .return_, 1)]
set_option maxRecDepth 20000 in
theorem me_X7_copyFrom : zdecs cX7_copyFrom md_X7_copyFrom := by
  unfold zdecs md_X7_copyFrom
  decide +kernel
def md_X7_wipe : List (Nat × Instr × Nat) := [(0, .aload_n 0, 1), (1, .iconst 0, 1), (2, .putfield 32, 3), (5, .aload_n 0, 1), (6, .iconst 0, 1), (7, .putfield 35, 3), (10, .aload_n 0, 1), (11, .iconst 0, 1), (12, .putfield 38, 3), (15, .aload_n 0, 1), (16, .iconst 0, 1), (17, .putfield 45, 3), (20, .aload_n 0, 1), (21, .iconst 0, 1), (22, .putfield 48, 3), (25, .aload_n 0, 1), (26, .iconst 5, 1), (27, .putfield 11, 3), (30, .aload_n 0, 1), (31, .iconst 0, 1), (32, .putfield 57, 3), (35, .return_, 1)]
set_option maxRecDepth 20000 in
theorem me_X7_wipe : zdecs cX7_wipe md_X7_wipe := by
  unfold zdecs md_X7_wipe
  decide +kernel
def md_X7_readLines : List (Nat × Instr × Nat) := [(0, .aload_n 0, 1), (1, .invokevirtual 60, 3), (4, .aload_n 1, 1), (5, .sipush 900, 3), (8, .invokevirtual 63, 3), (11, .iconst 0, 1), (12, .istore_n 2, 1), (13, .iload_n 2, 1), (14, .sipush 900, 3), (17, .if_icmp .gt 37, 3), (20, .aload_n 1, 1), (21, .invokevirtual 69, 3), (24, .ifCond .eq 5, 3), (27, .iload_n 2, 1), (28, .ireturn, 1), (29, .aload_n 0, 1), (30, .aload_n 1, 1), (31, .invokevirtual 73, 3), (34, .ifCond .eq 12, 3), (37, .aload_n 1, 1), (38, .bipush 59, 2), (40, .invokevirtual 77, 3), (43, .ifCond .ne 5, 3), (46, .iconst (-1), 1), (47, .ireturn, 1), (48, .iinc 2 1, 3), (51, .goto (-38), 3), (54, .iconst (-1), 1), (55, .ireturn, 1)]
set_option maxRecDepth 20000 in
theorem me_X7_readLines : zdecs cX7_readLines md_X7_readLines := by
  unfold zdecs md_X7_readLines
  decide +kernel
def md_X7_readLine : List (Nat × Instr × Nat) := [(0, .aload_n 1, 1), (1, .getfield 80, 3), (4, .tableswitch 64 0 5 #[40, 46, 52, 58, 58, 58], 40), (44, .aload_n 0, 1), (45, .aload_n 1, 1), (46, .invokevirtual 83, 3), (49, .ireturn, 1), (50, .aload_n 0, 1), (51, .aload_n 1, 1), (52, .invokevirtual 86, 3), (55, .ireturn, 1), (56, .aload_n 0, 1), (57, .aload_n 1, 1), (58, .invokevirtual 89, 3), (61, .ireturn, 1), (62, .aload_n 0, 1), (63, .aload_n 1, 1), (64, .invokevirtual 92, 3), (67, .ireturn, 1), (68, .aload_n 1, 1), (69, .iconst 1, 1), (70, .invokevirtual 95, 3), (73, .ireturn, 1)]
set_option maxRecDepth 20000 in
theorem me_X7_readLine : zdecs cX7_readLine md_X7_readLine := by
  unfold zdecs md_X7_readLine
  decide +kernel
def md_X7_readBath : List (Nat × Instr × Nat) := [(0, .aload_n 0, 1), (1, .getfield 35, 3), (4, .ifCond .le 9, 3), (7, .aload_n 1, 1), (8, .iconst 3, 1), (9, .invokevirtual 95, 3), (12, .ireturn, 1), (13, .aload_n 0, 1), (14, .getfield 32, 3), (17, .bipush 6, 2), (19, .if_icmp .lt 9, 3), (22, .aload_n 1, 1), (23, .iconst 4, 1), (24, .invokevirtual 95, 3), (27, .ireturn, 1), (28, .aload_n 1, 1), (29, .invokevirtual 98, 3), (32, .aload_n 0, 1), (33, .aload_n 1, 1), (34, .iconst 0, 1), (35, .aload_n 0, 1), (36, .getfield 32, 3), (39, .iadd, 1), (40, .invokevirtual 101, 3), (43, .ifCond .ne 5, 3), (46, .iconst 0, 1), (47, .ireturn, 1), (48, .aload_n 1, 1), (49, .iconst 1, 1), (50, .iconst 4, 1), (51, .invokevirtual 105, 3), (54, .istore_n 2, 1), (55, .iload_n 2, 1), (56, .iconst (-1), 1), (57, .if_icmp .ne 7, 3), (60, .iconst (-1), 1), (61, .goto 10, 3), (64, .aload_n 1, 1), (65, .iconst 1, 1), (66, .bipush 99, 2), (68, .invokevirtual 105, 3), (71, .istore_n 3, 1), (72, .iload_n 3, 1), (73, .iconst (-1), 1), (74, .if_icmp .ne 5, 3), (77, .iconst 0, 1), (78, .ireturn, 1), (79, .aload_n 0, 1), (80, .getfield 15, 3), (83, .aload_n 0, 1), (84, .getfield 32, 3), (87, .iload_n 2, 1), (88, .iastore, 1), (89, .aload_n 0, 1), (90, .getfield 19, 3), (93, .aload_n 0, 1), (94, .getfield 32, 3), (97, .iload_n 3, 1), (98, .iastore, 1), (99, .aload_n 0, 1), (100, .dup, 1), (101, .getfield 32, 3), (104, .iconst 1, 1), (105, .iadd, 1), (106, .putfield 32, 3), (109, .iconst 1, 1), (110, .ireturn, 1)]
set_option maxRecDepth 20000 in
theorem me_X7_readBath : zdecs cX7_readBath md_X7_readBath := by
  unfold zdecs md_X7_readBath
  decide +kernel
def md_X7_readPaper : List (Nat × Instr × Nat) := [(0, .aload_n 0, 1), (1, .getfield 35, 3), (4, .iconst 5, 1), (5, .if_icmp .lt 9, 3), (8, .aload_n 1, 1), (9, .iconst 4, 1), (10, .invokevirtual 95, 3), (13, .ireturn, 1), (14, .aload_n 1, 1), (15, .invokevirtual 98, 3), (18, .aload_n 0, 1), (19, .aload_n 1, 1), (20, .bipush 6, 2), (22, .aload_n 0, 1), (23, .getfield 35, 3), (26, .iadd, 1), (27, .invokevirtual 101, 3), (30, .ifCond .ne 5, 3), (33, .iconst 0, 1), (34, .ireturn, 1), (35, .iconst 0, 1), (36, .istore_n 2, 1), (37, .iload_n 2, 1), (38, .aload_n 0, 1), (39, .getfield 32, 3), (42, .if_icmp .ge 39, 3), (45, .aload_n 1, 1), (46, .iconst 0, 1), (47, .bipush 30, 2), (49, .invokevirtual 105, 3), (52, .istore_n 3, 1), (53, .iload_n 3, 1), (54, .iconst (-1), 1), (55, .if_icmp .ne 5, 3), (58, .iconst 0, 1), (59, .ireturn, 1), (60, .aload_n 0, 1), (61, .getfield 29, 3), (64, .aload_n 0, 1), (65, .getfield 35, 3), (68, .bipush 6, 2), (70, .imul, 1), (71, .iload_n 2, 1), (72, .iadd, 1), (73, .iload_n 3, 1), (74, .iastore, 1), (75, .iinc 2 1, 3), (78, .goto (-41), 3), (81, .aload_n 0, 1), (82, .dup, 1), (83, .getfield 35, 3), (86, .iconst 1, 1), (87, .iadd, 1), (88, .putfield 35, 3), (91, .iconst 1, 1), (92, .ireturn, 1)]
set_option maxRecDepth 20000 in
theorem me_X7_readPaper : zdecs cX7_readPaper md_X7_readPaper := by
  unfold zdecs md_X7_readPaper
  decide +kernel
def md_X7_readSheet : List (Nat × Instr × Nat) := [(0, .aload_n 0, 1), (1, .getfield 38, 3), (4, .bipush 8, 2), (6, .if_icmp .lt 9, 3), (9, .aload_n 1, 1), (10, .iconst 4, 1), (11, .invokevirtual 95, 3), (14, .ireturn, 1), (15, .aload_n 1, 1), (16, .invokevirtual 98, 3), (19, .aload_n 0, 1), (20, .aload_n 1, 1), (21, .bipush 11, 2), (23, .aload_n 0, 1), (24, .getfield 38, 3), (27, .iadd, 1), (28, .invokevirtual 101, 3), (31, .ifCond .ne 5, 3), (34, .iconst 0, 1), (35, .ireturn, 1), (36, .aload_n 0, 1), (37, .aload_n 1, 1), (38, .bipush 6, 2), (40, .aload_n 0, 1), (41, .getfield 35, 3), (44, .invokevirtual 109, 3), (47, .istore_n 2, 1), (48, .iload_n 2, 1), (49, .iconst (-1), 1), (50, .if_icmp .ne 5, 3), (53, .iconst 0, 1), (54, .ireturn, 1), (55, .aload_n 0, 1), (56, .getfield 22, 3), (59, .aload_n 0, 1), (60, .getfield 38, 3), (63, .iload_n 2, 1), (64, .iastore, 1), (65, .aload_n 0, 1), (66, .dup, 1), (67, .getfield 38, 3), (70, .iconst 1, 1), (71, .iadd, 1), (72, .putfield 38, 3), (75, .iconst 1, 1), (76, .ireturn, 1)]
set_option maxRecDepth 20000 in
theorem me_X7_readSheet : zdecs cX7_readSheet md_X7_readSheet := by
  unfold zdecs md_X7_readSheet
  decide +kernel
def md_X7_readOnce : List (Nat × Instr × Nat) := [(0, .aload_n 1, 1), (1, .getfield 80, 3), (4, .istore_n 2, 1), (5, .aload_n 0, 1), (6, .getfield 57, 3), (9, .iload_n 2, 1), (10, .ishr, 1), (11, .iconst 1, 1), (12, .iand, 1), (13, .ifCond .eq 9, 3), (16, .aload_n 1, 1), (17, .iconst 3, 1), (18, .invokevirtual 95, 3), (21, .ireturn, 1), (22, .aload_n 0, 1), (23, .dup, 1), (24, .getfield 57, 3), (27, .iconst 1, 1), (28, .iload_n 2, 1), (29, .ishl, 1), (30, .ior, 1), (31, .putfield 57, 3), (34, .aload_n 1, 1), (35, .invokevirtual 98, 3), (38, .aload_n 1, 1), (39, .iconst 0, 1), (40, .iload_n 2, 1), (41, .iconst 5, 1), (42, .if_icmp .ne 8, 3), (45, .bipush 99, 2), (47, .goto 5, 3), (50, .bipush 9, 2), (52, .invokevirtual 105, 3), (55, .istore_n 3, 1), (56, .iload_n 3, 1), (57, .iconst (-1), 1), (58, .if_icmp .ne 5, 3), (61, .iconst 0, 1), (62, .ireturn, 1), (63, .iload_n 2, 1), (64, .iconst 3, 1), (65, .if_icmp .ne 11, 3), (68, .aload_n 0, 1), (69, .iload_n 3, 1), (70, .putfield 45, 3), (73, .goto 21, 3), (76, .iload_n 2, 1), (77, .iconst 4, 1), (78, .if_icmp .ne 11, 3), (81, .aload_n 0, 1), (82, .iload_n 3, 1), (83, .putfield 48, 3), (86, .goto 8, 3), (89, .aload_n 0, 1), (90, .iload_n 3, 1), (91, .putfield 11, 3), (94, .iconst 1, 1), (95, .ireturn, 1)]
set_option maxRecDepth 20000 in
theorem me_X7_readOnce : zdecs cX7_readOnce md_X7_readOnce := by
  unfold zdecs md_X7_readOnce
  decide +kernel
def md_X7_passNewName : List (Nat × Instr × Nat) := [(0, .aload_n 1, 1), (1, .getfield 113, 3), (4, .iconst 1, 1), (5, .if_icmp .eq 9, 3), (8, .aload_n 1, 1), (9, .iconst 1, 1), (10, .invokevirtual 95, 3), (13, .ireturn, 1), (14, .aload_n 1, 1), (15, .getfield 116, 3), (18, .lstore_n 3, 1), (19, .aload_n 0, 1), (20, .lload_n 3, 1), (21, .iconst 0, 1), (22, .aload_n 0, 1), (23, .getfield 32, 3), (26, .invokevirtual 120, 3), (29, .iconst (-1), 1), (30, .if_icmp .ne 33, 3), (33, .aload_n 0, 1), (34, .lload_n 3, 1), (35, .bipush 6, 2), (37, .aload_n 0, 1), (38, .getfield 35, 3), (41, .invokevirtual 120, 3), (44, .iconst (-1), 1), (45, .if_icmp .ne 18, 3), (48, .aload_n 0, 1), (49, .lload_n 3, 1), (50, .bipush 11, 2), (52, .aload_n 0, 1), (53, .getfield 38, 3), (56, .invokevirtual 120, 3), (59, .iconst (-1), 1), (60, .if_icmp .eq 9, 3), (63, .aload_n 1, 1), (64, .iconst 3, 1), (65, .invokevirtual 95, 3), (68, .ireturn, 1), (69, .iload_n 2, 1), (70, .ifCond .lt 16, 3), (73, .iload_n 2, 1), (74, .bipush 19, 2), (76, .if_icmp .ge 10, 3), (79, .aload_n 0, 1), (80, .getfield 25, 3), (83, .iload_n 2, 1), (84, .lload_n 3, 1), (85, .lastore, 1), (86, .aload_n 1, 1), (87, .invokevirtual 98, 3), (90, .iconst 1, 1), (91, .ireturn, 1)]
set_option maxRecDepth 20000 in
theorem me_X7_passNewName : zdecs cX7_passNewName md_X7_passNewName := by
  unfold zdecs md_X7_passNewName
  decide +kernel
def md_X7_passKnown : List (Nat × Instr × Nat) := [(0, .aload_n 1, 1), (1, .getfield 113, 3), (4, .iconst 1, 1), (5, .if_icmp .eq 11, 3), (8, .aload_n 1, 1), (9, .iconst 1, 1), (10, .invokevirtual 95, 3), (13, .pop, 1), (14, .iconst (-1), 1), (15, .ireturn, 1), (16, .aload_n 0, 1), (17, .aload_n 1, 1), (18, .getfield 116, 3), (21, .iload_n 2, 1), (22, .iload_n 3, 1), (23, .invokevirtual 120, 3), (26, .istore 4, 2), (28, .iload 4, 2), (30, .iconst (-1), 1), (31, .if_icmp .ne 11, 3), (34, .aload_n 1, 1), (35, .iconst 3, 1), (36, .invokevirtual 95, 3), (39, .pop, 1), (40, .iconst (-1), 1), (41, .ireturn, 1), (42, .aload_n 1, 1), (43, .invokevirtual 98, 3), (46, .iload 4, 2), (48, .ireturn, 1)]
set_option maxRecDepth 20000 in
theorem me_X7_passKnown : zdecs cX7_passKnown md_X7_passKnown := by
  unfold zdecs md_X7_passKnown
  decide +kernel
def md_X7_numberOf : List (Nat × Instr × Nat) := [(0, .iconst 0, 1), (1, .istore 5, 2), (3, .iload 5, 2), (5, .iload 4, 2), (7, .if_icmp .ge 35, 3), (10, .iload_n 3, 1), (11, .iload 5, 2), (13, .iadd, 1), (14, .bipush 19, 2), (16, .if_icmp .ge 26, 3), (19, .aload_n 0, 1), (20, .getfield 25, 3), (23, .iload_n 3, 1), (24, .iload 5, 2), (26, .iadd, 1), (27, .laload, 1), (28, .lload_n 1, 1), (29, .lcmp, 1), (30, .ifCond .ne 6, 3), (33, .iload 5, 2), (35, .ireturn, 1), (36, .iinc 5 1, 3), (39, .goto (-36), 3), (42, .iconst (-1), 1), (43, .ireturn, 1)]
set_option maxRecDepth 20000 in
theorem me_X7_numberOf : zdecs cX7_numberOf md_X7_numberOf := by
  unfold zdecs md_X7_numberOf
  decide +kernel
def md_X8_init : List (Nat × Instr × Nat) := [(0, .aload_n 0, 1), (1, .invokespecial 5, 3), (4, .aload_n 0, 1), (5, .bipush 40, 2), (7, .newarray .int, 2), (9, .putfield 11, 3), (12, .aload_n 0, 1), (13, .bipush 40, 2), (15, .newarray .int, 2), (17, .putfield 15, 3), (20, .aload_n 0, 1), (21, .bipush 40, 2), (23, .newarray .int, 2), (25, .putfield 18, 3), (28, .aload_n 0, 1), (29, .bipush 40, 2), (31, .newarray .int, 2), (33, .putfield 21, 3), (36, .return_, 1)]
set_option maxRecDepth 20000 in
theorem me_X8_init : zdecs cX8_init md_X8_init := by
  unfold zdecs md_X8_init
  decide +kernel
def md_X8_wipe : List (Nat × Instr × Nat) := [(0, .aload_n 0, 1), (1, .iconst 0, 1), (2, .putfield 24, 3), (5, .aload_n 0, 1), (6, .iconst 0, 1), (7, .putfield 28, 3), (10, .return_, 1)]
set_option maxRecDepth 20000 in
theorem me_X8_wipe : zdecs cX8_wipe md_X8_wipe := by
  unfold zdecs md_X8_wipe
  decide +kernel
def md_X8_copyFrom : List (Nat × Instr × Nat) := [(0, .aload_n 0, 1), (1, .aload_n 1, 1), (2, .getfield 24, 3), (5, .putfield 24, 3), (8, .aload_n 0, 1), (9, .aload_n 1, 1), (10, .getfield 28, 3), (13, .putfield 28, 3), (16, .aload_n 1, 1), (17, .getfield 11, 3), (20, .iconst 0, 1), (21, .aload_n 0, 1), (22, .getfield 11, 3), (25, .iconst 0, 1), (26, .bipush 40, 2), (28, .invokestatic 31, 3), (31, .aload_n 1, 1), (32, .getfield 15, 3), (35, .iconst 0, 1), (36, .aload_n 0, 1), (37, .getfield 15, 3), (40, .iconst 0, 1), (41, .bipush 40, 2), (43, .invokestatic 31, 3), (46, .aload_n 1, 1), (47, .getfield 18, 3), (50, .iconst 0, 1), (51, .aload_n 0, 1), (52, .getfield 18, 3), (55, .iconst 0, 1), (56, .bipush 40, 2), (58, .invokestatic 31, 3), (61, .return_, 1)]
set_option maxRecDepth 20000 in
theorem me_X8_copyFrom : zdecs cX8_copyFrom md_X8_copyFrom := by
  unfold zdecs md_X8_copyFrom
  decide +kernel
def md_X8_readAll : List (Nat × Instr × Nat) := [(0, .aload_n 0, 1), (1, .invokevirtual 37, 3), (4, .aload_n 1, 1), (5, .sipush 200, 3), (8, .invokevirtual 40, 3), (11, .aload_n 0, 1), (12, .aload_n 1, 1), (13, .aload_n 2, 1), (14, .iconst 1, 1), (15, .invokevirtual 46, 3), (18, .ifCond .ne 5, 3), (21, .iconst 0, 1), (22, .ireturn, 1), (23, .aload_n 1, 1), (24, .invokevirtual 50, 3), (27, .ifCond .ne 11, 3), (30, .aload_n 1, 1), (31, .iconst 1, 1), (32, .invokevirtual 54, 3), (35, .ifCond .eq 7, 3), (38, .iconst 1, 1), (39, .goto 4, 3), (42, .iconst 0, 1), (43, .ireturn, 1)]
set_option maxRecDepth 20000 in
theorem me_X8_readAll : zdecs cX8_readAll md_X8_readAll := by
  unfold zdecs md_X8_readAll
  decide +kernel
def md_X8_readCond : List (Nat × Instr × Nat) := [(0, .iconst 0, 1), (1, .istore 4, 2), (3, .aload_n 0, 1), (4, .aload_n 1, 1), (5, .aload_n 2, 1), (6, .iload_n 3, 1), (7, .invokevirtual 58, 3), (10, .ifCond .ne 5, 3), (13, .iconst 0, 1), (14, .ireturn, 1), (15, .iconst 0, 1), (16, .istore 5, 2), (18, .iload 5, 2), (20, .bipush 20, 2), (22, .if_icmp .gt 96, 3), (25, .aload_n 1, 1), (26, .getfield 61, 3), (29, .bipush 12, 2), (31, .if_icmp .ne 7, 3), (34, .iconst 1, 1), (35, .goto 4, 3), (38, .iconst 0, 1), (39, .istore 6, 2), (41, .iload 4, 2), (43, .ifCond .eq 17, 3), (46, .iload 6, 2), (48, .ifCond .ne 12, 3), (51, .aload_n 0, 1), (52, .bipush 11, 2), (54, .iconst 0, 1), (55, .iconst 0, 1), (56, .invokevirtual 64, 3), (59, .pop, 1), (60, .iload 6, 2), (62, .ifCond .ne 14, 3), (65, .aload_n 1, 1), (66, .getfield 61, 3), (69, .bipush 11, 2), (71, .if_icmp .eq 5, 3), (74, .iconst 1, 1), (75, .ireturn, 1), (76, .aload_n 1, 1), (77, .invokevirtual 68, 3), (80, .aload_n 0, 1), (81, .aload_n 1, 1), (82, .aload_n 2, 1), (83, .iload_n 3, 1), (84, .invokevirtual 58, 3), (87, .ifCond .ne 5, 3), (90, .iconst 0, 1), (91, .ireturn, 1), (92, .iload 6, 2), (94, .ifCond .eq 15, 3), (97, .aload_n 0, 1), (98, .bipush 12, 2), (100, .iconst 0, 1), (101, .iconst 0, 1), (102, .invokevirtual 64, 3), (105, .pop, 1), (106, .goto 6, 3), (109, .iconst 1, 1), (110, .istore 4, 2), (112, .iinc 5 1, 3), (115, .goto (-97), 3), (118, .aload_n 1, 1), (119, .iconst 4, 1), (120, .invokevirtual 54, 3), (123, .ireturn, 1)]
set_option maxRecDepth 20000 in
theorem me_X8_readCond : zdecs cX8_readCond md_X8_readCond := by
  unfold zdecs md_X8_readCond
  decide +kernel
def md_X8_readOne : List (Nat × Instr × Nat) := [(0, .aload_n 1, 1), (1, .bipush 40, 2), (3, .invokevirtual 71, 3), (6, .istore 4, 2), (8, .iload 4, 2), (10, .ifCond .ne 18, 3), (13, .aload_n 1, 1), (14, .getfield 61, 3), (17, .bipush 13, 2), (19, .if_icmp .ge 9, 3), (22, .aload_n 1, 1), (23, .iconst 1, 1), (24, .invokevirtual 54, 3), (27, .ireturn, 1), (28, .aload_n 0, 1), (29, .getfield 24, 3), (32, .bipush 20, 2), (34, .if_icmp .ge 9, 3), (37, .iload_n 3, 1), (38, .bipush 8, 2), (40, .if_icmp .le 9, 3), (43, .aload_n 1, 1), (44, .iconst 4, 1), (45, .invokevirtual 54, 3), (48, .ireturn, 1), (49, .aload_n 0, 1), (50, .dup, 1), (51, .getfield 24, 3), (54, .iconst 1, 1), (55, .iadd, 1), (56, .putfield 24, 3), (59, .aload_n 1, 1), (60, .getfield 61, 3), (63, .istore 5, 2), (65, .aload_n 1, 1), (66, .invokevirtual 68, 3), (69, .iload 4, 2), (71, .ifCond .eq 30, 3), (74, .aload_n 0, 1), (75, .aload_n 1, 1), (76, .aload_n 2, 1), (77, .iload_n 3, 1), (78, .iconst 1, 1), (79, .iadd, 1), (80, .invokevirtual 46, 3), (83, .ifCond .eq 16, 3), (86, .aload_n 1, 1), (87, .bipush 41, 2), (89, .invokevirtual 74, 3), (92, .ifCond .eq 7, 3), (95, .iconst 1, 1), (96, .goto 4, 3), (99, .iconst 0, 1), (100, .ireturn, 1), (101, .iload 5, 2), (103, .bipush 13, 2), (105, .if_icmp .ne 32, 3), (108, .aload_n 0, 1), (109, .aload_n 1, 1), (110, .aload_n 2, 1), (111, .iload_n 3, 1), (112, .iconst 1, 1), (113, .iadd, 1), (114, .invokevirtual 58, 3), (117, .ifCond .eq 18, 3), (120, .aload_n 0, 1), (121, .bipush 13, 2), (123, .iconst 0, 1), (124, .iconst 0, 1), (125, .invokevirtual 64, 3), (128, .ifCond .eq 7, 3), (131, .iconst 1, 1), (132, .goto 4, 3), (135, .iconst 0, 1), (136, .ireturn, 1), (137, .aload_n 0, 1), (138, .aload_n 1, 1), (139, .aload_n 2, 1), (140, .iload 5, 2), (142, .invokevirtual 77, 3), (145, .ireturn, 1)]
set_option maxRecDepth 20000 in
theorem me_X8_readOne : zdecs cX8_readOne md_X8_readOne := by
  unfold zdecs md_X8_readOne
  decide +kernel
def md_X8_readSaying : List (Nat × Instr × Nat) := [(0, .iconst 0, 1), (1, .istore 4, 2), (3, .iconst 0, 1), (4, .istore 5, 2), (6, .iload_n 3, 1), (7, .bipush 18, 2), (9, .if_icmp .ne 18, 3), (12, .aload_n 2, 1), (13, .aload_n 1, 1), (14, .iconst 0, 1), (15, .aload_n 2, 1), (16, .getfield 82, 3), (19, .invokevirtual 85, 3), (22, .istore 4, 2), (24, .goto 57, 3), (27, .iload_n 3, 1), (28, .bipush 19, 2), (30, .if_icmp .ne 19, 3), (33, .aload_n 2, 1), (34, .aload_n 1, 1), (35, .bipush 6, 2), (37, .aload_n 2, 1), (38, .getfield 89, 3), (41, .invokevirtual 85, 3), (44, .istore 4, 2), (46, .goto 35, 3), (49, .iload_n 3, 1), (50, .bipush 20, 2), (52, .if_icmp .lt 29, 3), (55, .aload_n 1, 1), (56, .invokevirtual 92, 3), (59, .istore 4, 2), (61, .iload 4, 2), (63, .iconst (-1), 1), (64, .if_icmp .ne 7, 3), (67, .iconst (-1), 1), (68, .goto 11, 3), (71, .aload_n 1, 1), (72, .iconst 0, 1), (73, .sipush 999, 3), (76, .invokevirtual 96, 3), (79, .istore 5, 2), (81, .iload 4, 2), (83, .iconst (-1), 1), (84, .if_icmp .eq 25, 3), (87, .iload 5, 2), (89, .iconst (-1), 1), (90, .if_icmp .eq 19, 3), (93, .aload_n 0, 1), (94, .iload_n 3, 1), (95, .iload 4, 2), (97, .iload 5, 2), (99, .invokevirtual 64, 3), (102, .ifCond .eq 7, 3), (105, .iconst 1, 1), (106, .goto 4, 3), (109, .iconst 0, 1), (110, .ireturn, 1)]
set_option maxRecDepth 20000 in
theorem me_X8_readSaying : zdecs cX8_readSaying md_X8_readSaying := by
  unfold zdecs md_X8_readSaying
  decide +kernel
def md_X8_addStep : List (Nat × Instr × Nat) := [(0, .aload_n 0, 1), (1, .getfield 28, 3), (4, .bipush 40, 2), (6, .if_icmp .lt 5, 3), (9, .iconst 0, 1), (10, .ireturn, 1), (11, .aload_n 0, 1), (12, .getfield 11, 3), (15, .aload_n 0, 1), (16, .getfield 28, 3), (19, .iload_n 1, 1), (20, .iastore, 1), (21, .aload_n 0, 1), (22, .getfield 15, 3), (25, .aload_n 0, 1), (26, .getfield 28, 3), (29, .iload_n 2, 1), (30, .iastore, 1), (31, .aload_n 0, 1), (32, .getfield 18, 3), (35, .aload_n 0, 1), (36, .getfield 28, 3), (39, .iload_n 3, 1), (40, .iastore, 1), (41, .aload_n 0, 1), (42, .dup, 1), (43, .getfield 28, 3), (46, .iconst 1, 1), (47, .iadd, 1), (48, .putfield 28, 3), (51, .iconst 1, 1), (52, .ireturn, 1)]
set_option maxRecDepth 20000 in
theorem me_X8_addStep : zdecs cX8_addStep md_X8_addStep := by
  unfold zdecs md_X8_addStep
  decide +kernel
def md_X8_sheetsOf : List (Nat × Instr × Nat) := [(0, .iconst 1, 1), (1, .aload_n 1, 1), (2, .getfield 100, 3), (5, .ishl, 1), (6, .iconst 1, 1), (7, .isub, 1), (8, .istore_n 3, 1), (9, .iconst 0, 1), (10, .istore 4, 2), (12, .aload_n 0, 1), (13, .getfield 21, 3), (16, .iconst 0, 1), (17, .iconst 0, 1), (18, .iastore, 1), (19, .iconst 0, 1), (20, .istore 5, 2), (22, .iload 5, 2), (24, .aload_n 0, 1), (25, .getfield 28, 3), (28, .if_icmp .ge 170, 3), (31, .iload 5, 2), (33, .bipush 40, 2), (35, .if_icmp .ge 163, 3), (38, .aload_n 0, 1), (39, .getfield 11, 3), (42, .iload 5, 2), (44, .iaload, 1), (45, .bipush 13, 2), (47, .if_icmp .ne 34, 3), (50, .iload 4, 2), (52, .iconst 1, 1), (53, .if_icmp .lt 28, 3), (56, .aload_n 0, 1), (57, .getfield 21, 3), (60, .iload 4, 2), (62, .iconst 1, 1), (63, .isub, 1), (64, .iload_n 3, 1), (65, .aload_n 0, 1), (66, .getfield 21, 3), (69, .iload 4, 2), (71, .iconst 1, 1), (72, .isub, 1), (73, .iaload, 1), (74, .iconst (-1), 1), (75, .ixor, 1), (76, .iand, 1), (77, .iastore, 1), (78, .goto 114, 3), (81, .aload_n 0, 1), (82, .getfield 11, 3), (85, .iload 5, 2), (87, .iaload, 1), (88, .bipush 12, 2), (90, .if_icmp .ne 34, 3), (93, .iload 4, 2), (95, .iconst 2, 1), (96, .if_icmp .lt 28, 3), (99, .iinc 4 (-1), 3), (102, .aload_n 0, 1), (103, .getfield 21, 3), (106, .iload 4, 2), (108, .iconst 1, 1), (109, .isub, 1), (110, .dup2, 1), (111, .iaload, 1), (112, .aload_n 0, 1), (113, .getfield 21, 3), (116, .iload 4, 2), (118, .iaload, 1), (119, .iand, 1), (120, .iastore, 1), (121, .goto 71, 3), (124, .aload_n 0, 1), (125, .getfield 11, 3), (128, .iload 5, 2), (130, .iaload, 1), (131, .bipush 11, 2), (133, .if_icmp .ne 34, 3), (136, .iload 4, 2), (138, .iconst 2, 1), (139, .if_icmp .lt 28, 3), (142, .iinc 4 (-1), 3), (145, .aload_n 0, 1), (146, .getfield 21, 3), (149, .iload 4, 2), (151, .iconst 1, 1), (152, .isub, 1), (153, .dup2, 1), (154, .iaload, 1), (155, .aload_n 0, 1), (156, .getfield 21, 3), (159, .iload 4, 2), (161, .iaload, 1), (162, .ior, 1), (163, .iastore, 1), (164, .goto 28, 3), (167, .iload 4, 2), (169, .bipush 40, 2), (171, .if_icmp .ge 21, 3), (174, .aload_n 0, 1), (175, .getfield 21, 3), (178, .iload 4, 2), (180, .aload_n 0, 1), (181, .aload_n 1, 1), (182, .aload_n 2, 1), (183, .iload 5, 2), (185, .invokevirtual 103, 3), (188, .iastore, 1), (189, .iinc 4 1, 3), (192, .iinc 5 1, 3), (195, .goto (-173), 3), (198, .aload_n 0, 1), (199, .getfield 21, 3), (202, .iconst 0, 1), (203, .iaload, 1), (204, .ireturn, 1)]
set_option maxRecDepth 20000 in
theorem me_X8_sheetsOf : zdecs cX8_sheetsOf md_X8_sheetsOf := by
  unfold zdecs md_X8_sheetsOf
  decide +kernel
def md_X8_sheetsOfStep : List (Nat × Instr × Nat) := [(0, .aload_n 0, 1), (1, .getfield 11, 3), (4, .iload_n 3, 1), (5, .iaload, 1), (6, .tableswitch 68 14 18 #[34, 40, 46, 52, 57], 34), (40, .aload_n 2, 1), (41, .iconst 0, 1), (42, .invokevirtual 107, 3), (45, .ireturn, 1), (46, .aload_n 2, 1), (47, .iconst 2, 1), (48, .invokevirtual 107, 3), (51, .ireturn, 1), (52, .aload_n 2, 1), (53, .iconst 3, 1), (54, .invokevirtual 107, 3), (57, .ireturn, 1), (58, .aload_n 2, 1), (59, .invokevirtual 113, 3), (62, .ireturn, 1), (63, .aload_n 2, 1), (64, .aload_n 0, 1), (65, .getfield 15, 3), (68, .iload_n 3, 1), (69, .iaload, 1), (70, .invokevirtual 116, 3), (73, .ireturn, 1), (74, .aload_n 0, 1), (75, .aload_n 1, 1), (76, .aload_n 2, 1), (77, .iload_n 3, 1), (78, .invokevirtual 119, 3), (81, .ireturn, 1)]
set_option maxRecDepth 20000 in
theorem me_X8_sheetsOfStep : zdecs cX8_sheetsOfStep md_X8_sheetsOfStep := by
  unfold zdecs md_X8_sheetsOfStep
  decide +kernel
def md_X8_sheetsThatCompare : List (Nat × Instr × Nat) := [(0, .iconst 0, 1), (1, .istore 4, 2), (3, .iconst 0, 1), (4, .istore 5, 2), (6, .iload 5, 2), (8, .aload_n 1, 1), (9, .getfield 100, 3), (12, .if_icmp .ge 143, 3), (15, .aload_n 0, 1), (16, .getfield 11, 3), (19, .iload_n 3, 1), (20, .iaload, 1), (21, .tableswitch 105 19 22 #[31, 57, 73, 89], 31), (52, .aload_n 1, 1), (53, .getfield 122, 3), (56, .iload 5, 2), (58, .iaload, 1), (59, .aload_n 0, 1), (60, .getfield 15, 3), (63, .iload_n 3, 1), (64, .iaload, 1), (65, .if_icmp .ne 7, 3), (68, .iconst 1, 1), (69, .goto 4, 3), (72, .iconst 0, 1), (73, .istore 6, 2), (75, .goto 60, 3), (78, .aload_n 0, 1), (79, .aload_n 2, 1), (80, .iload 5, 2), (82, .invokevirtual 125, 3), (85, .iload_n 3, 1), (86, .invokevirtual 128, 3), (89, .istore 6, 2), (91, .goto 44, 3), (94, .aload_n 0, 1), (95, .aload_n 2, 1), (96, .iload 5, 2), (98, .invokevirtual 132, 3), (101, .iload_n 3, 1), (102, .invokevirtual 128, 3), (105, .istore 6, 2), (107, .goto 28, 3), (110, .aload_n 0, 1), (111, .aload_n 2, 1), (112, .iload 5, 2), (114, .invokevirtual 135, 3), (117, .iload_n 3, 1), (118, .invokevirtual 128, 3), (121, .istore 6, 2), (123, .goto 12, 3), (126, .aload_n 0, 1), (127, .iload 5, 2), (129, .iload_n 3, 1), (130, .invokevirtual 128, 3), (133, .istore 6, 2), (135, .iload 6, 2), (137, .ifCond .eq 12, 3), (140, .iload 4, 2), (142, .iconst 1, 1), (143, .iload 5, 2), (145, .ishl, 1), (146, .ior, 1), (147, .istore 4, 2), (149, .iinc 5 1, 3), (152, .goto (-146), 3), (155, .iload 4, 2), (157, .ireturn, 1)]
set_option maxRecDepth 20000 in
theorem me_X8_sheetsThatCompare : zdecs cX8_sheetsThatCompare md_X8_sheetsThatCompare := by
  unfold zdecs md_X8_sheetsThatCompare
  decide +kernel
def md_X8_compares : List (Nat × Instr × Nat) := [(0, .aload_n 0, 1), (1, .getfield 15, 3), (4, .iload_n 2, 1), (5, .iaload, 1), (6, .bipush 60, 2), (8, .if_icmp .ne 19, 3), (11, .iload_n 1, 1), (12, .aload_n 0, 1), (13, .getfield 18, 3), (16, .iload_n 2, 1), (17, .iaload, 1), (18, .if_icmp .ge 7, 3), (21, .iconst 1, 1), (22, .goto 4, 3), (25, .iconst 0, 1), (26, .ireturn, 1), (27, .aload_n 0, 1), (28, .getfield 15, 3), (31, .iload_n 2, 1), (32, .iaload, 1), (33, .bipush 62, 2), (35, .if_icmp .ne 21, 3), (38, .iload_n 1, 1), (39, .aload_n 0, 1), (40, .getfield 18, 3), (43, .iload_n 2, 1), (44, .iaload, 1), (45, .if_icmp .le 7, 3), (48, .iconst 1, 1), (49, .goto 22, 3), (52, .iconst 0, 1), (53, .goto 18, 3), (56, .iload_n 1, 1), (57, .aload_n 0, 1), (58, .getfield 18, 3), (61, .iload_n 2, 1), (62, .iaload, 1), (63, .if_icmp .ne 7, 3), (66, .iconst 1, 1), (67, .goto 4, 3), (70, .iconst 0, 1), (71, .ireturn, 1)]
set_option maxRecDepth 20000 in
theorem me_X8_compares : zdecs cX8_compares md_X8_compares := by
  unfold zdecs md_X8_compares
  decide +kernel
def md_X9_init : List (Nat × Instr × Nat) := [(0, .aload_n 0, 1), (1, .invokespecial 3, 3), (4, .aload_n 0, 1), (5, .bipush 24, 2), (7, .newarray .int, 2), (9, .putfield 11, 3), (12, .return_, 1)]
set_option maxRecDepth 20000 in
theorem me_X9_init : zdecs cX9_init md_X9_init := by
  unfold zdecs md_X9_init
  decide +kernel
def md_X9_write : List (Nat × Instr × Nat) := [(0, .aload_n 0, 1), (1, .iconst 0, 1), (2, .putfield 15, 3), (5, .aload_n 1, 1), (6, .iload_n 3, 1), (7, .invokevirtual 19, 3), (10, .ifCond .ne 4, 3), (13, .return_, 1), (14, .aload_n 0, 1), (15, .aload_n 1, 1), (16, .getfield 25, 3), (19, .bipush 11, 2), (21, .iload_n 3, 1), (22, .iadd, 1), (23, .laload, 1), (24, .invokevirtual 29, 3), (27, .aload_n 2, 1), (28, .iload_n 3, 1), (29, .invokevirtual 33, 3), (32, .tableswitch 59 0 3 #[32, 59, 41, 50], 32), (64, .aload_n 0, 1), (65, .ldc 39, 2), (67, .invokevirtual 41, 3), (70, .goto 28, 3), (73, .aload_n 0, 1), (74, .ldc 45, 2), (76, .invokevirtual 41, 3), (79, .goto 19, 3), (82, .aload_n 0, 1), (83, .ldc 47, 2), (85, .invokevirtual 41, 3), (88, .goto 10, 3), (91, .aload_n 0, 1), (92, .aload_n 1, 1), (93, .aload_n 2, 1), (94, .iload_n 3, 1), (95, .invokevirtual 49, 3), (98, .return_, 1)]
set_option maxRecDepth 20000 in
theorem me_X9_write : zdecs cX9_write md_X9_write := by
  unfold zdecs md_X9_write
  decide +kernel
def md_X9_writeBath : List (Nat × Instr × Nat) := [(0, .aload_n 2, 1), (1, .iload_n 3, 1), (2, .invokevirtual 53, 3), (5, .istore 4, 2), (7, .aload_n 1, 1), (8, .iload 4, 2), (10, .invokevirtual 56, 3), (13, .ifCond .ne 4, 3), (16, .return_, 1), (17, .aload_n 0, 1), (18, .ldc 59, 2), (20, .invokevirtual 41, 3), (23, .aload_n 0, 1), (24, .aload_n 1, 1), (25, .getfield 25, 3), (28, .iconst 0, 1), (29, .iload 4, 2), (31, .iadd, 1), (32, .laload, 1), (33, .invokevirtual 29, 3), (36, .aload_n 0, 1), (37, .bipush 32, 2), (39, .invokevirtual 61, 3), (42, .aload_n 2, 1), (43, .iload_n 3, 1), (44, .invokevirtual 65, 3), (47, .istore 5, 2), (49, .iload 5, 2), (51, .bipush 9, 2), (53, .if_icmp .le 15, 3), (56, .aload_n 0, 1), (57, .bipush 48, 2), (59, .iload 5, 2), (61, .bipush 10, 2), (63, .idiv, 1), (64, .iadd, 1), (65, .invokevirtual 61, 3), (68, .aload_n 0, 1), (69, .bipush 48, 2), (71, .iload 5, 2), (73, .bipush 10, 2), (75, .irem, 1), (76, .iadd, 1), (77, .invokevirtual 61, 3), (80, .return_, 1)]
set_option maxRecDepth 20000 in
theorem me_X9_writeBath : zdecs cX9_writeBath md_X9_writeBath := by
  unfold zdecs md_X9_writeBath
  decide +kernel
def md_X9_addName : List (Nat × Instr × Nat) := [(0, .bipush 30, 2), (2, .istore_n 3, 1), (3, .iload_n 3, 1), (4, .ifCond .lt 33, 3), (7, .lload_n 1, 1), (8, .iload_n 3, 1), (9, .lshr, 1), (10, .ldc2_w 68, 3), (13, .land, 1), (14, .l2i, 1), (15, .istore 4, 2), (17, .iload 4, 2), (19, .ifCond .eq 12, 3), (22, .aload_n 0, 1), (23, .bipush 96, 2), (25, .iload 4, 2), (27, .iadd, 1), (28, .invokevirtual 61, 3), (31, .iinc 3 (-5), 3), (34, .goto (-31), 3), (37, .return_, 1)]
set_option maxRecDepth 20000 in
theorem me_X9_addName : zdecs cX9_addName md_X9_addName := by
  unfold zdecs md_X9_addName
  decide +kernel
def md_X9_addText : List (Nat × Instr × Nat) := [(0, .iconst 0, 1), (1, .istore_n 2, 1), (2, .iload_n 2, 1), (3, .aload_n 1, 1), (4, .invokevirtual 70, 3), (7, .if_icmp .ge 18, 3), (10, .aload_n 0, 1), (11, .aload_n 1, 1), (12, .iload_n 2, 1), (13, .invokevirtual 75, 3), (16, .invokevirtual 61, 3), (19, .iinc 2 1, 3), (22, .goto (-20), 3), (25, .return_, 1)]
set_option maxRecDepth 20000 in
theorem me_X9_addText : zdecs cX9_addText md_X9_addText := by
  unfold zdecs md_X9_addText
  decide +kernel
def md_X9_add : List (Nat × Instr × Nat) := [(0, .aload_n 0, 1), (1, .getfield 15, 3), (4, .bipush 24, 2), (6, .if_icmp .ge 23, 3), (9, .aload_n 0, 1), (10, .getfield 11, 3), (13, .aload_n 0, 1), (14, .getfield 15, 3), (17, .iload_n 1, 1), (18, .iastore, 1), (19, .aload_n 0, 1), (20, .dup, 1), (21, .getfield 15, 3), (24, .iconst 1, 1), (25, .iadd, 1), (26, .putfield 15, 3), (29, .return_, 1)]
set_option maxRecDepth 20000 in
theorem me_X9_add : zdecs cX9_add md_X9_add := by
  unfold zdecs md_X9_add
  decide +kernel
def md_X10_init : List (Nat × Instr × Nat) := [(0, .aload_n 0, 1), (1, .invokespecial 3, 3), (4, .aload_n 0, 1), (5, .sipush 940, 3), (8, .newarray .int, 2), (10, .putfield 11, 3), (13, .aload_n 0, 1), (14, .bipush 24, 2), (16, .newarray .long, 2), (18, .putfield 15, 3), (21, .iconst 0, 1), (22, .istore_n 1, 1), (23, .iconst 0, 1), (24, .istore_n 2, 1), (25, .iload_n 2, 1), (26, .ldc 19, 2), (28, .invokevirtual 21, 3), (31, .if_icmp .ge 55, 3), (34, .iload_n 1, 1), (35, .bipush 24, 2), (37, .if_icmp .ge 49, 3), (40, .ldc 19, 2), (42, .iload_n 2, 1), (43, .invokevirtual 27, 3), (46, .istore_n 3, 1), (47, .iload_n 3, 1), (48, .bipush 32, 2), (50, .if_icmp .ne 9, 3), (53, .iinc 1 1, 3), (56, .goto 24, 3), (59, .aload_n 0, 1), (60, .getfield 15, 3), (63, .iload_n 1, 1), (64, .aload_n 0, 1), (65, .getfield 15, 3), (68, .iload_n 1, 1), (69, .laload, 1), (70, .iconst 5, 1), (71, .lshl, 1), (72, .iload_n 3, 1), (73, .i2l, 1), (74, .ladd, 1), (75, .ldc2_w 31, 3), (78, .lsub, 1), (79, .lastore, 1), (80, .iinc 2 1, 3), (83, .goto (-58), 3), (86, .return_, 1)]
set_option maxRecDepth 20000 in
theorem me_X10_init : zdecs cX10_init md_X10_init := by
  unfold zdecs md_X10_init
  decide +kernel
def md_X10_addNumber : List (Nat × Instr × Nat) := [(0, .bipush 24, 2), (2, .istore_n 2, 1), (3, .iload_n 2, 1), (4, .ifCond .lt 45, 3), (7, .aload_n 0, 1), (8, .getfield 33, 3), (11, .sipush 940, 3), (14, .if_icmp .ge 35, 3), (17, .aload_n 0, 1), (18, .getfield 11, 3), (21, .aload_n 0, 1), (22, .getfield 33, 3), (25, .iload_n 1, 1), (26, .iload_n 2, 1), (27, .iushr, 1), (28, .sipush 255, 3), (31, .iand, 1), (32, .iastore, 1), (33, .aload_n 0, 1), (34, .dup, 1), (35, .getfield 33, 3), (38, .iconst 1, 1), (39, .iadd, 1), (40, .putfield 33, 3), (43, .iinc 2 (-8), 3), (46, .goto (-43), 3), (49, .return_, 1)]
set_option maxRecDepth 20000 in
theorem me_X10_addNumber : zdecs cX10_addNumber md_X10_addNumber := by
  unfold zdecs md_X10_addNumber
  decide +kernel
def md_X10_begin : List (Nat × Instr × Nat) := [(0, .aload_n 0, 1), (1, .iload_n 1, 1), (2, .putfield 36, 3), (5, .aload_n 0, 1), (6, .iconst 0, 1), (7, .putfield 39, 3), (10, .aload_n 0, 1), (11, .iconst 0, 1), (12, .putfield 42, 3), (15, .aload_n 0, 1), (16, .iconst 0, 1), (17, .putfield 45, 3), (20, .aload_n 0, 1), (21, .invokevirtual 48, 3), (24, .return_, 1)]
set_option maxRecDepth 20000 in
theorem me_X10_begin : zdecs cX10_begin md_X10_begin := by
  unfold zdecs md_X10_begin
  decide +kernel
def md_X10_next : List (Nat × Instr × Nat) := [(0, .aload_n 0, 1), (1, .getfield 45, 3), (4, .aload_n 0, 1), (5, .getfield 33, 3), (8, .if_icmp .ge 44, 3), (11, .aload_n 0, 1), (12, .getfield 11, 3), (15, .aload_n 0, 1), (16, .getfield 45, 3), (19, .iaload, 1), (20, .bipush 32, 2), (22, .if_icmp .eq 17, 3), (25, .aload_n 0, 1), (26, .getfield 11, 3), (29, .aload_n 0, 1), (30, .getfield 45, 3), (33, .iaload, 1), (34, .bipush 10, 2), (36, .if_icmp .ne 16, 3), (39, .aload_n 0, 1), (40, .dup, 1), (41, .getfield 45, 3), (44, .iconst 1, 1), (45, .iadd, 1), (46, .putfield 45, 3), (49, .goto (-49), 3), (52, .aload_n 0, 1), (53, .aload_n 0, 1), (54, .getfield 45, 3), (57, .putfield 51, 3), (60, .aload_n 0, 1), (61, .iconst (-1), 1), (62, .putfield 54, 3), (65, .aload_n 0, 1), (66, .getfield 33, 3), (69, .aload_n 0, 1), (70, .getfield 36, 3), (73, .if_icmp .le 30, 3), (76, .aload_n 0, 1), (77, .getfield 45, 3), (80, .aload_n 0, 1), (81, .getfield 36, 3), (84, .if_icmp .lt 19, 3), (87, .aload_n 0, 1), (88, .aload_n 0, 1), (89, .getfield 36, 3), (92, .putfield 51, 3), (95, .aload_n 0, 1), (96, .iconst 5, 1), (97, .putfield 57, 3), (100, .goto 72, 3), (103, .aload_n 0, 1), (104, .getfield 45, 3), (107, .aload_n 0, 1), (108, .getfield 33, 3), (111, .if_icmp .lt 11, 3), (114, .aload_n 0, 1), (115, .iconst 0, 1), (116, .putfield 57, 3), (119, .goto 53, 3), (122, .aload_n 0, 1), (123, .getfield 11, 3), (126, .aload_n 0, 1), (127, .getfield 45, 3), (130, .iaload, 1), (131, .invokestatic 60, 3), (134, .ifCond .eq 34, 3), (137, .aload_n 0, 1), (138, .aload_n 0, 1), (139, .getfield 11, 3), (142, .aload_n 0, 1), (143, .getfield 45, 3), (146, .iaload, 1), (147, .putfield 64, 3), (150, .aload_n 0, 1), (151, .iconst 4, 1), (152, .putfield 57, 3), (155, .aload_n 0, 1), (156, .dup, 1), (157, .getfield 45, 3), (160, .iconst 1, 1), (161, .iadd, 1), (162, .putfield 45, 3), (165, .goto 7, 3), (168, .aload_n 0, 1), (169, .invokevirtual 67, 3), (172, .return_, 1)]
set_option maxRecDepth 20000 in
theorem me_X10_next : zdecs cX10_next md_X10_next := by
  unfold zdecs md_X10_next
  decide +kernel
def md_X10_readRun : List (Nat × Instr × Nat) := [(0, .iconst 0, 1), (1, .istore_n 1, 1), (2, .iconst 0, 1), (3, .istore_n 2, 1), (4, .aload_n 0, 1), (5, .lconst 0, 1), (6, .putfield 70, 3), (9, .aload_n 0, 1), (10, .iconst 0, 1), (11, .putfield 64, 3), (14, .aload_n 0, 1), (15, .getfield 45, 3), (18, .aload_n 0, 1), (19, .getfield 33, 3), (22, .if_icmp .ge 92, 3), (25, .aload_n 0, 1), (26, .getfield 11, 3), (29, .aload_n 0, 1), (30, .getfield 45, 3), (33, .iaload, 1), (34, .istore_n 3, 1), (35, .iload_n 3, 1), (36, .bipush 97, 2), (38, .if_icmp .lt 32, 3), (41, .iload_n 3, 1), (42, .bipush 122, 2), (44, .if_icmp .gt 26, 3), (47, .iinc 1 1, 3), (50, .aload_n 0, 1), (51, .aload_n 0, 1), (52, .getfield 70, 3), (55, .iconst 5, 1), (56, .lshl, 1), (57, .iload_n 3, 1), (58, .i2l, 1), (59, .ladd, 1), (60, .ldc2_w 31, 3), (63, .lsub, 1), (64, .putfield 70, 3), (67, .goto 34, 3), (70, .iload_n 3, 1), (71, .bipush 48, 2), (73, .if_icmp .lt 41, 3), (76, .iload_n 3, 1), (77, .bipush 57, 2), (79, .if_icmp .gt 35, 3), (82, .iinc 2 1, 3), (85, .aload_n 0, 1), (86, .aload_n 0, 1), (87, .getfield 64, 3), (90, .bipush 10, 2), (92, .imul, 1), (93, .iload_n 3, 1), (94, .iadd, 1), (95, .bipush 48, 2), (97, .isub, 1), (98, .putfield 64, 3), (101, .aload_n 0, 1), (102, .dup, 1), (103, .getfield 45, 3), (106, .iconst 1, 1), (107, .iadd, 1), (108, .putfield 45, 3), (111, .goto (-97), 3), (114, .aload_n 0, 1), (115, .iconst 5, 1), (116, .putfield 57, 3), (119, .iload_n 2, 1), (120, .ifCond .ne 22, 3), (123, .iload_n 1, 1), (124, .iconst 1, 1), (125, .if_icmp .lt 17, 3), (128, .iload_n 1, 1), (129, .bipush 7, 2), (131, .if_icmp .gt 11, 3), (134, .aload_n 0, 1), (135, .iconst 1, 1), (136, .putfield 57, 3), (139, .goto 22, 3), (142, .iload_n 1, 1), (143, .ifCond .ne 18, 3), (146, .iload_n 2, 1), (147, .iconst 1, 1), (148, .if_icmp .lt 13, 3), (151, .iload_n 2, 1), (152, .iconst 3, 1), (153, .if_icmp .gt 8, 3), (156, .aload_n 0, 1), (157, .iconst 3, 1), (158, .putfield 57, 3), (161, .iconst 0, 1), (162, .istore_n 3, 1), (163, .iload_n 3, 1), (164, .bipush 24, 2), (166, .if_icmp .ge 41, 3), (169, .aload_n 0, 1), (170, .getfield 57, 3), (173, .iconst 1, 1), (174, .if_icmp .ne 33, 3), (177, .aload_n 0, 1), (178, .getfield 15, 3), (181, .iload_n 3, 1), (182, .laload, 1), (183, .aload_n 0, 1), (184, .getfield 70, 3), (187, .lcmp, 1), (188, .ifCond .ne 13, 3), (191, .aload_n 0, 1), (192, .iload_n 3, 1), (193, .putfield 54, 3), (196, .aload_n 0, 1), (197, .iconst 2, 1), (198, .putfield 57, 3), (201, .iinc 3 1, 3), (204, .goto (-41), 3), (207, .return_, 1)]
set_option maxRecDepth 20000 in
theorem me_X10_readRun : zdecs cX10_readRun md_X10_readRun := by
  unfold zdecs md_X10_readRun
  decide +kernel
def md_X10_isMark : List (Nat × Instr × Nat) := [(0, .iload_n 0, 1), (1, .bipush 59, 2), (3, .if_icmp .eq 33, 3), (6, .iload_n 0, 1), (7, .bipush 60, 2), (9, .if_icmp .eq 27, 3), (12, .iload_n 0, 1), (13, .bipush 61, 2), (15, .if_icmp .eq 21, 3), (18, .iload_n 0, 1), (19, .bipush 62, 2), (21, .if_icmp .eq 15, 3), (24, .iload_n 0, 1), (25, .bipush 40, 2), (27, .if_icmp .eq 9, 3), (30, .iload_n 0, 1), (31, .bipush 41, 2), (33, .if_icmp .ne 7, 3), (36, .iconst 1, 1), (37, .goto 4, 3), (40, .iconst 0, 1), (41, .ireturn, 1)]
set_option maxRecDepth 20000 in
theorem me_X10_isMark : zdecs cX10_isMark md_X10_isMark := by
  unfold zdecs md_X10_isMark
  decide +kernel
def md_X10_isEnd : List (Nat × Instr × Nat) := [(0, .aload_n 0, 1), (1, .getfield 57, 3), (4, .ifCond .ne 7, 3), (7, .iconst 1, 1), (8, .goto 4, 3), (11, .iconst 0, 1), (12, .ireturn, 1)]
set_option maxRecDepth 20000 in
theorem me_X10_isEnd : zdecs cX10_isEnd md_X10_isEnd := by
  unfold zdecs md_X10_isEnd
  decide +kernel
def md_X10_isSign : List (Nat × Instr × Nat) := [(0, .aload_n 0, 1), (1, .getfield 57, 3), (4, .iconst 4, 1), (5, .if_icmp .ne 15, 3), (8, .aload_n 0, 1), (9, .getfield 64, 3), (12, .iload_n 1, 1), (13, .if_icmp .ne 7, 3), (16, .iconst 1, 1), (17, .goto 4, 3), (20, .iconst 0, 1), (21, .ireturn, 1)]
set_option maxRecDepth 20000 in
theorem me_X10_isSign : zdecs cX10_isSign md_X10_isSign := by
  unfold zdecs md_X10_isSign
  decide +kernel
def md_X10_fail : List (Nat × Instr × Nat) := [(0, .aload_n 0, 1), (1, .iload_n 1, 1), (2, .putfield 39, 3), (5, .aload_n 0, 1), (6, .aload_n 0, 1), (7, .getfield 51, 3), (10, .putfield 42, 3), (13, .iconst 0, 1), (14, .ireturn, 1)]
set_option maxRecDepth 20000 in
theorem me_X10_fail : zdecs cX10_fail md_X10_fail := by
  unfold zdecs md_X10_fail
  decide +kernel
def md_X10_passSign : List (Nat × Instr × Nat) := [(0, .aload_n 0, 1), (1, .iload_n 1, 1), (2, .invokevirtual 74, 3), (5, .ifCond .ne 9, 3), (8, .aload_n 0, 1), (9, .iconst 1, 1), (10, .invokevirtual 77, 3), (13, .ireturn, 1), (14, .aload_n 0, 1), (15, .invokevirtual 48, 3), (18, .iconst 1, 1), (19, .ireturn, 1)]
set_option maxRecDepth 20000 in
theorem me_X10_passSign : zdecs cX10_passSign md_X10_passSign := by
  unfold zdecs md_X10_passSign
  decide +kernel
def md_X10_passNumber : List (Nat × Instr × Nat) := [(0, .aload_n 0, 1), (1, .getfield 64, 3), (4, .istore_n 3, 1), (5, .aload_n 0, 1), (6, .getfield 57, 3), (9, .iconst 3, 1), (10, .if_icmp .eq 11, 3), (13, .aload_n 0, 1), (14, .iconst 1, 1), (15, .invokevirtual 77, 3), (18, .pop, 1), (19, .iconst (-1), 1), (20, .ireturn, 1), (21, .iload_n 3, 1), (22, .iload_n 1, 1), (23, .if_icmp .lt 8, 3), (26, .iload_n 3, 1), (27, .iload_n 2, 1), (28, .if_icmp .le 11, 3), (31, .aload_n 0, 1), (32, .iconst 2, 1), (33, .invokevirtual 77, 3), (36, .pop, 1), (37, .iconst (-1), 1), (38, .ireturn, 1), (39, .aload_n 0, 1), (40, .invokevirtual 48, 3), (43, .iload_n 3, 1), (44, .ireturn, 1)]
set_option maxRecDepth 20000 in
theorem me_X10_passNumber : zdecs cX10_passNumber md_X10_passNumber := by
  unfold zdecs md_X10_passNumber
  decide +kernel
def md_X10_passComparing : List (Nat × Instr × Nat) := [(0, .aload_n 0, 1), (1, .getfield 64, 3), (4, .istore_n 1, 1), (5, .aload_n 0, 1), (6, .bipush 60, 2), (8, .invokevirtual 74, 3), (11, .ifCond .ne 29, 3), (14, .aload_n 0, 1), (15, .bipush 61, 2), (17, .invokevirtual 74, 3), (20, .ifCond .ne 20, 3), (23, .aload_n 0, 1), (24, .bipush 62, 2), (26, .invokevirtual 74, 3), (29, .ifCond .ne 11, 3), (32, .aload_n 0, 1), (33, .iconst 1, 1), (34, .invokevirtual 77, 3), (37, .pop, 1), (38, .iconst (-1), 1), (39, .ireturn, 1), (40, .aload_n 0, 1), (41, .invokevirtual 48, 3), (44, .iload_n 1, 1), (45, .ireturn, 1)]
set_option maxRecDepth 20000 in
theorem me_X10_passComparing : zdecs cX10_passComparing md_X10_passComparing := by
  unfold zdecs md_X10_passComparing
  decide +kernel
def md_X11_init : List (Nat × Instr × Nat) := [(0, .aload_n 0, 1), (1, .invokespecial 1, 3), (4, .aload_n 0, 1), (5, .new 7, 3), (8, .dup, 1), (9, .invokespecial 9, 3), (12, .putfield 10, 3), (15, .aload_n 0, 1), (16, .new 16, 3), (19, .dup, 1), (20, .invokespecial 18, 3), (23, .putfield 19, 3), (26, .aload_n 0, 1), (27, .new 16, 3), (30, .dup, 1), (31, .invokespecial 18, 3), (34, .putfield 23, 3), (37, .aload_n 0, 1), (38, .new 26, 3), (41, .dup, 1), (42, .aload_n 0, 1), (43, .getfield 19, 3), (46, .invokespecial 28, 3), (49, .putfield 31, 3), (52, .aload_n 0, 1), (53, .new 26, 3), (56, .dup, 1), (57, .aload_n 0, 1), (58, .getfield 19, 3), (61, .invokespecial 28, 3), (64, .putfield 35, 3), (67, .aload_n 0, 1), (68, .new 38, 3), (71, .dup, 1), (72, .invokespecial 40, 3), (75, .putfield 41, 3), (78, .aload_n 0, 1), (79, .new 38, 3), (82, .dup, 1), (83, .invokespecial 40, 3), (86, .putfield 45, 3), (89, .aload_n 0, 1), (90, .new 48, 3), (93, .dup, 1), (94, .invokespecial 50, 3), (97, .putfield 51, 3), (100, .aload_n 0, 1), (101, .new 55, 3), (104, .dup, 1), (105, .invokespecial 57, 3), (108, .putfield 58, 3), (111, .aload_n 0, 1), (112, .new 62, 3), (115, .dup, 1), (116, .aload_n 0, 1), (117, .getfield 19, 3), (120, .aload_n 0, 1), (121, .getfield 31, 3), (124, .aload_n 0, 1), (125, .getfield 35, 3), (128, .invokespecial 64, 3), (131, .putfield 67, 3), (134, .aload_n 0, 1), (135, .new 71, 3), (138, .dup, 1), (139, .aload_n 0, 1), (140, .getfield 19, 3), (143, .invokespecial 73, 3), (146, .putfield 74, 3), (149, .aload_n 0, 1), (150, .new 78, 3), (153, .dup, 1), (154, .invokespecial 80, 3), (157, .putfield 81, 3), (160, .aload_n 0, 1), (161, .new 85, 3), (164, .dup, 1), (165, .invokespecial 87, 3), (168, .putfield 88, 3), (171, .aload_n 0, 1), (172, .iconst 2, 1), (173, .anewarray 92, 3), (176, .putfield 94, 3), (179, .iconst 0, 1), (180, .istore_n 1, 1), (181, .iload_n 1, 1), (182, .iconst 2, 1), (183, .if_icmp .ge 22, 3), (186, .aload_n 0, 1), (187, .getfield 94, 3), (190, .iload_n 1, 1), (191, .new 92, 3), (194, .dup, 1), (195, .invokespecial 98, 3), (198, .aastore, 1), (199, .iinc 1 1, 3), (202, .goto (-21), 3), (205, .return_, 1)]
set_option maxRecDepth 20000 in
theorem me_X11_init : zdecs cX11_init md_X11_init := by
  unfold zdecs md_X11_init
  decide +kernel
def md_X11_feed : List (Nat × Instr × Nat) := [(0, .aload_n 0, 1), (1, .getfield 10, 3), (4, .getfield 99, 3), (7, .bipush 20, 2), (9, .iadd, 1), (10, .sipush 940, 3), (13, .if_icmp .le 5, 3), (16, .iconst (-1), 1), (17, .ireturn, 1), (18, .aload_n 0, 1), (19, .getfield 10, 3), (22, .iload_n 1, 1), (23, .invokevirtual 103, 3), (26, .aload_n 0, 1), (27, .getfield 10, 3), (30, .iload_n 2, 1), (31, .invokevirtual 103, 3), (34, .aload_n 0, 1), (35, .getfield 10, 3), (38, .iload_n 3, 1), (39, .invokevirtual 103, 3), (42, .aload_n 0, 1), (43, .getfield 10, 3), (46, .iload 4, 2), (48, .invokevirtual 103, 3), (51, .aload_n 0, 1), (52, .getfield 10, 3), (55, .iload 5, 2), (57, .invokevirtual 103, 3), (60, .aload_n 0, 1), (61, .getfield 10, 3), (64, .getfield 99, 3), (67, .ireturn, 1)]
set_option maxRecDepth 20000 in
theorem me_X11_feed : zdecs cX11_feed md_X11_feed := by
  unfold zdecs md_X11_feed
  decide +kernel
def md_X11_end : List (Nat × Instr × Nat) := [(0, .iload_n 1, 1), (1, .ifCond .lt 14, 3), (4, .iload_n 1, 1), (5, .aload_n 0, 1), (6, .getfield 10, 3), (9, .getfield 99, 3), (12, .if_icmp .le 5, 3), (15, .iconst 0, 1), (16, .ireturn, 1), (17, .aload_n 0, 1), (18, .getfield 10, 3), (21, .iload_n 1, 1), (22, .putfield 99, 3), (25, .iconst 1, 1), (26, .ireturn, 1)]
set_option maxRecDepth 20000 in
theorem me_X11_end : zdecs cX11_end md_X11_end := by
  unfold zdecs md_X11_end
  decide +kernel
def md_X11_room : List (Nat × Instr × Nat) := [(0, .aload_n 0, 1), (1, .getfield 23, 3), (4, .aload_n 0, 1), (5, .getfield 10, 3), (8, .invokevirtual 107, 3), (11, .istore_n 1, 1), (12, .aload_n 0, 1), (13, .getfield 10, 3), (16, .iconst 0, 1), (17, .putfield 99, 3), (20, .aload_n 0, 1), (21, .getfield 10, 3), (24, .getfield 111, 3), (27, .ifCond .eq 13, 3), (30, .iconst (-1), 1), (31, .aload_n 0, 1), (32, .getfield 10, 3), (35, .getfield 114, 3), (38, .isub, 1), (39, .ireturn, 1), (40, .aload_n 0, 1), (41, .getfield 19, 3), (44, .aload_n 0, 1), (45, .getfield 23, 3), (48, .invokevirtual 117, 3), (51, .aload_n 0, 1), (52, .getfield 31, 3), (55, .invokevirtual 120, 3), (58, .aload_n 0, 1), (59, .getfield 41, 3), (62, .invokevirtual 123, 3), (65, .aload_n 0, 1), (66, .getfield 58, 3), (69, .invokevirtual 126, 3), (72, .iload_n 1, 1), (73, .ireturn, 1)]
set_option maxRecDepth 20000 in
theorem me_X11_room : zdecs cX11_room md_X11_room := by
  unfold zdecs md_X11_room
  decide +kernel
def md_X11_fault : List (Nat × Instr × Nat) := [(0, .aload_n 0, 1), (1, .getfield 10, 3), (4, .getfield 111, 3), (7, .ireturn, 1)]
set_option maxRecDepth 20000 in
theorem me_X11_fault : zdecs cX11_fault md_X11_fault := by
  unfold zdecs md_X11_fault
  decide +kernel
def md_X11_bath : List (Nat × Instr × Nat) := [(0, .aload_n 0, 1), (1, .getfield 19, 3), (4, .iload_n 1, 1), (5, .invokevirtual 129, 3), (8, .ifCond .ne 5, 3), (11, .iconst (-1), 1), (12, .ireturn, 1), (13, .iload_n 2, 1), (14, .tableswitch 102 0 5 #[38, 48, 58, 67, 76, 93], 38), (52, .aload_n 0, 1), (53, .getfield 19, 3), (56, .getfield 133, 3), (59, .iload_n 1, 1), (60, .iaload, 1), (61, .ireturn, 1), (62, .aload_n 0, 1), (63, .getfield 19, 3), (66, .getfield 137, 3), (69, .iload_n 1, 1), (70, .iaload, 1), (71, .ireturn, 1), (72, .aload_n 0, 1), (73, .getfield 31, 3), (76, .iload_n 1, 1), (77, .invokevirtual 140, 3), (80, .ireturn, 1), (81, .aload_n 0, 1), (82, .getfield 31, 3), (85, .iload_n 1, 1), (86, .invokevirtual 144, 3), (89, .ireturn, 1), (90, .aload_n 0, 1), (91, .getfield 31, 3), (94, .iload_n 1, 1), (95, .invokevirtual 147, 3), (98, .ifCond .eq 7, 3), (101, .iconst 1, 1), (102, .goto 4, 3), (105, .iconst 0, 1), (106, .ireturn, 1), (107, .aload_n 0, 1), (108, .getfield 31, 3), (111, .iload_n 1, 1), (112, .invokevirtual 150, 3), (115, .ireturn, 1), (116, .iconst (-1), 1), (117, .ireturn, 1)]
set_option maxRecDepth 20000 in
theorem me_X11_bath : zdecs cX11_bath md_X11_bath := by
  unfold zdecs md_X11_bath
  decide +kernel
def md_X11_asks : List (Nat × Instr × Nat) := [(0, .aload_n 0, 1), (1, .getfield 19, 3), (4, .iload_n 1, 1), (5, .invokevirtual 153, 3), (8, .ifCond .eq 26, 3), (11, .aload_n 0, 1), (12, .getfield 19, 3), (15, .iload_n 2, 1), (16, .invokevirtual 129, 3), (19, .ifCond .eq 15, 3), (22, .aload_n 0, 1), (23, .getfield 19, 3), (26, .iload_n 1, 1), (27, .iload_n 2, 1), (28, .invokevirtual 156, 3), (31, .goto 4, 3), (34, .iconst (-1), 1), (35, .ireturn, 1)]
set_option maxRecDepth 20000 in
theorem me_X11_asks : zdecs cX11_asks md_X11_asks := by
  unfold zdecs md_X11_asks
  decide +kernel
def md_X11_sheet : List (Nat × Instr × Nat) := [(0, .aload_n 0, 1), (1, .getfield 19, 3), (4, .iload_n 1, 1), (5, .invokevirtual 160, 3), (8, .ifCond .eq 13, 3), (11, .iload_n 2, 1), (12, .ifCond .lt 9, 3), (15, .iload_n 2, 1), (16, .bipush 6, 2), (18, .if_icmp .le 11, 3), (21, .new 163, 3), (24, .dup, 1), (25, .invokespecial 165, 3), (28, .athrow, 1), (29, .iload_n 2, 1), (30, .ifCond .ne 15, 3), (33, .aload_n 0, 1), (34, .getfield 19, 3), (37, .getfield 166, 3), (40, .iload_n 1, 1), (41, .iaload, 1), (42, .goto 12, 3), (45, .aload_n 0, 1), (46, .getfield 31, 3), (49, .iload_n 1, 1), (50, .iload_n 2, 1), (51, .invokevirtual 169, 3), (54, .ireturn, 1)]
set_option maxRecDepth 20000 in
theorem me_X11_sheet : zdecs cX11_sheet md_X11_sheet := by
  unfold zdecs md_X11_sheet
  decide +kernel
def md_X11_now : List (Nat × Instr × Nat) := [(0, .iload_n 1, 1), (1, .tableswitch 115 0 7 #[47, 55, 64, 73, 82, 91, 99, 107], 47), (48, .aload_n 0, 1), (49, .getfield 31, 3), (52, .invokevirtual 172, 3), (55, .ireturn, 1), (56, .aload_n 0, 1), (57, .getfield 31, 3), (60, .iconst 0, 1), (61, .invokevirtual 176, 3), (64, .ireturn, 1), (65, .aload_n 0, 1), (66, .getfield 31, 3), (69, .iconst 1, 1), (70, .invokevirtual 176, 3), (73, .ireturn, 1), (74, .aload_n 0, 1), (75, .getfield 31, 3), (78, .iconst 2, 1), (79, .invokevirtual 176, 3), (82, .ireturn, 1), (83, .aload_n 0, 1), (84, .getfield 31, 3), (87, .iconst 3, 1), (88, .invokevirtual 176, 3), (91, .ireturn, 1), (92, .aload_n 0, 1), (93, .getfield 31, 3), (96, .invokevirtual 179, 3), (99, .ireturn, 1), (100, .aload_n 0, 1), (101, .getfield 31, 3), (104, .invokevirtual 182, 3), (107, .ireturn, 1), (108, .aload_n 0, 1), (109, .getfield 31, 3), (112, .invokevirtual 185, 3), (115, .ireturn, 1), (116, .iconst (-1), 1), (117, .ireturn, 1)]
set_option maxRecDepth 20000 in
theorem me_X11_now : zdecs cX11_now md_X11_now := by
  unfold zdecs md_X11_now
  decide +kernel
def md_X11_start : List (Nat × Instr × Nat) := [(0, .aload_n 0, 1), (1, .getfield 58, 3), (4, .aload_n 0, 1), (5, .getfield 31, 3), (8, .invokevirtual 188, 3), (11, .aload_n 0, 1), (12, .aload_n 0, 1), (13, .getfield 31, 3), (16, .iload_n 1, 1), (17, .invokevirtual 192, 3), (20, .invokevirtual 195, 3), (23, .ireturn, 1)]
set_option maxRecDepth 20000 in
theorem me_X11_start : zdecs cX11_start md_X11_start := by
  unfold zdecs md_X11_start
  decide +kernel
def md_X11_take : List (Nat × Instr × Nat) := [(0, .aload_n 0, 1), (1, .getfield 58, 3), (4, .aload_n 0, 1), (5, .getfield 31, 3), (8, .invokevirtual 188, 3), (11, .aload_n 0, 1), (12, .aload_n 0, 1), (13, .getfield 31, 3), (16, .iload_n 1, 1), (17, .invokevirtual 198, 3), (20, .invokevirtual 195, 3), (23, .ireturn, 1)]
set_option maxRecDepth 20000 in
theorem me_X11_take : zdecs cX11_take md_X11_take := by
  unfold zdecs md_X11_take
  decide +kernel
def md_X11_again : List (Nat × Instr × Nat) := [(0, .aload_n 0, 1), (1, .getfield 58, 3), (4, .aload_n 0, 1), (5, .getfield 31, 3), (8, .invokevirtual 188, 3), (11, .aload_n 0, 1), (12, .aload_n 0, 1), (13, .getfield 31, 3), (16, .iload_n 1, 1), (17, .invokevirtual 201, 3), (20, .invokevirtual 195, 3), (23, .ireturn, 1)]
set_option maxRecDepth 20000 in
theorem me_X11_again : zdecs cX11_again md_X11_again := by
  unfold zdecs md_X11_again
  decide +kernel
def md_X11_renew : List (Nat × Instr × Nat) := [(0, .aload_n 0, 1), (1, .getfield 58, 3), (4, .aload_n 0, 1), (5, .getfield 31, 3), (8, .invokevirtual 188, 3), (11, .aload_n 0, 1), (12, .aload_n 0, 1), (13, .getfield 31, 3), (16, .iload_n 1, 1), (17, .invokevirtual 204, 3), (20, .invokevirtual 195, 3), (23, .ireturn, 1)]
set_option maxRecDepth 20000 in
theorem me_X11_renew : zdecs cX11_renew md_X11_renew := by
  unfold zdecs md_X11_renew
  decide +kernel
def md_X11_keptIfDone : List (Nat × Instr × Nat) := [(0, .iload_n 1, 1), (1, .ifCond .ne 10, 3), (4, .aload_n 0, 1), (5, .getfield 58, 3), (8, .invokevirtual 207, 3), (11, .iload_n 1, 1), (12, .ireturn, 1)]
set_option maxRecDepth 20000 in
theorem me_X11_keptIfDone : zdecs cX11_keptIfDone md_X11_keptIfDone := by
  unfold zdecs md_X11_keptIfDone
  decide +kernel
def md_X11_minutes : List (Nat × Instr × Nat) := [(0, .iload_n 1, 1), (1, .iconst 1, 1), (2, .if_icmp .lt 9, 3), (5, .iload_n 1, 1), (6, .bipush 60, 2), (8, .if_icmp .le 5, 3), (11, .iconst (-1), 1), (12, .ireturn, 1), (13, .aload_n 0, 1), (14, .getfield 58, 3), (17, .aload_n 0, 1), (18, .getfield 31, 3), (21, .invokevirtual 188, 3), (24, .iload_n 1, 1), (25, .sipush 1000, 3), (28, .aload_n 0, 1), (29, .getfield 31, 3), (32, .invokevirtual 172, 3), (35, .isub, 1), (36, .invokestatic 210, 3), (39, .istore_n 2, 1), (40, .aload_n 0, 1), (41, .getfield 31, 3), (44, .iload_n 2, 1), (45, .invokevirtual 215, 3), (48, .aload_n 0, 1), (49, .iload_n 2, 1), (50, .invokevirtual 218, 3), (53, .ireturn, 1)]
set_option maxRecDepth 20000 in
theorem me_X11_minutes : zdecs cX11_minutes md_X11_minutes := by
  unfold zdecs md_X11_minutes
  decide +kernel
def md_X11_keptIfAny : List (Nat × Instr × Nat) := [(0, .iload_n 1, 1), (1, .ifCond .le 10, 3), (4, .aload_n 0, 1), (5, .getfield 58, 3), (8, .invokevirtual 207, 3), (11, .iload_n 1, 1), (12, .ireturn, 1)]
set_option maxRecDepth 20000 in
theorem me_X11_keptIfAny : zdecs cX11_keptIfAny md_X11_keptIfAny := by
  unfold zdecs md_X11_keptIfAny
  decide +kernel
def md_X11_undo : List (Nat × Instr × Nat) := [(0, .aload_n 0, 1), (1, .getfield 58, 3), (4, .aload_n 0, 1), (5, .getfield 31, 3), (8, .invokevirtual 221, 3), (11, .ireturn, 1)]
set_option maxRecDepth 20000 in
theorem me_X11_undo : zdecs cX11_undo md_X11_undo := by
  unfold zdecs md_X11_undo
  decide +kernel
def md_X11_when : List (Nat × Instr × Nat) := [(0, .aload_n 0, 1), (1, .getfield 67, 3), (4, .iload_n 1, 1), (5, .invokevirtual 225, 3), (8, .ireturn, 1)]
set_option maxRecDepth 20000 in
theorem me_X11_when : zdecs cX11_when md_X11_when := by
  unfold zdecs md_X11_when
  decide +kernel
def md_X11_clear : List (Nat × Instr × Nat) := [(0, .aload_n 0, 1), (1, .getfield 31, 3), (4, .iload_n 1, 1), (5, .invokevirtual 228, 3), (8, .ifCond .ne 18, 3), (11, .aload_n 0, 1), (12, .getfield 67, 3), (15, .aload_n 0, 1), (16, .getfield 31, 3), (19, .iload_n 1, 1), (20, .invokevirtual 231, 3), (23, .goto 4, 3), (26, .iconst (-1), 1), (27, .ireturn, 1)]
set_option maxRecDepth 20000 in
theorem me_X11_clear : zdecs cX11_clear md_X11_clear := by
  unfold zdecs md_X11_clear
  decide +kernel
def md_X11_order : List (Nat × Instr × Nat) := [(0, .aload_n 0, 1), (1, .getfield 67, 3), (4, .aload_n 0, 1), (5, .getfield 10, 3), (8, .invokevirtual 235, 3), (11, .istore_n 1, 1), (12, .aload_n 0, 1), (13, .getfield 10, 3), (16, .iconst 0, 1), (17, .putfield 99, 3), (20, .iload_n 1, 1), (21, .ifCond .eq 13, 3), (24, .aload_n 0, 1), (25, .getfield 67, 3), (28, .invokevirtual 239, 3), (31, .goto 4, 3), (34, .iconst (-1), 1), (35, .ireturn, 1)]
set_option maxRecDepth 20000 in
theorem me_X11_order : zdecs cX11_order md_X11_order := by
  unfold zdecs md_X11_order
  decide +kernel
def md_X11_orderAt : List (Nat × Instr × Nat) := [(0, .iload_n 1, 1), (1, .ifCond .lt 26, 3), (4, .iload_n 1, 1), (5, .aload_n 0, 1), (6, .getfield 67, 3), (9, .getfield 242, 3), (12, .if_icmp .ge 15, 3), (15, .aload_n 0, 1), (16, .getfield 67, 3), (19, .getfield 245, 3), (22, .iload_n 1, 1), (23, .iaload, 1), (24, .goto 4, 3), (27, .iconst (-1), 1), (28, .ireturn, 1)]
set_option maxRecDepth 20000 in
theorem me_X11_orderAt : zdecs cX11_orderAt md_X11_orderAt := by
  unfold zdecs md_X11_orderAt
  decide +kernel
def md_X11_orderWhen : List (Nat × Instr × Nat) := [(0, .iload_n 1, 1), (1, .ifCond .lt 26, 3), (4, .iload_n 1, 1), (5, .aload_n 0, 1), (6, .getfield 67, 3), (9, .getfield 242, 3), (12, .if_icmp .ge 15, 3), (15, .aload_n 0, 1), (16, .getfield 67, 3), (19, .getfield 248, 3), (22, .iload_n 1, 1), (23, .iaload, 1), (24, .goto 4, 3), (27, .iconst (-1), 1), (28, .ireturn, 1)]
set_option maxRecDepth 20000 in
theorem me_X11_orderWhen : zdecs cX11_orderWhen md_X11_orderWhen := by
  unfold zdecs md_X11_orderWhen
  decide +kernel
def md_X11_jam : List (Nat × Instr × Nat) := [(0, .aload_n 0, 1), (1, .getfield 31, 3), (4, .invokevirtual 251, 3), (7, .ireturn, 1)]
set_option maxRecDepth 20000 in
theorem me_X11_jam : zdecs cX11_jam md_X11_jam := by
  unfold zdecs md_X11_jam
  decide +kernel
def md_X11_who : List (Nat × Instr × Nat) := [(0, .aload_n 0, 1), (1, .getfield 74, 3), (4, .aload_n 0, 1), (5, .getfield 10, 3), (8, .invokevirtual 254, 3), (11, .istore_n 1, 1), (12, .aload_n 0, 1), (13, .getfield 10, 3), (16, .iconst 0, 1), (17, .putfield 99, 3), (20, .iload_n 1, 1), (21, .ifCond .le 11, 3), (24, .aload_n 0, 1), (25, .getfield 74, 3), (28, .iload_n 1, 1), (29, .invokevirtual 257, 3), (32, .iload_n 1, 1), (33, .ireturn, 1)]
set_option maxRecDepth 20000 in
theorem me_X11_who : zdecs cX11_who md_X11_who := by
  unfold zdecs md_X11_who
  decide +kernel
def md_X11_ask : List (Nat × Instr × Nat) := [(0, .aload_n 0, 1), (1, .getfield 74, 3), (4, .getfield 260, 3), (7, .ireturn, 1)]
set_option maxRecDepth 20000 in
theorem me_X11_ask : zdecs cX11_ask md_X11_ask := by
  unfold zdecs md_X11_ask
  decide +kernel
def md_X11_near : List (Nat × Instr × Nat) := [(0, .aload_n 0, 1), (1, .getfield 74, 3), (4, .iload_n 1, 1), (5, .invokevirtual 263, 3), (8, .ireturn, 1)]
set_option maxRecDepth 20000 in
theorem me_X11_near : zdecs cX11_near md_X11_near := by
  unfold zdecs md_X11_near
  decide +kernel
def md_X11_through : List (Nat × Instr × Nat) := [(0, .aload_n 0, 1), (1, .getfield 74, 3), (4, .iload_n 1, 1), (5, .invokevirtual 266, 3), (8, .ireturn, 1)]
set_option maxRecDepth 20000 in
theorem me_X11_through : zdecs cX11_through md_X11_through := by
  unfold zdecs md_X11_through
  decide +kernel
def md_X11_gap : List (Nat × Instr × Nat) := [(0, .aload_n 0, 1), (1, .getfield 19, 3), (4, .iload_n 1, 1), (5, .invokevirtual 153, 3), (8, .ifCond .eq 26, 3), (11, .aload_n 0, 1), (12, .getfield 19, 3), (15, .iload_n 2, 1), (16, .invokevirtual 153, 3), (19, .ifCond .eq 15, 3), (22, .aload_n 0, 1), (23, .getfield 74, 3), (26, .iload_n 1, 1), (27, .iload_n 2, 1), (28, .invokevirtual 269, 3), (31, .goto 4, 3), (34, .iconst (-1), 1), (35, .ireturn, 1)]
set_option maxRecDepth 20000 in
theorem me_X11_gap : zdecs cX11_gap md_X11_gap := by
  unfold zdecs md_X11_gap
  decide +kernel
def md_X11_chain : List (Nat × Instr × Nat) := [(0, .aload_n 0, 1), (1, .getfield 74, 3), (4, .invokevirtual 272, 3), (7, .ireturn, 1)]
set_option maxRecDepth 20000 in
theorem me_X11_chain : zdecs cX11_chain md_X11_chain := by
  unfold zdecs md_X11_chain
  decide +kernel
def md_X11_chainAt : List (Nat × Instr × Nat) := [(0, .iload_n 1, 1), (1, .ifCond .lt 26, 3), (4, .iload_n 1, 1), (5, .aload_n 0, 1), (6, .getfield 74, 3), (9, .getfield 275, 3), (12, .if_icmp .ge 15, 3), (15, .aload_n 0, 1), (16, .getfield 74, 3), (19, .getfield 278, 3), (22, .iload_n 1, 1), (23, .iaload, 1), (24, .goto 4, 3), (27, .iconst (-1), 1), (28, .ireturn, 1)]
set_option maxRecDepth 20000 in
theorem me_X11_chainAt : zdecs cX11_chainAt md_X11_chainAt := by
  unfold zdecs md_X11_chainAt
  decide +kernel
def md_X11_load : List (Nat × Instr × Nat) := [(0, .aload_n 0, 1), (1, .getfield 19, 3), (4, .iload_n 1, 1), (5, .invokevirtual 129, 3), (8, .ifCond .eq 14, 3), (11, .iload_n 2, 1), (12, .ifCond .lt 10, 3), (15, .iload_n 2, 1), (16, .sipush 200, 3), (19, .if_icmp .le 5, 3), (22, .iconst (-1), 1), (23, .ireturn, 1), (24, .aload_n 0, 1), (25, .getfield 35, 3), (28, .aload_n 0, 1), (29, .getfield 31, 3), (32, .invokevirtual 281, 3), (35, .aload_n 0, 1), (36, .getfield 35, 3), (39, .iload_n 2, 1), (40, .invokevirtual 215, 3), (43, .aload_n 0, 1), (44, .getfield 35, 3), (47, .iload_n 1, 1), (48, .invokevirtual 144, 3), (51, .ireturn, 1)]
set_option maxRecDepth 20000 in
theorem me_X11_load : zdecs cX11_load md_X11_load := by
  unfold zdecs md_X11_load
  decide +kernel
def md_X11_block : List (Nat × Instr × Nat) := [(0, .aload_n 0, 1), (1, .getfield 31, 3), (4, .iload_n 1, 1), (5, .invokevirtual 283, 3), (8, .ifCond .ne 5, 3), (11, .iconst (-1), 1), (12, .ireturn, 1), (13, .aload_n 0, 1), (14, .getfield 31, 3), (17, .aload_n 0, 1), (18, .getfield 19, 3), (21, .iload_n 1, 1), (22, .aload_n 0, 1), (23, .getfield 31, 3), (26, .iload_n 1, 1), (27, .invokevirtual 286, 3), (30, .invokevirtual 289, 3), (33, .invokevirtual 144, 3), (36, .ireturn, 1)]
set_option maxRecDepth 20000 in
theorem me_X11_block : zdecs cX11_block md_X11_block := by
  unfold zdecs md_X11_block
  decide +kernel
def md_X11_wear : List (Nat × Instr × Nat) := [(0, .aload_n 0, 1), (1, .getfield 19, 3), (4, .iload_n 1, 1), (5, .invokevirtual 129, 3), (8, .ifCond .eq 12, 3), (11, .iload_n 2, 1), (12, .ifCond .lt 8, 3), (15, .iload_n 2, 1), (16, .iconst 1, 1), (17, .if_icmp .le 11, 3), (20, .new 163, 3), (23, .dup, 1), (24, .invokespecial 165, 3), (27, .athrow, 1), (28, .aload_n 0, 1), (29, .getfield 31, 3), (32, .iload_n 1, 1), (33, .invokevirtual 140, 3), (36, .aload_n 0, 1), (37, .getfield 19, 3), (40, .getfield 137, 3), (43, .iload_n 1, 1), (44, .iaload, 1), (45, .iload_n 2, 1), (46, .invokestatic 292, 3), (49, .ireturn, 1)]
set_option maxRecDepth 20000 in
theorem me_X11_wear : zdecs cX11_wear md_X11_wear := by
  unfold zdecs md_X11_wear
  decide +kernel
def md_X11_mean : List (Nat × Instr × Nat) := [(0, .aload_n 0, 1), (1, .getfield 19, 3), (4, .getfield 296, 3), (7, .ifCond .eq 12, 3), (10, .iload_n 1, 1), (11, .ifCond .lt 8, 3), (14, .iload_n 1, 1), (15, .iconst 1, 1), (16, .if_icmp .le 11, 3), (19, .new 163, 3), (22, .dup, 1), (23, .invokespecial 165, 3), (26, .athrow, 1), (27, .aload_n 0, 1), (28, .getfield 31, 3), (31, .invokevirtual 299, 3), (34, .aload_n 0, 1), (35, .getfield 19, 3), (38, .getfield 296, 3), (41, .iload_n 1, 1), (42, .invokestatic 292, 3), (45, .ireturn, 1)]
set_option maxRecDepth 20000 in
theorem me_X11_mean : zdecs cX11_mean md_X11_mean := by
  unfold zdecs md_X11_mean
  decide +kernel
def md_X11_often : List (Nat × Instr × Nat) := [(0, .aload_n 0, 1), (1, .getfield 31, 3), (4, .invokevirtual 302, 3), (7, .ireturn, 1)]
set_option maxRecDepth 20000 in
theorem me_X11_often : zdecs cX11_often md_X11_often := by
  unfold zdecs md_X11_often
  decide +kernel
def md_X11_tag : List (Nat × Instr × Nat) := [(0, .aload_n 0, 1), (1, .getfield 19, 3), (4, .iload_n 1, 1), (5, .invokevirtual 160, 3), (8, .ifCond .ne 5, 3), (11, .iconst (-1), 1), (12, .ireturn, 1), (13, .aload_n 0, 1), (14, .getfield 88, 3), (17, .aload_n 0, 1), (18, .getfield 19, 3), (21, .aload_n 0, 1), (22, .getfield 31, 3), (25, .iload_n 1, 1), (26, .invokevirtual 305, 3), (29, .aload_n 0, 1), (30, .getfield 88, 3), (33, .getfield 309, 3), (36, .ireturn, 1)]
set_option maxRecDepth 20000 in
theorem me_X11_tag : zdecs cX11_tag md_X11_tag := by
  unfold zdecs md_X11_tag
  decide +kernel
def md_X11_byteAt : List (Nat × Instr × Nat) := [(0, .iload_n 1, 1), (1, .ifCond .lt 26, 3), (4, .iload_n 1, 1), (5, .aload_n 0, 1), (6, .getfield 88, 3), (9, .getfield 309, 3), (12, .if_icmp .ge 15, 3), (15, .aload_n 0, 1), (16, .getfield 88, 3), (19, .getfield 310, 3), (22, .iload_n 1, 1), (23, .iaload, 1), (24, .goto 4, 3), (27, .iconst (-1), 1), (28, .ireturn, 1)]
set_option maxRecDepth 20000 in
theorem me_X11_byteAt : zdecs cX11_byteAt md_X11_byteAt := by
  unfold zdecs md_X11_byteAt
  decide +kernel
def md_X11_drawn : List (Nat × Instr × Nat) := [(0, .iload_n 1, 1), (1, .iconst 1, 1), (2, .if_icmp .lt 9, 3), (5, .iload_n 1, 1), (6, .bipush 60, 2), (8, .if_icmp .le 5, 3), (11, .iconst (-1), 1), (12, .ireturn, 1), (13, .aload_n 0, 1), (14, .getfield 58, 3), (17, .aload_n 0, 1), (18, .getfield 31, 3), (21, .invokevirtual 188, 3), (24, .aload_n 0, 1), (25, .aload_n 0, 1), (26, .getfield 81, 3), (29, .aload_n 0, 1), (30, .getfield 31, 3), (33, .iload_n 1, 1), (34, .iload_n 2, 1), (35, .invokevirtual 313, 3), (38, .invokevirtual 218, 3), (41, .ireturn, 1)]
set_option maxRecDepth 20000 in
theorem me_X11_drawn : zdecs cX11_drawn md_X11_drawn := by
  unfold zdecs md_X11_drawn
  decide +kernel
def md_X11_odds : List (Nat × Instr × Nat) := [(0, .aload_n 0, 1), (1, .getfield 19, 3), (4, .iload_n 1, 1), (5, .invokevirtual 160, 3), (8, .ifCond .eq 14, 3), (11, .iload_n 2, 1), (12, .iconst 1, 1), (13, .if_icmp .lt 9, 3), (16, .iload_n 2, 1), (17, .bipush 30, 2), (19, .if_icmp .le 5, 3), (22, .iconst (-1), 1), (23, .ireturn, 1), (24, .iconst 0, 1), (25, .istore 4, 2), (27, .iconst 0, 1), (28, .istore 5, 2), (30, .iload 5, 2), (32, .iload_n 2, 1), (33, .if_icmp .ge 53, 3), (36, .aload_n 0, 1), (37, .getfield 35, 3), (40, .aload_n 0, 1), (41, .getfield 31, 3), (44, .invokevirtual 281, 3), (47, .aload_n 0, 1), (48, .getfield 81, 3), (51, .aload_n 0, 1), (52, .getfield 35, 3), (55, .bipush 40, 2), (57, .iload_n 3, 1), (58, .iload 5, 2), (60, .iadd, 1), (61, .invokevirtual 313, 3), (64, .pop, 1), (65, .aload_n 0, 1), (66, .getfield 35, 3), (69, .iload_n 1, 1), (70, .invokevirtual 228, 3), (73, .iconst 2, 1), (74, .if_icmp .ne 6, 3), (77, .iinc 4 1, 3), (80, .iinc 5 1, 3), (83, .goto (-53), 3), (86, .iload 4, 2), (88, .ireturn, 1)]
set_option maxRecDepth 20000 in
theorem me_X11_odds : zdecs cX11_odds md_X11_odds := by
  unfold zdecs md_X11_odds
  decide +kernel
def md_X11_book : List (Nat × Instr × Nat) := [(0, .iload_n 1, 1), (1, .ifCond .eq 12, 3), (4, .iload_n 1, 1), (5, .iconst 1, 1), (6, .if_icmp .eq 7, 3), (9, .sipush (-1000), 3), (12, .ireturn, 1), (13, .aload_n 0, 1), (14, .getfield 51, 3), (17, .aload_n 0, 1), (18, .getfield 10, 3), (21, .aload_n 0, 1), (22, .getfield 19, 3), (25, .invokevirtual 317, 3), (28, .istore_n 2, 1), (29, .aload_n 0, 1), (30, .getfield 10, 3), (33, .iconst 0, 1), (34, .putfield 99, 3), (37, .iload_n 2, 1), (38, .ifCond .ne 14, 3), (41, .bipush (-2), 2), (43, .aload_n 0, 1), (44, .getfield 10, 3), (47, .getfield 114, 3), (50, .isub, 1), (51, .ireturn, 1), (52, .aload_n 0, 1), (53, .getfield 35, 3), (56, .aload_n 0, 1), (57, .getfield 31, 3), (60, .invokevirtual 281, 3), (63, .aload_n 0, 1), (64, .getfield 51, 3), (67, .aload_n 0, 1), (68, .getfield 35, 3), (71, .invokevirtual 320, 3), (74, .iload_n 1, 1), (75, .iconst 1, 1), (76, .if_icmp .ne 42, 3), (79, .aload_n 0, 1), (80, .getfield 51, 3), (83, .getfield 323, 3), (86, .ifCond .le 32, 3), (89, .aload_n 0, 1), (90, .getfield 58, 3), (93, .aload_n 0, 1), (94, .getfield 31, 3), (97, .invokevirtual 188, 3), (100, .aload_n 0, 1), (101, .getfield 58, 3), (104, .invokevirtual 207, 3), (107, .aload_n 0, 1), (108, .getfield 31, 3), (111, .aload_n 0, 1), (112, .getfield 35, 3), (115, .invokevirtual 281, 3), (118, .aload_n 0, 1), (119, .getfield 51, 3), (122, .getfield 326, 3), (125, .ifCond .ne 7, 3), (128, .iconst (-1), 1), (129, .goto 10, 3), (132, .aload_n 0, 1), (133, .getfield 51, 3), (136, .getfield 323, 3), (139, .ireturn, 1)]
set_option maxRecDepth 20000 in
theorem me_X11_book : zdecs cX11_book md_X11_book := by
  unfold zdecs md_X11_book
  decide +kernel
def md_X11_told : List (Nat × Instr × Nat) := [(0, .aload_n 0, 1), (1, .getfield 51, 3), (4, .iload_n 1, 1), (5, .invokevirtual 329, 3), (8, .ireturn, 1)]
set_option maxRecDepth 20000 in
theorem me_X11_told : zdecs cX11_told md_X11_told := by
  unfold zdecs md_X11_told
  decide +kernel
def md_X11_sentence : List (Nat × Instr × Nat) := [(0, .aload_n 0, 1), (1, .getfield 45, 3), (4, .aload_n 0, 1), (5, .getfield 10, 3), (8, .aload_n 0, 1), (9, .getfield 19, 3), (12, .invokevirtual 332, 3), (15, .istore_n 1, 1), (16, .aload_n 0, 1), (17, .getfield 10, 3), (20, .iconst 0, 1), (21, .putfield 99, 3), (24, .iload_n 1, 1), (25, .ifCond .ne 13, 3), (28, .iconst (-1), 1), (29, .aload_n 0, 1), (30, .getfield 10, 3), (33, .getfield 114, 3), (36, .isub, 1), (37, .ireturn, 1), (38, .aload_n 0, 1), (39, .getfield 41, 3), (42, .aload_n 0, 1), (43, .getfield 45, 3), (46, .invokevirtual 335, 3), (49, .aload_n 0, 1), (50, .getfield 41, 3), (53, .getfield 338, 3), (56, .ireturn, 1)]
set_option maxRecDepth 20000 in
theorem me_X11_sentence : zdecs cX11_sentence md_X11_sentence := by
  unfold zdecs md_X11_sentence
  decide +kernel
def md_X11_said : List (Nat × Instr × Nat) := [(0, .aload_n 0, 1), (1, .getfield 41, 3), (4, .getfield 338, 3), (7, .ifCond .eq 8, 3), (10, .iload_n 1, 1), (11, .iconst (-1), 1), (12, .if_icmp .ge 5, 3), (15, .iconst (-1), 1), (16, .ireturn, 1), (17, .aload_n 0, 1), (18, .getfield 41, 3), (21, .aload_n 0, 1), (22, .getfield 19, 3), (25, .aload_n 0, 1), (26, .getfield 31, 3), (29, .invokevirtual 341, 3), (32, .istore_n 2, 1), (33, .iload_n 1, 1), (34, .iconst (-1), 1), (35, .if_icmp .ne 10, 3), (38, .iload_n 2, 1), (39, .invokestatic 345, 3), (42, .goto 8, 3), (45, .iload_n 2, 1), (46, .iload_n 1, 1), (47, .invokestatic 350, 3), (50, .ireturn, 1)]
set_option maxRecDepth 20000 in
theorem me_X11_said : zdecs cX11_said md_X11_said := by
  unfold zdecs md_X11_said
  decide +kernel
def md_X11_image : List (Nat × Instr × Nat) := [(0, .iload_n 1, 1), (1, .ifCond .lt 12, 3), (4, .iload_n 1, 1), (5, .aload_n 0, 1), (6, .getfield 94, 3), (9, .arraylength, 1), (10, .if_icmp .lt 5, 3), (13, .iconst 0, 1), (14, .ireturn, 1), (15, .aload_n 0, 1), (16, .getfield 94, 3), (19, .iload_n 1, 1), (20, .aaload, 1), (21, .aload_n 0, 1), (22, .getfield 19, 3), (25, .aload_n 0, 1), (26, .getfield 31, 3), (29, .aload_n 0, 1), (30, .getfield 41, 3), (33, .invokevirtual 353, 3), (36, .iconst 1, 1), (37, .ireturn, 1)]
set_option maxRecDepth 20000 in
theorem me_X11_image : zdecs cX11_image md_X11_image := by
  unfold zdecs md_X11_image
  decide +kernel
def md_X11_restore : List (Nat × Instr × Nat) := [(0, .iload_n 1, 1), (1, .ifCond .lt 24, 3), (4, .iload_n 1, 1), (5, .aload_n 0, 1), (6, .getfield 94, 3), (9, .arraylength, 1), (10, .if_icmp .ge 15, 3), (13, .aload_n 0, 1), (14, .getfield 94, 3), (17, .iload_n 1, 1), (18, .aaload, 1), (19, .getfield 357, 3), (22, .ifCond .ne 5, 3), (25, .iconst 0, 1), (26, .ireturn, 1), (27, .aload_n 0, 1), (28, .getfield 94, 3), (31, .iload_n 1, 1), (32, .aaload, 1), (33, .aload_n 0, 1), (34, .getfield 19, 3), (37, .aload_n 0, 1), (38, .getfield 31, 3), (41, .aload_n 0, 1), (42, .getfield 41, 3), (45, .invokevirtual 361, 3), (48, .aload_n 0, 1), (49, .getfield 58, 3), (52, .invokevirtual 126, 3), (55, .iconst 1, 1), (56, .ireturn, 1)]
set_option maxRecDepth 20000 in
theorem me_X11_restore : zdecs cX11_restore md_X11_restore := by
  unfold zdecs md_X11_restore
  decide +kernel
def md_X11_count : List (Nat × Instr × Nat) := [(0, .iload_n 1, 1), (1, .tableswitch 99 0 6 #[43, 51, 59, 67, 75, 83, 91], 43), (44, .aload_n 0, 1), (45, .getfield 19, 3), (48, .getfield 364, 3), (51, .ireturn, 1), (52, .aload_n 0, 1), (53, .getfield 19, 3), (56, .getfield 367, 3), (59, .ireturn, 1), (60, .aload_n 0, 1), (61, .getfield 19, 3), (64, .getfield 296, 3), (67, .ireturn, 1), (68, .aload_n 0, 1), (69, .getfield 19, 3), (72, .getfield 369, 3), (75, .ireturn, 1), (76, .aload_n 0, 1), (77, .getfield 19, 3), (80, .getfield 372, 3), (83, .ireturn, 1), (84, .aload_n 0, 1), (85, .getfield 19, 3), (88, .getfield 375, 3), (91, .ireturn, 1), (92, .aload_n 0, 1), (93, .getfield 10, 3), (96, .getfield 99, 3), (99, .ireturn, 1), (100, .iconst (-1), 1), (101, .ireturn, 1)]
set_option maxRecDepth 20000 in
theorem me_X11_count : zdecs cX11_count md_X11_count := by
  unfold zdecs md_X11_count
  decide +kernel
def md_X11_bitAt : List (Nat × Instr × Nat) := [(0, .iconst 0, 1), (1, .istore_n 2, 1), (2, .iconst 0, 1), (3, .istore_n 3, 1), (4, .iload_n 3, 1), (5, .bipush 8, 2), (7, .if_icmp .ge 27, 3), (10, .iload_n 0, 1), (11, .iload_n 3, 1), (12, .ishr, 1), (13, .iconst 1, 1), (14, .iand, 1), (15, .ifCond .eq 13, 3), (18, .iload_n 2, 1), (19, .iload_n 1, 1), (20, .if_icmp .ne 5, 3), (23, .iload_n 3, 1), (24, .ireturn, 1), (25, .iinc 2 1, 3), (28, .iinc 3 1, 3), (31, .goto (-27), 3), (34, .iconst (-1), 1), (35, .ireturn, 1)]
set_option maxRecDepth 20000 in
theorem me_X11_bitAt : zdecs cX11_bitAt md_X11_bitAt := by
  unfold zdecs md_X11_bitAt
  decide +kernel
def md_X11_inLeastTerms : List (Nat × Instr × Nat) := [(0, .iload_n 1, 1), (1, .istore_n 3, 1), (2, .iload_n 0, 1), (3, .istore 4, 2), (5, .iconst 0, 1), (6, .istore 5, 2), (8, .iload 5, 2), (10, .ldc_w 378, 3), (13, .if_icmp .ge 31, 3), (16, .iload 4, 2), (18, .ifCond .eq 26, 3), (21, .iload_n 3, 1), (22, .ifCond .eq 22, 3), (25, .iload_n 3, 1), (26, .iload 4, 2), (28, .irem, 1), (29, .istore 6, 2), (31, .iload 4, 2), (33, .istore_n 3, 1), (34, .iload 6, 2), (36, .istore 4, 2), (38, .iinc 5 1, 3), (41, .goto (-33), 3), (44, .iload_n 2, 1), (45, .ifCond .ne 7, 3), (48, .iload_n 0, 1), (49, .goto 4, 3), (52, .iload_n 1, 1), (53, .istore 5, 2), (55, .iload_n 3, 1), (56, .ifCond .ne 8, 3), (59, .iload 5, 2), (61, .goto 7, 3), (64, .iload 5, 2), (66, .iload_n 3, 1), (67, .idiv, 1), (68, .ireturn, 1)]
set_option maxRecDepth 20000 in
theorem me_X11_inLeastTerms : zdecs cX11_inLeastTerms md_X11_inLeastTerms := by
  unfold zdecs md_X11_inLeastTerms
  decide +kernel
def md_X11_makeNextRow : List (Nat × Instr × Nat) := [(0, .iload_n 1, 1), (1, .iconst 2, 1), (2, .isub, 1), (3, .istore_n 2, 1), (4, .iload_n 2, 1), (5, .ifCond .lt 20, 3), (8, .aload_n 0, 1), (9, .iload_n 2, 1), (10, .iaload, 1), (11, .aload_n 0, 1), (12, .iload_n 2, 1), (13, .iconst 1, 1), (14, .iadd, 1), (15, .iaload, 1), (16, .if_icmp .lt 9, 3), (19, .iinc 2 (-1), 3), (22, .goto (-18), 3), (25, .iload_n 2, 1), (26, .ifCond .ge 5, 3), (29, .iconst 0, 1), (30, .ireturn, 1), (31, .iload_n 1, 1), (32, .iconst 1, 1), (33, .isub, 1), (34, .istore_n 3, 1), (35, .iload_n 3, 1), (36, .iload_n 2, 1), (37, .if_icmp .le 18, 3), (40, .aload_n 0, 1), (41, .iload_n 3, 1), (42, .iaload, 1), (43, .aload_n 0, 1), (44, .iload_n 2, 1), (45, .iaload, 1), (46, .if_icmp .gt 9, 3), (49, .iinc 3 (-1), 3), (52, .goto (-17), 3), (55, .aload_n 0, 1), (56, .iload_n 2, 1), (57, .iload_n 3, 1), (58, .invokestatic 379, 3), (61, .iload_n 1, 1), (62, .iconst 1, 1), (63, .isub, 1), (64, .istore 4, 2), (66, .iload_n 2, 1), (67, .iconst 1, 1), (68, .iadd, 1), (69, .istore 5, 2), (71, .iload 5, 2), (73, .iload 4, 2), (75, .if_icmp .ge 20, 3), (78, .aload_n 0, 1), (79, .iload 5, 2), (81, .iload 4, 2), (83, .invokestatic 379, 3), (86, .iinc 4 (-1), 3), (89, .iinc 5 1, 3), (92, .goto (-21), 3), (95, .iconst 1, 1), (96, .ireturn, 1)]
set_option maxRecDepth 20000 in
theorem me_X11_makeNextRow : zdecs cX11_makeNextRow md_X11_makeNextRow := by
  unfold zdecs md_X11_makeNextRow
  decide +kernel
def md_X11_swap : List (Nat × Instr × Nat) := [(0, .aload_n 0, 1), (1, .iload_n 1, 1), (2, .iaload, 1), (3, .istore_n 3, 1), (4, .aload_n 0, 1), (5, .iload_n 1, 1), (6, .aload_n 0, 1), (7, .iload_n 2, 1), (8, .iaload, 1), (9, .iastore, 1), (10, .aload_n 0, 1), (11, .iload_n 2, 1), (12, .iload_n 3, 1), (13, .iastore, 1), (14, .return_, 1)]
set_option maxRecDepth 20000 in
theorem me_X11_swap : zdecs cX11_swap md_X11_swap := by
  unfold zdecs md_X11_swap
  decide +kernel
def md_X12_thrown : List (Nat × Instr × Nat) := [(0, .aload_n 0, 1), (1, .getfield 1, 3), (4, .ireturn, 1)]
set_option maxRecDepth 20000 in
theorem me_X12_thrown : zdecs cX12_thrown md_X12_thrown := by
  unfold zdecs md_X12_thrown
  decide +kernel
def md_X12_refuse : List (Nat × Instr × Nat) := [(0, .aload_n 0, 1), (1, .iconst 1, 1), (2, .putfield 1, 3), (5, .iconst 0, 1), (6, .ireturn, 1)]
set_option maxRecDepth 20000 in
theorem me_X12_refuse : zdecs cX12_refuse md_X12_refuse := by
  unfold zdecs md_X12_refuse
  decide +kernel
def md_X12_come : List (Nat × Instr × Nat) := [(0, .bipush 24, 2), (2, .istore_n 2, 1), (3, .iload_n 2, 1), (4, .ifCond .lt 35, 3), (7, .aload_n 0, 1), (8, .getfield 7, 3), (11, .aload_n 0, 1), (12, .getfield 11, 3), (15, .iload_n 1, 1), (16, .iload_n 2, 1), (17, .iushr, 1), (18, .sipush 255, 3), (21, .iand, 1), (22, .iastore, 1), (23, .aload_n 0, 1), (24, .dup, 1), (25, .getfield 11, 3), (28, .iconst 1, 1), (29, .iadd, 1), (30, .putfield 11, 3), (33, .iinc 2 (-8), 3), (36, .goto (-33), 3), (39, .return_, 1)]
set_option maxRecDepth 20000 in
theorem me_X12_come : zdecs cX12_come md_X12_come := by
  unfold zdecs md_X12_come
  decide +kernel
def md_X12_feed : List (Nat × Instr × Nat) := [(0, .aload_n 0, 1), (1, .iconst 0, 1), (2, .putfield 1, 3), (5, .aload_n 0, 1), (6, .getfield 11, 3), (9, .bipush 20, 2), (11, .iadd, 1), (12, .sipush 940, 3), (15, .if_icmp .le 5, 3), (18, .iconst (-1), 1), (19, .ireturn, 1), (20, .aload_n 0, 1), (21, .iload_n 1, 1), (22, .invokevirtual 14, 3), (25, .aload_n 0, 1), (26, .iload_n 2, 1), (27, .invokevirtual 14, 3), (30, .aload_n 0, 1), (31, .iload_n 3, 1), (32, .invokevirtual 14, 3), (35, .aload_n 0, 1), (36, .iload 4, 2), (38, .invokevirtual 14, 3), (41, .aload_n 0, 1), (42, .iload 5, 2), (44, .invokevirtual 14, 3), (47, .aload_n 0, 1), (48, .getfield 11, 3), (51, .ireturn, 1)]
set_option maxRecDepth 20000 in
theorem me_X12_feed : zdecs cX12_feed md_X12_feed := by
  unfold zdecs md_X12_feed
  decide +kernel
def md_X12_end : List (Nat × Instr × Nat) := [(0, .aload_n 0, 1), (1, .iconst 0, 1), (2, .putfield 1, 3), (5, .iload_n 1, 1), (6, .ifCond .lt 11, 3), (9, .iload_n 1, 1), (10, .aload_n 0, 1), (11, .getfield 11, 3), (14, .if_icmp .le 5, 3), (17, .iconst 0, 1), (18, .ireturn, 1), (19, .aload_n 0, 1), (20, .iload_n 1, 1), (21, .putfield 11, 3), (24, .iconst 1, 1), (25, .ireturn, 1)]
set_option maxRecDepth 20000 in
theorem me_X12_end : zdecs cX12_end md_X12_end := by
  unfold zdecs md_X12_end
  decide +kernel
def md_X12_take : List (Nat × Instr × Nat) := [(0, .aload_n 0, 1), (1, .getfield 11, 3), (4, .istore_n 1, 1), (5, .aload_n 0, 1), (6, .iconst 0, 1), (7, .putfield 11, 3), (10, .iload_n 1, 1), (11, .ireturn, 1)]
set_option maxRecDepth 20000 in
theorem me_X12_take : zdecs cX12_take md_X12_take := by
  unfold zdecs md_X12_take
  decide +kernel
def md_X12_isIn : List (Nat × Instr × Nat) := [(0, .iload_n 0, 1), (1, .iload_n 1, 1), (2, .if_icmp .lt 12, 3), (5, .iload_n 0, 1), (6, .iload_n 2, 1), (7, .if_icmp .gt 7, 3), (10, .iconst 1, 1), (11, .goto 4, 3), (14, .iconst 0, 1), (15, .ireturn, 1)]
set_option maxRecDepth 20000 in
theorem me_X12_isIn : zdecs cX12_isIn md_X12_isIn := by
  unfold zdecs md_X12_isIn
  decide +kernel
def md_X12_has : List (Nat × Instr × Nat) := [(0, .iload_n 0, 1), (1, .iload_n 1, 1), (2, .ishr, 1), (3, .iconst 1, 1), (4, .iand, 1), (5, .iconst 1, 1), (6, .if_icmp .ne 7, 3), (9, .iconst 1, 1), (10, .goto 4, 3), (13, .iconst 0, 1), (14, .ireturn, 1)]
set_option maxRecDepth 20000 in
theorem me_X12_has : zdecs cX12_has md_X12_has := by
  unfold zdecs md_X12_has
  decide +kernel
def md_X12_bits : List (Nat × Instr × Nat) := [(0, .iconst 0, 1), (1, .istore_n 1, 1), (2, .iload_n 0, 1), (3, .istore_n 2, 1), (4, .iload_n 2, 1), (5, .ifCond .eq 15, 3), (8, .iinc 1 1, 3), (11, .iload_n 2, 1), (12, .iload_n 2, 1), (13, .iconst 1, 1), (14, .isub, 1), (15, .iand, 1), (16, .istore_n 2, 1), (17, .goto (-13), 3), (20, .iload_n 1, 1), (21, .ireturn, 1)]
set_option maxRecDepth 20000 in
theorem me_X12_bits : zdecs cX12_bits md_X12_bits := by
  unfold zdecs md_X12_bits
  decide +kernel
def md_X12_least : List (Nat × Instr × Nat) := [(0, .iload_n 0, 1), (1, .iload_n 1, 1), (2, .if_icmp .ge 7, 3), (5, .iload_n 0, 1), (6, .goto 4, 3), (9, .iload_n 1, 1), (10, .ireturn, 1)]
set_option maxRecDepth 20000 in
theorem me_X12_least : zdecs cX12_least md_X12_least := by
  unfold zdecs md_X12_least
  decide +kernel
def md_X12_size : List (Nat × Instr × Nat) := [(0, .iload_n 0, 1), (1, .ifCond .ge 8, 3), (4, .iload_n 0, 1), (5, .ineg, 1), (6, .goto 4, 3), (9, .iload_n 0, 1), (10, .ireturn, 1)]
set_option maxRecDepth 20000 in
theorem me_X12_size : zdecs cX12_size md_X12_size := by
  unfold zdecs md_X12_size
  decide +kernel
def md_X12_common : List (Nat × Instr × Nat) := [(0, .iload_n 0, 1), (1, .istore_n 2, 1), (2, .iload_n 1, 1), (3, .istore_n 3, 1), (4, .iload_n 3, 1), (5, .ifCond .eq 16, 3), (8, .iload_n 2, 1), (9, .iload_n 3, 1), (10, .irem, 1), (11, .istore 4, 2), (13, .iload_n 3, 1), (14, .istore_n 2, 1), (15, .iload 4, 2), (17, .istore_n 3, 1), (18, .goto (-14), 3), (21, .iload_n 2, 1), (22, .ireturn, 1)]
set_option maxRecDepth 20000 in
theorem me_X12_common : zdecs cX12_common md_X12_common := by
  unfold zdecs md_X12_common
  decide +kernel
def md_X12_tapeAt : List (Nat × Instr × Nat) := [(0, .iload_n 1, 1), (1, .aload_n 0, 1), (2, .getfield 18, 3), (5, .if_icmp .ge 12, 3), (8, .aload_n 0, 1), (9, .getfield 7, 3), (12, .iload_n 1, 1), (13, .iaload, 1), (14, .goto 4, 3), (17, .iconst 0, 1), (18, .ireturn, 1)]
set_option maxRecDepth 20000 in
theorem me_X12_tapeAt : zdecs cX12_tapeAt md_X12_tapeAt := by
  unfold zdecs md_X12_tapeAt
  decide +kernel
def md_X12_isDigit : List (Nat × Instr × Nat) := [(0, .iload_n 0, 1), (1, .bipush 48, 2), (3, .if_icmp .lt 13, 3), (6, .iload_n 0, 1), (7, .bipush 57, 2), (9, .if_icmp .gt 7, 3), (12, .iconst 1, 1), (13, .goto 4, 3), (16, .iconst 0, 1), (17, .ireturn, 1)]
set_option maxRecDepth 20000 in
theorem me_X12_isDigit : zdecs cX12_isDigit md_X12_isDigit := by
  unfold zdecs md_X12_isDigit
  decide +kernel
def md_X12_isLetter : List (Nat × Instr × Nat) := [(0, .iload_n 0, 1), (1, .bipush 97, 2), (3, .if_icmp .lt 13, 3), (6, .iload_n 0, 1), (7, .bipush 122, 2), (9, .if_icmp .gt 7, 3), (12, .iconst 1, 1), (13, .goto 4, 3), (16, .iconst 0, 1), (17, .ireturn, 1)]
set_option maxRecDepth 20000 in
theorem me_X12_isLetter : zdecs cX12_isLetter md_X12_isLetter := by
  unfold zdecs md_X12_isLetter
  decide +kernel
def md_X12_go : List (Nat × Instr × Nat) := [(0, .aload_n 0, 1), (1, .getfield 21, 3), (4, .aload_n 0, 1), (5, .getfield 18, 3), (8, .if_icmp .ge 44, 3), (11, .aload_n 0, 1), (12, .getfield 7, 3), (15, .aload_n 0, 1), (16, .getfield 21, 3), (19, .iaload, 1), (20, .bipush 32, 2), (22, .if_icmp .eq 17, 3), (25, .aload_n 0, 1), (26, .getfield 7, 3), (29, .aload_n 0, 1), (30, .getfield 21, 3), (33, .iaload, 1), (34, .bipush 10, 2), (36, .if_icmp .ne 16, 3), (39, .aload_n 0, 1), (40, .dup, 1), (41, .getfield 21, 3), (44, .iconst 1, 1), (45, .iadd, 1), (46, .putfield 21, 3), (49, .goto (-49), 3), (52, .aload_n 0, 1), (53, .aload_n 0, 1), (54, .getfield 21, 3), (57, .putfield 24, 3), (60, .aload_n 0, 1), (61, .getfield 18, 3), (64, .aload_n 0, 1), (65, .getfield 27, 3), (68, .if_icmp .le 28, 3), (71, .aload_n 0, 1), (72, .getfield 24, 3), (75, .aload_n 0, 1), (76, .getfield 27, 3), (79, .if_icmp .lt 17, 3), (82, .aload_n 0, 1), (83, .aload_n 0, 1), (84, .getfield 27, 3), (87, .putfield 24, 3), (90, .aload_n 0, 1), (91, .iconst 1, 1), (92, .putfield 30, 3), (95, .return_, 1), (96, .aload_n 0, 1), (97, .getfield 21, 3), (100, .aload_n 0, 1), (101, .getfield 18, 3), (104, .if_icmp .lt 9, 3), (107, .aload_n 0, 1), (108, .iconst 0, 1), (109, .putfield 30, 3), (112, .return_, 1), (113, .aload_n 0, 1), (114, .getfield 7, 3), (117, .aload_n 0, 1), (118, .getfield 21, 3), (121, .iaload, 1), (122, .istore_n 1, 1), (123, .iload_n 1, 1), (124, .invokestatic 33, 3), (127, .ifCond .ne 71, 3), (130, .iload_n 1, 1), (131, .invokestatic 37, 3), (134, .ifCond .ne 64, 3), (137, .aload_n 0, 1), (138, .iload_n 1, 1), (139, .bipush 59, 2), (141, .if_icmp .eq 33, 3), (144, .iload_n 1, 1), (145, .bipush 60, 2), (147, .if_icmp .eq 27, 3), (150, .iload_n 1, 1), (151, .bipush 61, 2), (153, .if_icmp .eq 21, 3), (156, .iload_n 1, 1), (157, .bipush 62, 2), (159, .if_icmp .eq 15, 3), (162, .iload_n 1, 1), (163, .bipush 40, 2), (165, .if_icmp .eq 9, 3), (168, .iload_n 1, 1), (169, .bipush 41, 2), (171, .if_icmp .ne 7, 3), (174, .iconst 4, 1), (175, .goto 4, 3), (178, .iconst 1, 1), (179, .putfield 30, 3), (182, .aload_n 0, 1), (183, .iload_n 1, 1), (184, .putfield 40, 3), (187, .aload_n 0, 1), (188, .dup, 1), (189, .getfield 21, 3), (192, .iconst 1, 1), (193, .iadd, 1), (194, .putfield 21, 3), (197, .return_, 1), (198, .iload_n 1, 1), (199, .invokestatic 33, 3), (202, .istore_n 2, 1), (203, .iconst 1, 1), (204, .istore_n 3, 1), (205, .aload_n 0, 1), (206, .lconst 0, 1), (207, .putfield 43, 3), (210, .aload_n 0, 1), (211, .iconst 0, 1), (212, .putfield 47, 3), (215, .aload_n 0, 1), (216, .aload_n 0, 1), (217, .getfield 21, 3), (220, .invokevirtual 50, 3), (223, .invokestatic 33, 3), (226, .ifCond .ne 17, 3), (229, .aload_n 0, 1), (230, .aload_n 0, 1), (231, .getfield 21, 3), (234, .invokevirtual 50, 3), (237, .invokestatic 37, 3), (240, .ifCond .eq 110, 3), (243, .aload_n 0, 1), (244, .getfield 7, 3), (247, .aload_n 0, 1), (248, .getfield 21, 3), (251, .iaload, 1), (252, .istore 4, 2), (254, .iload_n 3, 1), (255, .ifCond .eq 16, 3), (258, .iload 4, 2), (260, .invokestatic 33, 3), (263, .iload_n 2, 1), (264, .if_icmp .ne 7, 3), (267, .iconst 1, 1), (268, .goto 4, 3), (271, .iconst 0, 1), (272, .istore_n 3, 1), (273, .aload_n 0, 1), (274, .getfield 21, 3), (277, .aload_n 0, 1), (278, .getfield 24, 3), (281, .isub, 1), (282, .bipush 7, 2), (284, .if_icmp .ge 23, 3), (287, .aload_n 0, 1), (288, .ldc2_w 54, 3), (291, .aload_n 0, 1), (292, .getfield 43, 3), (295, .lmul, 1), (296, .iload 4, 2), (298, .i2l, 1), (299, .ladd, 1), (300, .ldc2_w 56, 3), (303, .lsub, 1), (304, .putfield 43, 3), (307, .aload_n 0, 1), (308, .getfield 21, 3), (311, .aload_n 0, 1), (312, .getfield 24, 3), (315, .isub, 1), (316, .iconst 3, 1), (317, .if_icmp .ge 20, 3), (320, .aload_n 0, 1), (321, .bipush 10, 2), (323, .aload_n 0, 1), (324, .getfield 47, 3), (327, .imul, 1), (328, .iload 4, 2), (330, .iadd, 1), (331, .bipush 48, 2), (333, .isub, 1), (334, .putfield 47, 3), (337, .aload_n 0, 1), (338, .dup, 1), (339, .getfield 21, 3), (342, .iconst 1, 1), (343, .iadd, 1), (344, .putfield 21, 3), (347, .goto (-132), 3), (350, .aload_n 0, 1), (351, .iload_n 3, 1), (352, .ifCond .eq 25, 3), (355, .aload_n 0, 1), (356, .getfield 21, 3), (359, .aload_n 0, 1), (360, .getfield 24, 3), (363, .isub, 1), (364, .iload_n 2, 1), (365, .ifCond .eq 8, 3), (368, .bipush 7, 2), (370, .goto 4, 3), (373, .iconst 3, 1), (374, .if_icmp .le 7, 3), (377, .iconst 1, 1), (378, .goto 12, 3), (381, .iload_n 2, 1), (382, .ifCond .eq 7, 3), (385, .iconst 2, 1), (386, .goto 4, 3), (389, .iconst 3, 1), (390, .putfield 30, 3), (393, .return_, 1)]
set_option maxRecDepth 20000 in
theorem me_X12_go : zdecs cX12_go md_X12_go := by
  unfold zdecs md_X12_go
  decide +kernel
def md_X12_spelt : List (Nat × Instr × Nat) := [(0, .ldc2_w 54, 3), (3, .iload_n 0, 1), (4, .i2l, 1), (5, .ldc2_w 56, 3), (8, .lsub, 1), (9, .lmul, 1), (10, .iload_n 1, 1), (11, .i2l, 1), (12, .ladd, 1), (13, .ldc2_w 56, 3), (16, .lsub, 1), (17, .lstore 7, 2), (19, .iload_n 2, 1), (20, .ifCond .le 18, 3), (23, .ldc2_w 54, 3), (26, .lload 7, 2), (28, .lmul, 1), (29, .iload_n 2, 1), (30, .i2l, 1), (31, .ladd, 1), (32, .ldc2_w 56, 3), (35, .lsub, 1), (36, .lstore 7, 2), (38, .iload_n 3, 1), (39, .ifCond .le 18, 3), (42, .ldc2_w 54, 3), (45, .lload 7, 2), (47, .lmul, 1), (48, .iload_n 3, 1), (49, .i2l, 1), (50, .ladd, 1), (51, .ldc2_w 56, 3), (54, .lsub, 1), (55, .lstore 7, 2), (57, .iload 4, 2), (59, .ifCond .le 19, 3), (62, .ldc2_w 54, 3), (65, .lload 7, 2), (67, .lmul, 1), (68, .iload 4, 2), (70, .i2l, 1), (71, .ladd, 1), (72, .ldc2_w 56, 3), (75, .lsub, 1), (76, .lstore 7, 2), (78, .iload 5, 2), (80, .ifCond .le 19, 3), (83, .ldc2_w 54, 3), (86, .lload 7, 2), (88, .lmul, 1), (89, .iload 5, 2), (91, .i2l, 1), (92, .ladd, 1), (93, .ldc2_w 56, 3), (96, .lsub, 1), (97, .lstore 7, 2), (99, .iload 6, 2), (101, .ifCond .le 19, 3), (104, .ldc2_w 54, 3), (107, .lload 7, 2), (109, .lmul, 1), (110, .iload 6, 2), (112, .i2l, 1), (113, .ladd, 1), (114, .ldc2_w 56, 3), (117, .lsub, 1), (118, .lstore 7, 2), (120, .lload 7, 2), (122, .lreturn, 1)]
set_option maxRecDepth 20000 in
theorem me_X12_spelt : zdecs cX12_spelt md_X12_spelt := by
  unfold zdecs md_X12_spelt
  decide +kernel
def md_X12_wordOf : List (Nat × Instr × Nat) := [(0, .iload_n 0, 1), (1, .tableswitch 459 0 22 #[107, 122, 138, 154, 170, 185, 201, 217, 232, 248, 264, 281, 294, 308, 322, 340, 355, 372, 387, 400, 413, 428, 443], 107), (108, .bipush 98, 2), (110, .bipush 97, 2), (112, .bipush 116, 2), (114, .bipush 104, 2), (116, .iconst 0, 1), (117, .iconst 0, 1), (118, .iconst 0, 1), (119, .invokestatic 58, 3), (122, .lreturn, 1), (123, .bipush 112, 2), (125, .bipush 97, 2), (127, .bipush 112, 2), (129, .bipush 101, 2), (131, .bipush 114, 2), (133, .iconst 0, 1), (134, .iconst 0, 1), (135, .invokestatic 58, 3), (138, .lreturn, 1), (139, .bipush 115, 2), (141, .bipush 104, 2), (143, .bipush 101, 2), (145, .bipush 101, 2), (147, .bipush 116, 2), (149, .iconst 0, 1), (150, .iconst 0, 1), (151, .invokestatic 58, 3), (154, .lreturn, 1), (155, .bipush 115, 2), (157, .bipush 112, 2), (159, .bipush 97, 2), (161, .bipush 114, 2), (163, .bipush 101, 2), (165, .iconst 0, 1), (166, .iconst 0, 1), (167, .invokestatic 58, 3), (170, .lreturn, 1), (171, .bipush 119, 2), (173, .bipush 101, 2), (175, .bipush 97, 2), (177, .bipush 107, 2), (179, .iconst 0, 1), (180, .iconst 0, 1), (181, .iconst 0, 1), (182, .invokestatic 58, 3), (185, .lreturn, 1), (186, .bipush 102, 2), (188, .bipush 114, 2), (190, .bipush 101, 2), (192, .bipush 115, 2), (194, .bipush 104, 2), (196, .iconst 0, 1), (197, .iconst 0, 1), (198, .invokestatic 58, 3), (201, .lreturn, 1), (202, .bipush 115, 2), (204, .bipush 116, 2), (206, .bipush 97, 2), (208, .bipush 114, 2), (210, .bipush 116, 2), (212, .iconst 0, 1), (213, .iconst 0, 1), (214, .invokestatic 58, 3), (217, .lreturn, 1), (218, .bipush 116, 2), (220, .bipush 97, 2), (222, .bipush 107, 2), (224, .bipush 101, 2), (226, .iconst 0, 1), (227, .iconst 0, 1), (228, .iconst 0, 1), (229, .invokestatic 58, 3), (232, .lreturn, 1), (233, .bipush 97, 2), (235, .bipush 103, 2), (237, .bipush 97, 2), (239, .bipush 105, 2), (241, .bipush 110, 2), (243, .iconst 0, 1), (244, .iconst 0, 1), (245, .invokestatic 58, 3), (248, .lreturn, 1), (249, .bipush 114, 2), (251, .bipush 101, 2), (253, .bipush 110, 2), (255, .bipush 101, 2), (257, .bipush 119, 2), (259, .iconst 0, 1), (260, .iconst 0, 1), (261, .invokestatic 58, 3), (264, .lreturn, 1), (265, .bipush 109, 2), (267, .bipush 105, 2), (269, .bipush 110, 2), (271, .bipush 117, 2), (273, .bipush 116, 2), (275, .bipush 101, 2), (277, .iconst 0, 1), (278, .invokestatic 58, 3), (281, .lreturn, 1), (282, .bipush 111, 2), (284, .bipush 114, 2), (286, .iconst 0, 1), (287, .iconst 0, 1), (288, .iconst 0, 1), (289, .iconst 0, 1), (290, .iconst 0, 1), (291, .invokestatic 58, 3), (294, .lreturn, 1), (295, .bipush 97, 2), (297, .bipush 110, 2), (299, .bipush 100, 2), (301, .iconst 0, 1), (302, .iconst 0, 1), (303, .iconst 0, 1), (304, .iconst 0, 1), (305, .invokestatic 58, 3), (308, .lreturn, 1), (309, .bipush 110, 2), (311, .bipush 111, 2), (313, .bipush 116, 2), (315, .iconst 0, 1), (316, .iconst 0, 1), (317, .iconst 0, 1), (318, .iconst 0, 1), (319, .invokestatic 58, 3), (322, .lreturn, 1), (323, .bipush 119, 2), (325, .bipush 97, 2), (327, .bipush 105, 2), (329, .bipush 116, 2), (331, .bipush 105, 2), (333, .bipush 110, 2), (335, .bipush 103, 2), (337, .invokestatic 58, 3), (340, .lreturn, 1), (341, .bipush 100, 2), (343, .bipush 111, 2), (345, .bipush 110, 2), (347, .bipush 101, 2), (349, .iconst 0, 1), (350, .iconst 0, 1), (351, .iconst 0, 1), (352, .invokestatic 58, 3), (355, .lreturn, 1), (356, .bipush 115, 2), (358, .bipush 112, 2), (360, .bipush 111, 2), (362, .bipush 105, 2), (364, .bipush 108, 2), (366, .bipush 116, 2), (368, .iconst 0, 1), (369, .invokestatic 58, 3), (372, .lreturn, 1), (373, .bipush 104, 2), (375, .bipush 101, 2), (377, .bipush 108, 2), (379, .bipush 100, 2), (381, .iconst 0, 1), (382, .iconst 0, 1), (383, .iconst 0, 1), (384, .invokestatic 58, 3), (387, .lreturn, 1), (388, .bipush 105, 2), (390, .bipush 110, 2), (392, .iconst 0, 1), (393, .iconst 0, 1), (394, .iconst 0, 1), (395, .iconst 0, 1), (396, .iconst 0, 1), (397, .invokestatic 58, 3), (400, .lreturn, 1), (401, .bipush 111, 2), (403, .bipush 102, 2), (405, .iconst 0, 1), (406, .iconst 0, 1), (407, .iconst 0, 1), (408, .iconst 0, 1), (409, .iconst 0, 1), (410, .invokestatic 58, 3), (413, .lreturn, 1), (414, .bipush 108, 2), (416, .bipush 101, 2), (418, .bipush 102, 2), (420, .bipush 116, 2), (422, .iconst 0, 1), (423, .iconst 0, 1), (424, .iconst 0, 1), (425, .invokestatic 58, 3), (428, .lreturn, 1), (429, .bipush 111, 2), (431, .bipush 118, 2), (433, .bipush 101, 2), (435, .bipush 114, 2), (437, .iconst 0, 1), (438, .iconst 0, 1), (439, .iconst 0, 1), (440, .invokestatic 58, 3), (443, .lreturn, 1), (444, .bipush 116, 2), (446, .bipush 114, 2), (448, .bipush 105, 2), (450, .bipush 101, 2), (452, .bipush 115, 2), (454, .iconst 0, 1), (455, .iconst 0, 1), (456, .invokestatic 58, 3), (459, .lreturn, 1), (460, .bipush 110, 2), (462, .bipush 117, 2), (464, .bipush 109, 2), (466, .bipush 98, 2), (468, .bipush 101, 2), (470, .bipush 114, 2), (472, .iconst 0, 1), (473, .invokestatic 58, 3), (476, .lreturn, 1)]
set_option maxRecDepth 20000 in
theorem me_X12_wordOf : zdecs cX12_wordOf md_X12_wordOf := by
  unfold zdecs md_X12_wordOf
  decide +kernel
def md_X12_isWord : List (Nat × Instr × Nat) := [(0, .aload_n 0, 1), (1, .getfield 30, 3), (4, .iconst 2, 1), (5, .if_icmp .ne 19, 3), (8, .aload_n 0, 1), (9, .getfield 43, 3), (12, .iload_n 1, 1), (13, .invokestatic 62, 3), (16, .lcmp, 1), (17, .ifCond .ne 7, 3), (20, .iconst 1, 1), (21, .goto 4, 3), (24, .iconst 0, 1), (25, .ireturn, 1)]
set_option maxRecDepth 20000 in
theorem me_X12_isWord : zdecs cX12_isWord md_X12_isWord := by
  unfold zdecs md_X12_isWord
  decide +kernel
def md_X12_isSign : List (Nat × Instr × Nat) := [(0, .aload_n 0, 1), (1, .getfield 30, 3), (4, .iconst 4, 1), (5, .if_icmp .ne 15, 3), (8, .aload_n 0, 1), (9, .getfield 40, 3), (12, .iload_n 1, 1), (13, .if_icmp .ne 7, 3), (16, .iconst 1, 1), (17, .goto 4, 3), (20, .iconst 0, 1), (21, .ireturn, 1)]
set_option maxRecDepth 20000 in
theorem me_X12_isSign : zdecs cX12_isSign md_X12_isSign := by
  unfold zdecs md_X12_isSign
  decide +kernel
def md_X12_isName : List (Nat × Instr × Nat) := [(0, .aload_n 0, 1), (1, .getfield 30, 3), (4, .iconst 2, 1), (5, .if_icmp .eq 5, 3), (8, .iconst 0, 1), (9, .ireturn, 1), (10, .iconst 0, 1), (11, .istore_n 1, 1), (12, .iload_n 1, 1), (13, .bipush 23, 2), (15, .if_icmp .gt 23, 3), (18, .aload_n 0, 1), (19, .getfield 43, 3), (22, .iload_n 1, 1), (23, .invokestatic 62, 3), (26, .lcmp, 1), (27, .ifCond .ne 5, 3), (30, .iconst 0, 1), (31, .ireturn, 1), (32, .iinc 1 1, 3), (35, .goto (-23), 3), (38, .iconst 1, 1), (39, .ireturn, 1)]
set_option maxRecDepth 20000 in
theorem me_X12_isName : zdecs cX12_isName md_X12_isName := by
  unfold zdecs md_X12_isName
  decide +kernel
def md_X12_bad : List (Nat × Instr × Nat) := [(0, .aload_n 0, 1), (1, .aload_n 0, 1), (2, .getfield 30, 3), (5, .iconst 1, 1), (6, .if_icmp .ne 7, 3), (9, .iconst 1, 1), (10, .goto 4, 3), (13, .iload_n 1, 1), (14, .putfield 66, 3), (17, .aload_n 0, 1), (18, .aload_n 0, 1), (19, .getfield 24, 3), (22, .putfield 69, 3), (25, .iconst 0, 1), (26, .ireturn, 1)]
set_option maxRecDepth 20000 in
theorem me_X12_bad : zdecs cX12_bad md_X12_bad := by
  unfold zdecs md_X12_bad
  decide +kernel
def md_X12_readNumber : List (Nat × Instr × Nat) := [(0, .aload_n 0, 1), (1, .getfield 30, 3), (4, .iconst 3, 1), (5, .if_icmp .eq 9, 3), (8, .aload_n 0, 1), (9, .iconst 1, 1), (10, .invokevirtual 72, 3), (13, .ireturn, 1), (14, .aload_n 0, 1), (15, .getfield 47, 3), (18, .iload_n 1, 1), (19, .iload_n 2, 1), (20, .invokestatic 75, 3), (23, .ifCond .ne 9, 3), (26, .aload_n 0, 1), (27, .iconst 2, 1), (28, .invokevirtual 72, 3), (31, .ireturn, 1), (32, .aload_n 0, 1), (33, .aload_n 0, 1), (34, .getfield 47, 3), (37, .putfield 79, 3), (40, .aload_n 0, 1), (41, .invokevirtual 82, 3), (44, .iconst 1, 1), (45, .ireturn, 1)]
set_option maxRecDepth 20000 in
theorem me_X12_readNumber : zdecs cX12_readNumber md_X12_readNumber := by
  unfold zdecs md_X12_readNumber
  decide +kernel
def md_X12_readEnd : List (Nat × Instr × Nat) := [(0, .aload_n 0, 1), (1, .bipush 59, 2), (3, .invokevirtual 86, 3), (6, .ifCond .ne 9, 3), (9, .aload_n 0, 1), (10, .iconst 1, 1), (11, .invokevirtual 72, 3), (14, .ireturn, 1), (15, .aload_n 0, 1), (16, .invokevirtual 82, 3), (19, .iconst 1, 1), (20, .ireturn, 1)]
set_option maxRecDepth 20000 in
theorem me_X12_readEnd : zdecs cX12_readEnd md_X12_readEnd := by
  unfold zdecs md_X12_readEnd
  decide +kernel
def md_X12_begin : List (Nat × Instr × Nat) := [(0, .aload_n 0, 1), (1, .iconst 0, 1), (2, .putfield 1, 3), (5, .aload_n 0, 1), (6, .aload_n 0, 1), (7, .invokevirtual 89, 3), (10, .putfield 18, 3), (13, .aload_n 0, 1), (14, .iload_n 1, 1), (15, .putfield 27, 3), (18, .aload_n 0, 1), (19, .iconst 0, 1), (20, .putfield 66, 3), (23, .aload_n 0, 1), (24, .iconst 0, 1), (25, .putfield 21, 3), (28, .aload_n 0, 1), (29, .invokevirtual 82, 3), (32, .return_, 1)]
set_option maxRecDepth 20000 in
theorem me_X12_begin : zdecs cX12_begin md_X12_begin := by
  unfold zdecs md_X12_begin
  decide +kernel
def md_X12_init : List (Nat × Instr × Nat) := [(0, .aload_n 0, 1), (1, .invokespecial 93, 3), (4, .aload_n 0, 1), (5, .sipush 940, 3), (8, .newarray .int, 2), (10, .putfield 7, 3), (13, .aload_n 0, 1), (14, .sipush 354, 3), (17, .newarray .int, 2), (19, .putfield 98, 3), (22, .aload_n 0, 1), (23, .bipush 56, 2), (25, .newarray .int, 2), (27, .putfield 101, 3), (30, .aload_n 0, 1), (31, .sipush 708, 3), (34, .newarray .int, 2), (36, .putfield 104, 3), (39, .aload_n 0, 1), (40, .sipush 448, 3), (43, .newarray .int, 2), (45, .putfield 107, 3), (48, .aload_n 0, 1), (49, .bipush 56, 2), (51, .newarray .int, 2), (53, .putfield 110, 3), (56, .aload_n 0, 1), (57, .bipush 56, 2), (59, .newarray .int, 2), (61, .putfield 113, 3), (64, .aload_n 0, 1), (65, .bipush 56, 2), (67, .newarray .int, 2), (69, .putfield 116, 3), (72, .aload_n 0, 1), (73, .bipush 19, 2), (75, .newarray .long, 2), (77, .putfield 119, 3), (80, .aload_n 0, 1), (81, .bipush 19, 2), (83, .newarray .long, 2), (85, .putfield 123, 3), (88, .aload_n 0, 1), (89, .bipush 38, 2), (91, .newarray .long, 2), (93, .putfield 126, 3), (96, .aload_n 0, 1), (97, .iconst 2, 1), (98, .newarray .boolean, 2), (100, .putfield 129, 3), (103, .aload_n 0, 1), (104, .iconst 3, 1), (105, .newarray .int, 2), (107, .putfield 133, 3), (110, .aload_n 0, 1), (111, .iconst 3, 1), (112, .newarray .int, 2), (114, .putfield 136, 3), (117, .aload_n 0, 1), (118, .iconst 3, 1), (119, .newarray .int, 2), (121, .putfield 139, 3), (124, .aload_n 0, 1), (125, .iconst 3, 1), (126, .newarray .int, 2), (128, .putfield 142, 3), (131, .aload_n 0, 1), (132, .iconst 3, 1), (133, .newarray .int, 2), (135, .putfield 145, 3), (138, .aload_n 0, 1), (139, .iconst 3, 1), (140, .newarray .int, 2), (142, .putfield 148, 3), (145, .aload_n 0, 1), (146, .iconst (-1), 1), (147, .putfield 151, 3), (150, .aload_n 0, 1), (151, .iconst 5, 1), (152, .newarray .int, 2), (154, .putfield 154, 3), (157, .aload_n 0, 1), (158, .iconst 5, 1), (159, .newarray .int, 2), (161, .putfield 157, 3), (164, .aload_n 0, 1), (165, .bipush 48, 2), (167, .newarray .int, 2), (169, .putfield 160, 3), (172, .aload_n 0, 1), (173, .bipush 80, 2), (175, .newarray .int, 2), (177, .putfield 163, 3), (180, .aload_n 0, 1), (181, .iconst 4, 1), (182, .newarray .int, 2), (184, .putfield 166, 3), (187, .aload_n 0, 1), (188, .sipush 240, 3), (191, .newarray .int, 2), (193, .putfield 169, 3), (196, .aload_n 0, 1), (197, .getfield 98, 3), (200, .iconst 5, 1), (201, .iconst 5, 1), (202, .iastore, 1), (203, .aload_n 0, 1), (204, .invokevirtual 172, 3), (207, .return_, 1)]
set_option maxRecDepth 20000 in
theorem me_X12_init : zdecs cX12_init md_X12_init := by
  unfold zdecs md_X12_init
  decide +kernel
def md_X12_startSo : List (Nat × Instr × Nat) := [(0, .bipush 56, 2), (2, .istore_n 1, 1), (3, .iload_n 1, 1), (4, .sipush 354, 3), (7, .if_icmp .ge 16, 3), (10, .aload_n 0, 1), (11, .getfield 98, 3), (14, .iload_n 1, 1), (15, .iconst 0, 1), (16, .iastore, 1), (17, .iinc 1 1, 3), (20, .goto (-17), 3), (23, .aload_n 0, 1), (24, .getfield 98, 3), (27, .bipush 57, 2), (29, .aload_n 0, 1), (30, .getfield 98, 3), (33, .iconst 5, 1), (34, .iaload, 1), (35, .iastore, 1), (36, .iconst 0, 1), (37, .istore_n 1, 1), (38, .iload_n 1, 1), (39, .bipush 8, 2), (41, .if_icmp .ge 19, 3), (44, .aload_n 0, 1), (45, .getfield 98, 3), (48, .bipush 72, 2), (50, .iload_n 1, 1), (51, .iadd, 1), (52, .iconst (-1), 1), (53, .iastore, 1), (54, .iinc 1 1, 3), (57, .goto (-19), 3), (60, .return_, 1)]
set_option maxRecDepth 20000 in
theorem me_X12_startSo : zdecs cX12_startSo md_X12_startSo := by
  unfold zdecs md_X12_startSo
  decide +kernel
def md_X12_findIn : List (Nat × Instr × Nat) := [(0, .iconst 0, 1), (1, .istore 5, 2), (3, .iload 5, 2), (5, .iload_n 2, 1), (6, .if_icmp .ge 23, 3), (9, .aload_n 0, 1), (10, .iload_n 1, 1), (11, .iload 5, 2), (13, .iadd, 1), (14, .laload, 1), (15, .lload_n 3, 1), (16, .lcmp, 1), (17, .ifCond .ne 6, 3), (20, .iload 5, 2), (22, .ireturn, 1), (23, .iinc 5 1, 3), (26, .goto (-23), 3), (29, .iconst (-1), 1), (30, .ireturn, 1)]
set_option maxRecDepth 20000 in
theorem me_X12_findIn : zdecs cX12_findIn md_X12_findIn := by
  unfold zdecs md_X12_findIn
  decide +kernel
def md_X12_readNew : List (Nat × Instr × Nat) := [(0, .aload_n 0, 1), (1, .invokevirtual 175, 3), (4, .ifCond .ne 9, 3), (7, .aload_n 0, 1), (8, .iconst 1, 1), (9, .invokevirtual 72, 3), (12, .ireturn, 1), (13, .aload_n 0, 1), (14, .getfield 123, 3), (17, .iconst 0, 1), (18, .aload_n 0, 1), (19, .getfield 101, 3), (22, .iconst 0, 1), (23, .iaload, 1), (24, .aload_n 0, 1), (25, .getfield 43, 3), (28, .invokestatic 179, 3), (31, .iconst (-1), 1), (32, .if_icmp .ne 26, 3), (35, .aload_n 0, 1), (36, .getfield 123, 3), (39, .bipush 6, 2), (41, .aload_n 0, 1), (42, .getfield 101, 3), (45, .iconst 1, 1), (46, .iaload, 1), (47, .aload_n 0, 1), (48, .getfield 43, 3), (51, .invokestatic 179, 3), (54, .iconst (-1), 1), (55, .if_icmp .eq 7, 3), (58, .iconst 1, 1), (59, .goto 4, 3), (62, .iconst 0, 1), (63, .istore_n 2, 1), (64, .iload_n 2, 1), (65, .ifCond .ne 26, 3), (68, .aload_n 0, 1), (69, .getfield 123, 3), (72, .bipush 11, 2), (74, .aload_n 0, 1), (75, .getfield 101, 3), (78, .iconst 2, 1), (79, .iaload, 1), (80, .aload_n 0, 1), (81, .getfield 43, 3), (84, .invokestatic 179, 3), (87, .iconst (-1), 1), (88, .if_icmp .eq 9, 3), (91, .aload_n 0, 1), (92, .iconst 3, 1), (93, .invokevirtual 72, 3), (96, .ireturn, 1), (97, .aload_n 0, 1), (98, .getfield 123, 3), (101, .iload_n 1, 1), (102, .aload_n 0, 1), (103, .getfield 43, 3), (106, .lastore, 1), (107, .aload_n 0, 1), (108, .invokevirtual 82, 3), (111, .iconst 1, 1), (112, .ireturn, 1)]
set_option maxRecDepth 20000 in
theorem me_X12_readNew : zdecs cX12_readNew md_X12_readNew := by
  unfold zdecs md_X12_readNew
  decide +kernel
def md_X12_readFirst : List (Nat × Instr × Nat) := [(0, .aload_n 0, 1), (1, .getfield 101, 3), (4, .iload_n 1, 1), (5, .iaload, 1), (6, .iload_n 2, 1), (7, .if_icmp .ne 9, 3), (10, .aload_n 0, 1), (11, .iconst 4, 1), (12, .invokevirtual 72, 3), (15, .ireturn, 1), (16, .aload_n 0, 1), (17, .invokevirtual 82, 3), (20, .iconst 1, 1), (21, .ireturn, 1)]
set_option maxRecDepth 20000 in
theorem me_X12_readFirst : zdecs cX12_readFirst md_X12_readFirst := by
  unfold zdecs md_X12_readFirst
  decide +kernel
def md_X12_put : List (Nat × Instr × Nat) := [(0, .iload_n 2, 1), (1, .ifCond .eq 13, 3), (4, .aload_n 0, 1), (5, .getfield 101, 3), (8, .iload_n 1, 1), (9, .aload_n 0, 1), (10, .getfield 79, 3), (13, .iastore, 1), (14, .iload_n 2, 1), (15, .ireturn, 1)]
set_option maxRecDepth 20000 in
theorem me_X12_put : zdecs cX12_put md_X12_put := by
  unfold zdecs md_X12_put
  decide +kernel
def md_X12_readBath : List (Nat × Instr × Nat) := [(0, .aload_n 0, 1), (1, .getfield 101, 3), (4, .iconst 1, 1), (5, .iaload, 1), (6, .ifCond .le 9, 3), (9, .aload_n 0, 1), (10, .iconst 3, 1), (11, .invokevirtual 72, 3), (14, .ireturn, 1), (15, .aload_n 0, 1), (16, .iconst 0, 1), (17, .bipush 6, 2), (19, .invokevirtual 183, 3), (22, .ifCond .ne 5, 3), (25, .iconst 0, 1), (26, .ireturn, 1), (27, .aload_n 0, 1), (28, .getfield 101, 3), (31, .iconst 0, 1), (32, .iaload, 1), (33, .istore_n 1, 1), (34, .aload_n 0, 1), (35, .iload_n 1, 1), (36, .invokevirtual 187, 3), (39, .ifCond .eq 38, 3), (42, .aload_n 0, 1), (43, .bipush 6, 2), (45, .iload_n 1, 1), (46, .iadd, 1), (47, .aload_n 0, 1), (48, .iconst 1, 1), (49, .iconst 4, 1), (50, .invokevirtual 190, 3), (53, .invokevirtual 193, 3), (56, .ifCond .eq 21, 3), (59, .aload_n 0, 1), (60, .bipush 12, 2), (62, .iload_n 1, 1), (63, .iadd, 1), (64, .aload_n 0, 1), (65, .iconst 1, 1), (66, .bipush 99, 2), (68, .invokevirtual 190, 3), (71, .invokevirtual 193, 3), (74, .ifCond .ne 5, 3), (77, .iconst 0, 1), (78, .ireturn, 1), (79, .aload_n 0, 1), (80, .getfield 101, 3), (83, .iconst 0, 1), (84, .dup2, 1), (85, .iaload, 1), (86, .iconst 1, 1), (87, .iadd, 1), (88, .iastore, 1), (89, .iconst 1, 1), (90, .ireturn, 1)]
set_option maxRecDepth 20000 in
theorem me_X12_readBath : zdecs cX12_readBath md_X12_readBath := by
  unfold zdecs md_X12_readBath
  decide +kernel
def md_X12_readPaper : List (Nat × Instr × Nat) := [(0, .aload_n 0, 1), (1, .iconst 1, 1), (2, .iconst 5, 1), (3, .invokevirtual 183, 3), (6, .ifCond .ne 5, 3), (9, .iconst 0, 1), (10, .ireturn, 1), (11, .aload_n 0, 1), (12, .getfield 101, 3), (15, .iconst 1, 1), (16, .iaload, 1), (17, .istore_n 1, 1), (18, .aload_n 0, 1), (19, .bipush 6, 2), (21, .iload_n 1, 1), (22, .iadd, 1), (23, .invokevirtual 187, 3), (26, .ifCond .ne 5, 3), (29, .iconst 0, 1), (30, .ireturn, 1), (31, .iconst 0, 1), (32, .istore_n 2, 1), (33, .iload_n 2, 1), (34, .aload_n 0, 1), (35, .getfield 101, 3), (38, .iconst 0, 1), (39, .iaload, 1), (40, .if_icmp .ge 34, 3), (43, .aload_n 0, 1), (44, .bipush 18, 2), (46, .bipush 6, 2), (48, .iload_n 1, 1), (49, .imul, 1), (50, .iadd, 1), (51, .iload_n 2, 1), (52, .iadd, 1), (53, .aload_n 0, 1), (54, .iconst 0, 1), (55, .bipush 30, 2), (57, .invokevirtual 190, 3), (60, .invokevirtual 193, 3), (63, .ifCond .ne 5, 3), (66, .iconst 0, 1), (67, .ireturn, 1), (68, .iinc 2 1, 3), (71, .goto (-38), 3), (74, .aload_n 0, 1), (75, .getfield 101, 3), (78, .iconst 1, 1), (79, .dup2, 1), (80, .iaload, 1), (81, .iconst 1, 1), (82, .iadd, 1), (83, .iastore, 1), (84, .iconst 1, 1), (85, .ireturn, 1)]
set_option maxRecDepth 20000 in
theorem me_X12_readPaper : zdecs cX12_readPaper md_X12_readPaper := by
  unfold zdecs md_X12_readPaper
  decide +kernel
def md_X12_readSheet : List (Nat × Instr × Nat) := [(0, .aload_n 0, 1), (1, .iconst 2, 1), (2, .bipush 8, 2), (4, .invokevirtual 183, 3), (7, .ifCond .ne 5, 3), (10, .iconst 0, 1), (11, .ireturn, 1), (12, .aload_n 0, 1), (13, .getfield 101, 3), (16, .iconst 2, 1), (17, .iaload, 1), (18, .istore_n 1, 1), (19, .aload_n 0, 1), (20, .bipush 11, 2), (22, .iload_n 1, 1), (23, .iadd, 1), (24, .invokevirtual 187, 3), (27, .ifCond .ne 5, 3), (30, .iconst 0, 1), (31, .ireturn, 1), (32, .aload_n 0, 1), (33, .invokevirtual 175, 3), (36, .ifCond .ne 9, 3), (39, .aload_n 0, 1), (40, .iconst 1, 1), (41, .invokevirtual 72, 3), (44, .ireturn, 1), (45, .aload_n 0, 1), (46, .getfield 123, 3), (49, .bipush 6, 2), (51, .aload_n 0, 1), (52, .getfield 101, 3), (55, .iconst 1, 1), (56, .iaload, 1), (57, .aload_n 0, 1), (58, .getfield 43, 3), (61, .invokestatic 179, 3), (64, .istore_n 2, 1), (65, .iload_n 2, 1), (66, .iconst (-1), 1), (67, .if_icmp .ne 9, 3), (70, .aload_n 0, 1), (71, .iconst 3, 1), (72, .invokevirtual 72, 3), (75, .ireturn, 1), (76, .aload_n 0, 1), (77, .invokevirtual 82, 3), (80, .aload_n 0, 1), (81, .getfield 101, 3), (84, .bipush 48, 2), (86, .iload_n 1, 1), (87, .iadd, 1), (88, .iload_n 2, 1), (89, .iastore, 1), (90, .aload_n 0, 1), (91, .getfield 101, 3), (94, .iconst 2, 1), (95, .dup2, 1), (96, .iaload, 1), (97, .iconst 1, 1), (98, .iadd, 1), (99, .iastore, 1), (100, .iconst 1, 1), (101, .ireturn, 1)]
set_option maxRecDepth 20000 in
theorem me_X12_readSheet : zdecs cX12_readSheet md_X12_readSheet := by
  unfold zdecs md_X12_readSheet
  decide +kernel
def md_X12_readOnce : List (Nat × Instr × Nat) := [(0, .aload_n 0, 1), (1, .getfield 197, 3), (4, .iload_n 1, 1), (5, .invokestatic 200, 3), (8, .ifCond .eq 9, 3), (11, .aload_n 0, 1), (12, .iconst 3, 1), (13, .invokevirtual 72, 3), (16, .ireturn, 1), (17, .aload_n 0, 1), (18, .dup, 1), (19, .getfield 197, 3), (22, .iconst 1, 1), (23, .iload_n 1, 1), (24, .ishl, 1), (25, .ior, 1), (26, .putfield 197, 3), (29, .aload_n 0, 1), (30, .invokevirtual 82, 3), (33, .aload_n 0, 1), (34, .iload_n 1, 1), (35, .aload_n 0, 1), (36, .iconst 0, 1), (37, .iload_n 2, 1), (38, .invokevirtual 190, 3), (41, .invokevirtual 193, 3), (44, .ireturn, 1)]
set_option maxRecDepth 20000 in
theorem me_X12_readOnce : zdecs cX12_readOnce md_X12_readOnce := by
  unfold zdecs md_X12_readOnce
  decide +kernel
def md_X12_readLine : List (Nat × Instr × Nat) := [(0, .aload_n 0, 1), (1, .iconst 0, 1), (2, .invokevirtual 203, 3), (5, .ifCond .eq 8, 3), (8, .aload_n 0, 1), (9, .invokevirtual 206, 3), (12, .ireturn, 1), (13, .aload_n 0, 1), (14, .iconst 1, 1), (15, .invokevirtual 203, 3), (18, .ifCond .eq 8, 3), (21, .aload_n 0, 1), (22, .invokevirtual 209, 3), (25, .ireturn, 1), (26, .aload_n 0, 1), (27, .iconst 2, 1), (28, .invokevirtual 203, 3), (31, .ifCond .eq 8, 3), (34, .aload_n 0, 1), (35, .invokevirtual 212, 3), (38, .ireturn, 1), (39, .aload_n 0, 1), (40, .iconst 3, 1), (41, .invokevirtual 203, 3), (44, .ifCond .eq 11, 3), (47, .aload_n 0, 1), (48, .iconst 3, 1), (49, .bipush 9, 2), (51, .invokevirtual 215, 3), (54, .ireturn, 1), (55, .aload_n 0, 1), (56, .iconst 4, 1), (57, .invokevirtual 203, 3), (60, .ifCond .eq 11, 3), (63, .aload_n 0, 1), (64, .iconst 4, 1), (65, .bipush 9, 2), (67, .invokevirtual 215, 3), (70, .ireturn, 1), (71, .aload_n 0, 1), (72, .iconst 5, 1), (73, .invokevirtual 203, 3), (76, .ifCond .eq 13, 3), (79, .aload_n 0, 1), (80, .iconst 5, 1), (81, .bipush 99, 2), (83, .invokevirtual 215, 3), (86, .goto 8, 3), (89, .aload_n 0, 1), (90, .iconst 1, 1), (91, .invokevirtual 72, 3), (94, .ireturn, 1)]
set_option maxRecDepth 20000 in
theorem me_X12_readLine : zdecs cX12_readLine md_X12_readLine := by
  unfold zdecs md_X12_readLine
  decide +kernel
def md_X12_room : List (Nat × Instr × Nat) := [(0, .aload_n 0, 1), (1, .sipush 900, 3), (4, .invokevirtual 218, 3), (7, .iconst 0, 1), (8, .istore_n 1, 1), (9, .iload_n 1, 1), (10, .bipush 56, 2), (12, .if_icmp .ge 16, 3), (15, .aload_n 0, 1), (16, .getfield 101, 3), (19, .iload_n 1, 1), (20, .iconst 0, 1), (21, .iastore, 1), (22, .iinc 1 1, 3), (25, .goto (-16), 3), (28, .aload_n 0, 1), (29, .getfield 101, 3), (32, .iconst 5, 1), (33, .iconst 5, 1), (34, .iastore, 1), (35, .aload_n 0, 1), (36, .iconst 0, 1), (37, .putfield 197, 3), (40, .iconst 0, 1), (41, .istore_n 1, 1), (42, .aload_n 0, 1), (43, .getfield 30, 3), (46, .ifCond .eq 30, 3), (49, .aload_n 0, 1), (50, .invokevirtual 221, 3), (53, .ifCond .eq 10, 3), (56, .aload_n 0, 1), (57, .invokevirtual 224, 3), (60, .ifCond .ne 10, 3), (63, .iconst (-1), 1), (64, .aload_n 0, 1), (65, .getfield 69, 3), (68, .isub, 1), (69, .ireturn, 1), (70, .iinc 1 1, 3), (73, .goto (-31), 3), (76, .iconst 0, 1), (77, .istore_n 2, 1), (78, .iload_n 2, 1), (79, .bipush 56, 2), (81, .if_icmp .ge 21, 3), (84, .aload_n 0, 1), (85, .getfield 98, 3), (88, .iload_n 2, 1), (89, .aload_n 0, 1), (90, .getfield 101, 3), (93, .iload_n 2, 1), (94, .iaload, 1), (95, .iastore, 1), (96, .iinc 2 1, 3), (99, .goto (-21), 3), (102, .iconst 0, 1), (103, .istore_n 2, 1), (104, .iload_n 2, 1), (105, .bipush 19, 2), (107, .if_icmp .ge 21, 3), (110, .aload_n 0, 1), (111, .getfield 119, 3), (114, .iload_n 2, 1), (115, .aload_n 0, 1), (116, .getfield 123, 3), (119, .iload_n 2, 1), (120, .laload, 1), (121, .lastore, 1), (122, .iinc 2 1, 3), (125, .goto (-21), 3), (128, .aload_n 0, 1), (129, .invokevirtual 172, 3), (132, .aload_n 0, 1), (133, .iconst 0, 1), (134, .putfield 227, 3), (137, .iload_n 1, 1), (138, .ireturn, 1)]
set_option maxRecDepth 20000 in
theorem me_X12_room : zdecs cX12_room md_X12_room := by
  unfold zdecs md_X12_room
  decide +kernel
def md_X12_fault : List (Nat × Instr × Nat) := [(0, .aload_n 0, 1), (1, .iconst 0, 1), (2, .putfield 1, 3), (5, .aload_n 0, 1), (6, .getfield 66, 3), (9, .ireturn, 1)]
set_option maxRecDepth 20000 in
theorem me_X12_fault : zdecs cX12_fault md_X12_fault := by
  unfold zdecs md_X12_fault
  decide +kernel
def md_X12_isBath : List (Nat × Instr × Nat) := [(0, .iload_n 1, 1), (1, .iconst 0, 1), (2, .aload_n 0, 1), (3, .getfield 98, 3), (6, .iconst 0, 1), (7, .iaload, 1), (8, .iconst 1, 1), (9, .isub, 1), (10, .invokestatic 75, 3), (13, .ireturn, 1)]
set_option maxRecDepth 20000 in
theorem me_X12_isBath : zdecs cX12_isBath md_X12_isBath := by
  unfold zdecs md_X12_isBath
  decide +kernel
def md_X12_isPaper : List (Nat × Instr × Nat) := [(0, .iload_n 1, 1), (1, .iconst 0, 1), (2, .aload_n 0, 1), (3, .getfield 98, 3), (6, .iconst 1, 1), (7, .iaload, 1), (8, .iconst 1, 1), (9, .isub, 1), (10, .invokestatic 75, 3), (13, .ireturn, 1)]
set_option maxRecDepth 20000 in
theorem me_X12_isPaper : zdecs cX12_isPaper md_X12_isPaper := by
  unfold zdecs md_X12_isPaper
  decide +kernel
def md_X12_isSheet : List (Nat × Instr × Nat) := [(0, .iload_n 1, 1), (1, .iconst 0, 1), (2, .aload_n 0, 1), (3, .getfield 98, 3), (6, .iconst 2, 1), (7, .iaload, 1), (8, .iconst 1, 1), (9, .isub, 1), (10, .invokestatic 75, 3), (13, .ireturn, 1)]
set_option maxRecDepth 20000 in
theorem me_X12_isSheet : zdecs cX12_isSheet md_X12_isSheet := by
  unfold zdecs md_X12_isSheet
  decide +kernel
def md_X12_isWaiting : List (Nat × Instr × Nat) := [(0, .aload_n 0, 1), (1, .getfield 98, 3), (4, .bipush 64, 2), (6, .iload_n 1, 1), (7, .iadd, 1), (8, .iaload, 1), (9, .ifCond .ne 7, 3), (12, .iconst 1, 1), (13, .goto 4, 3), (16, .iconst 0, 1), (17, .ireturn, 1)]
set_option maxRecDepth 20000 in
theorem me_X12_isWaiting : zdecs cX12_isWaiting md_X12_isWaiting := by
  unfold zdecs md_X12_isWaiting
  decide +kernel
def md_X12_isBathed : List (Nat × Instr × Nat) := [(0, .aload_n 0, 1), (1, .getfield 98, 3), (4, .bipush 64, 2), (6, .iload_n 1, 1), (7, .iadd, 1), (8, .iaload, 1), (9, .iconst 1, 1), (10, .if_icmp .ne 7, 3), (13, .iconst 1, 1), (14, .goto 4, 3), (17, .iconst 0, 1), (18, .ireturn, 1)]
set_option maxRecDepth 20000 in
theorem me_X12_isBathed : zdecs cX12_isBathed md_X12_isBathed := by
  unfold zdecs md_X12_isBathed
  decide +kernel
def md_X12_isHeld : List (Nat × Instr × Nat) := [(0, .aload_n 0, 1), (1, .iload_n 1, 1), (2, .invokevirtual 230, 3), (5, .ifCond .eq 19, 3), (8, .aload_n 0, 1), (9, .getfield 98, 3), (12, .bipush 80, 2), (14, .iload_n 1, 1), (15, .iadd, 1), (16, .iaload, 1), (17, .ifCond .ne 7, 3), (20, .iconst 1, 1), (21, .goto 4, 3), (24, .iconst 0, 1), (25, .ireturn, 1)]
set_option maxRecDepth 20000 in
theorem me_X12_isHeld : zdecs cX12_isHeld md_X12_isHeld := by
  unfold zdecs md_X12_isHeld
  decide +kernel
def md_X12_asked : List (Nat × Instr × Nat) := [(0, .aload_n 0, 1), (1, .getfield 98, 3), (4, .bipush 18, 2), (6, .bipush 6, 2), (8, .iload_n 1, 1), (9, .imul, 1), (10, .iadd, 1), (11, .iload_n 2, 1), (12, .iadd, 1), (13, .iaload, 1), (14, .ireturn, 1)]
set_option maxRecDepth 20000 in
theorem me_X12_asked : zdecs cX12_asked md_X12_asked := by
  unfold zdecs md_X12_asked
  decide +kernel
def md_X12_askedBy : List (Nat × Instr × Nat) := [(0, .aload_n 0, 1), (1, .aload_n 0, 1), (2, .getfield 98, 3), (5, .bipush 48, 2), (7, .iload_n 1, 1), (8, .iadd, 1), (9, .iaload, 1), (10, .iload_n 2, 1), (11, .invokevirtual 233, 3), (14, .ireturn, 1)]
set_option maxRecDepth 20000 in
theorem me_X12_askedBy : zdecs cX12_askedBy md_X12_askedBy := by
  unfold zdecs md_X12_askedBy
  decide +kernel
def md_X12_sheetsIn : List (Nat × Instr × Nat) := [(0, .iconst 0, 1), (1, .istore_n 2, 1), (2, .iconst 0, 1), (3, .istore_n 3, 1), (4, .iload_n 3, 1), (5, .aload_n 0, 1), (6, .getfield 98, 3), (9, .iconst 2, 1), (10, .iaload, 1), (11, .if_icmp .ge 28, 3), (14, .aload_n 0, 1), (15, .getfield 98, 3), (18, .bipush 72, 2), (20, .iload_n 3, 1), (21, .iadd, 1), (22, .iaload, 1), (23, .iload_n 1, 1), (24, .if_icmp .ne 9, 3), (27, .iload_n 2, 1), (28, .iconst 1, 1), (29, .iload_n 3, 1), (30, .ishl, 1), (31, .ior, 1), (32, .istore_n 2, 1), (33, .iinc 3 1, 3), (36, .goto (-32), 3), (39, .iload_n 2, 1), (40, .ireturn, 1)]
set_option maxRecDepth 20000 in
theorem me_X12_sheetsIn : zdecs cX12_sheetsIn md_X12_sheetsIn := by
  unfold zdecs md_X12_sheetsIn
  decide +kernel
def md_X12_isOpen : List (Nat × Instr × Nat) := [(0, .aload_n 0, 1), (1, .iload_n 1, 1), (2, .invokevirtual 237, 3), (5, .invokestatic 240, 3), (8, .aload_n 0, 1), (9, .getfield 98, 3), (12, .bipush 6, 2), (14, .iload_n 1, 1), (15, .iadd, 1), (16, .iaload, 1), (17, .if_icmp .ge 28, 3), (20, .aload_n 0, 1), (21, .getfield 98, 3), (24, .bipush 58, 2), (26, .iload_n 1, 1), (27, .iadd, 1), (28, .iaload, 1), (29, .aload_n 0, 1), (30, .getfield 98, 3), (33, .bipush 12, 2), (35, .iload_n 1, 1), (36, .iadd, 1), (37, .iaload, 1), (38, .if_icmp .ge 7, 3), (41, .iconst 1, 1), (42, .goto 4, 3), (45, .iconst 0, 1), (46, .ireturn, 1)]
set_option maxRecDepth 20000 in
theorem me_X12_isOpen : zdecs cX12_isOpen md_X12_isOpen := by
  unfold zdecs md_X12_isOpen
  decide +kernel
def md_X12_nextOf : List (Nat × Instr × Nat) := [(0, .iload_n 2, 1), (1, .iconst 1, 1), (2, .iadd, 1), (3, .istore_n 3, 1), (4, .iload_n 3, 1), (5, .aload_n 0, 1), (6, .getfield 98, 3), (9, .iconst 0, 1), (10, .iaload, 1), (11, .if_icmp .ge 20, 3), (14, .aload_n 0, 1), (15, .iload_n 1, 1), (16, .iload_n 3, 1), (17, .invokevirtual 243, 3), (20, .ifCond .le 5, 3), (23, .iload_n 3, 1), (24, .ireturn, 1), (25, .iinc 3 1, 3), (28, .goto (-24), 3), (31, .iconst (-1), 1), (32, .ireturn, 1)]
set_option maxRecDepth 20000 in
theorem me_X12_nextOf : zdecs cX12_nextOf md_X12_nextOf := by
  unfold zdecs md_X12_nextOf
  decide +kernel
def md_X12_needOf : List (Nat × Instr × Nat) := [(0, .iconst 0, 1), (1, .istore_n 2, 1), (2, .iconst 0, 1), (3, .istore_n 3, 1), (4, .iload_n 3, 1), (5, .aload_n 0, 1), (6, .getfield 98, 3), (9, .iconst 2, 1), (10, .iaload, 1), (11, .if_icmp .ge 50, 3), (14, .aload_n 0, 1), (15, .iload_n 3, 1), (16, .iload_n 1, 1), (17, .invokevirtual 243, 3), (20, .ifCond .le 35, 3), (23, .aload_n 0, 1), (24, .iload_n 3, 1), (25, .invokevirtual 246, 3), (28, .ifCond .ne 24, 3), (31, .aload_n 0, 1), (32, .iload_n 3, 1), (33, .invokevirtual 230, 3), (36, .ifCond .eq 19, 3), (39, .aload_n 0, 1), (40, .getfield 98, 3), (43, .bipush 72, 2), (45, .iload_n 3, 1), (46, .iadd, 1), (47, .iaload, 1), (48, .iload_n 1, 1), (49, .if_icmp .ge 6, 3), (52, .iinc 2 1, 3), (55, .iinc 3 1, 3), (58, .goto (-54), 3), (61, .iload_n 2, 1), (62, .aload_n 0, 1), (63, .getfield 98, 3), (66, .bipush 12, 2), (68, .iload_n 1, 1), (69, .iadd, 1), (70, .iaload, 1), (71, .aload_n 0, 1), (72, .getfield 98, 3), (75, .bipush 58, 2), (77, .iload_n 1, 1), (78, .iadd, 1), (79, .iaload, 1), (80, .isub, 1), (81, .isub, 1), (82, .istore_n 3, 1), (83, .iload_n 3, 1), (84, .ifCond .gt 7, 3), (87, .iconst 0, 1), (88, .goto 26, 3), (91, .iload_n 3, 1), (92, .aload_n 0, 1), (93, .getfield 98, 3), (96, .bipush 12, 2), (98, .iload_n 1, 1), (99, .iadd, 1), (100, .iaload, 1), (101, .iadd, 1), (102, .iconst 1, 1), (103, .isub, 1), (104, .aload_n 0, 1), (105, .getfield 98, 3), (108, .bipush 12, 2), (110, .iload_n 1, 1), (111, .iadd, 1), (112, .iaload, 1), (113, .idiv, 1), (114, .ireturn, 1)]
set_option maxRecDepth 20000 in
theorem me_X12_needOf : zdecs cX12_needOf md_X12_needOf := by
  unfold zdecs md_X12_needOf
  decide +kernel
def md_X12_bath : List (Nat × Instr × Nat) := [(0, .aload_n 0, 1), (1, .iconst 0, 1), (2, .putfield 1, 3), (5, .aload_n 0, 1), (6, .iload_n 1, 1), (7, .invokevirtual 249, 3), (10, .ifCond .ne 5, 3), (13, .iconst (-1), 1), (14, .ireturn, 1), (15, .iload_n 2, 1), (16, .tableswitch 96 0 5 #[40, 50, 60, 70, 76, 90], 40), (56, .aload_n 0, 1), (57, .getfield 98, 3), (60, .bipush 6, 2), (62, .iload_n 1, 1), (63, .iadd, 1), (64, .iaload, 1), (65, .ireturn, 1), (66, .aload_n 0, 1), (67, .getfield 98, 3), (70, .bipush 12, 2), (72, .iload_n 1, 1), (73, .iadd, 1), (74, .iaload, 1), (75, .ireturn, 1), (76, .aload_n 0, 1), (77, .getfield 98, 3), (80, .bipush 58, 2), (82, .iload_n 1, 1), (83, .iadd, 1), (84, .iaload, 1), (85, .ireturn, 1), (86, .aload_n 0, 1), (87, .iload_n 1, 1), (88, .invokevirtual 237, 3), (91, .ireturn, 1), (92, .aload_n 0, 1), (93, .iload_n 1, 1), (94, .invokevirtual 252, 3), (97, .ifCond .eq 7, 3), (100, .iconst 1, 1), (101, .goto 4, 3), (104, .iconst 0, 1), (105, .ireturn, 1), (106, .aload_n 0, 1), (107, .iload_n 1, 1), (108, .invokevirtual 255, 3), (111, .ireturn, 1), (112, .iconst (-1), 1), (113, .ireturn, 1)]
set_option maxRecDepth 20000 in
theorem me_X12_bath : zdecs cX12_bath md_X12_bath := by
  unfold zdecs md_X12_bath
  decide +kernel
def md_X12_asks : List (Nat × Instr × Nat) := [(0, .aload_n 0, 1), (1, .iconst 0, 1), (2, .putfield 1, 3), (5, .aload_n 0, 1), (6, .iload_n 1, 1), (7, .invokevirtual 258, 3), (10, .ifCond .eq 20, 3), (13, .aload_n 0, 1), (14, .iload_n 2, 1), (15, .invokevirtual 249, 3), (18, .ifCond .eq 12, 3), (21, .aload_n 0, 1), (22, .iload_n 1, 1), (23, .iload_n 2, 1), (24, .invokevirtual 233, 3), (27, .goto 4, 3), (30, .iconst (-1), 1), (31, .ireturn, 1)]
set_option maxRecDepth 20000 in
theorem me_X12_asks : zdecs cX12_asks md_X12_asks := by
  unfold zdecs md_X12_asks
  decide +kernel
def md_X12_sheet : List (Nat × Instr × Nat) := [(0, .aload_n 0, 1), (1, .iconst 0, 1), (2, .putfield 1, 3), (5, .aload_n 0, 1), (6, .iload_n 1, 1), (7, .invokevirtual 261, 3), (10, .ifCond .ne 8, 3), (13, .aload_n 0, 1), (14, .invokevirtual 264, 3), (17, .ireturn, 1), (18, .iload_n 2, 1), (19, .tableswitch 111 0 6 #[41, 51, 61, 71, 81, 91, 101], 41), (60, .aload_n 0, 1), (61, .getfield 98, 3), (64, .bipush 48, 2), (66, .iload_n 1, 1), (67, .iadd, 1), (68, .iaload, 1), (69, .ireturn, 1), (70, .aload_n 0, 1), (71, .getfield 98, 3), (74, .bipush 64, 2), (76, .iload_n 1, 1), (77, .iadd, 1), (78, .iaload, 1), (79, .ireturn, 1), (80, .aload_n 0, 1), (81, .getfield 98, 3), (84, .bipush 72, 2), (86, .iload_n 1, 1), (87, .iadd, 1), (88, .iaload, 1), (89, .ireturn, 1), (90, .aload_n 0, 1), (91, .getfield 98, 3), (94, .bipush 80, 2), (96, .iload_n 1, 1), (97, .iadd, 1), (98, .iaload, 1), (99, .ireturn, 1), (100, .aload_n 0, 1), (101, .getfield 98, 3), (104, .bipush 88, 2), (106, .iload_n 1, 1), (107, .iadd, 1), (108, .iaload, 1), (109, .ireturn, 1), (110, .aload_n 0, 1), (111, .getfield 98, 3), (114, .bipush 96, 2), (116, .iload_n 1, 1), (117, .iadd, 1), (118, .iaload, 1), (119, .ireturn, 1), (120, .aload_n 0, 1), (121, .getfield 98, 3), (124, .bipush 104, 2), (126, .iload_n 1, 1), (127, .iadd, 1), (128, .iaload, 1), (129, .ireturn, 1), (130, .aload_n 0, 1), (131, .invokevirtual 264, 3), (134, .ireturn, 1)]
set_option maxRecDepth 20000 in
theorem me_X12_sheet : zdecs cX12_sheet md_X12_sheet := by
  unfold zdecs md_X12_sheet
  decide +kernel
def md_X12_those : List (Nat × Instr × Nat) := [(0, .iconst 0, 1), (1, .istore_n 2, 1), (2, .iconst 0, 1), (3, .istore_n 3, 1), (4, .iload_n 3, 1), (5, .aload_n 0, 1), (6, .getfield 98, 3), (9, .iconst 2, 1), (10, .iaload, 1), (11, .if_icmp .ge 28, 3), (14, .aload_n 0, 1), (15, .getfield 98, 3), (18, .bipush 64, 2), (20, .iload_n 3, 1), (21, .iadd, 1), (22, .iaload, 1), (23, .iload_n 1, 1), (24, .if_icmp .ne 9, 3), (27, .iload_n 2, 1), (28, .iconst 1, 1), (29, .iload_n 3, 1), (30, .ishl, 1), (31, .ior, 1), (32, .istore_n 2, 1), (33, .iinc 3 1, 3), (36, .goto (-32), 3), (39, .iload_n 2, 1), (40, .ireturn, 1)]
set_option maxRecDepth 20000 in
theorem me_X12_those : zdecs cX12_those md_X12_those := by
  unfold zdecs md_X12_those
  decide +kernel
def md_X12_now : List (Nat × Instr × Nat) := [(0, .aload_n 0, 1), (1, .iconst 0, 1), (2, .putfield 1, 3), (5, .iconst 0, 1), (6, .istore_n 2, 1), (7, .iload_n 1, 1), (8, .tableswitch 140 0 7 #[48, 56, 56, 56, 56, 64, 98, 132], 48), (56, .aload_n 0, 1), (57, .getfield 98, 3), (60, .bipush 56, 2), (62, .iaload, 1), (63, .ireturn, 1), (64, .aload_n 0, 1), (65, .iload_n 1, 1), (66, .iconst 1, 1), (67, .isub, 1), (68, .invokevirtual 267, 3), (71, .ireturn, 1), (72, .iconst 0, 1), (73, .istore_n 3, 1), (74, .iload_n 3, 1), (75, .aload_n 0, 1), (76, .getfield 98, 3), (79, .iconst 2, 1), (80, .iaload, 1), (81, .if_icmp .ge 23, 3), (84, .aload_n 0, 1), (85, .iload_n 3, 1), (86, .invokevirtual 270, 3), (89, .ifCond .eq 9, 3), (92, .iload_n 2, 1), (93, .iconst 1, 1), (94, .iload_n 3, 1), (95, .ishl, 1), (96, .ior, 1), (97, .istore_n 2, 1), (98, .iinc 3 1, 3), (101, .goto (-27), 3), (104, .iload_n 2, 1), (105, .ireturn, 1), (106, .iconst 0, 1), (107, .istore_n 3, 1), (108, .iload_n 3, 1), (109, .aload_n 0, 1), (110, .getfield 98, 3), (113, .iconst 0, 1), (114, .iaload, 1), (115, .if_icmp .ge 23, 3), (118, .aload_n 0, 1), (119, .iload_n 3, 1), (120, .invokevirtual 252, 3), (123, .ifCond .eq 9, 3), (126, .iload_n 2, 1), (127, .iconst 1, 1), (128, .iload_n 3, 1), (129, .ishl, 1), (130, .ior, 1), (131, .istore_n 2, 1), (132, .iinc 3 1, 3), (135, .goto (-27), 3), (138, .iload_n 2, 1), (139, .ireturn, 1), (140, .aload_n 0, 1), (141, .getfield 98, 3), (144, .bipush 57, 2), (146, .iaload, 1), (147, .ireturn, 1), (148, .iconst (-1), 1), (149, .ireturn, 1)]
set_option maxRecDepth 20000 in
theorem me_X12_now : zdecs cX12_now md_X12_now := by
  unfold zdecs md_X12_now
  decide +kernel
def md_X12_snap : List (Nat × Instr × Nat) := [(0, .aload_n 0, 1), (1, .getfield 227, 3), (4, .bipush 8, 2), (6, .if_icmp .ne 43, 3), (9, .iconst 0, 1), (10, .istore_n 1, 1), (11, .iload_n 1, 1), (12, .sipush 392, 3), (15, .if_icmp .ge 24, 3), (18, .aload_n 0, 1), (19, .getfield 107, 3), (22, .iload_n 1, 1), (23, .aload_n 0, 1), (24, .getfield 107, 3), (27, .iload_n 1, 1), (28, .bipush 56, 2), (30, .iadd, 1), (31, .iaload, 1), (32, .iastore, 1), (33, .iinc 1 1, 3), (36, .goto (-25), 3), (39, .aload_n 0, 1), (40, .dup, 1), (41, .getfield 227, 3), (44, .iconst 1, 1), (45, .isub, 1), (46, .putfield 227, 3), (49, .aload_n 0, 1), (50, .aload_n 0, 1), (51, .getfield 107, 3), (54, .bipush 56, 2), (56, .aload_n 0, 1), (57, .getfield 227, 3), (60, .imul, 1), (61, .invokevirtual 273, 3), (64, .aload_n 0, 1), (65, .dup, 1), (66, .getfield 227, 3), (69, .iconst 1, 1), (70, .iadd, 1), (71, .putfield 227, 3), (74, .return_, 1)]
set_option maxRecDepth 20000 in
theorem me_X12_snap : zdecs cX12_snap md_X12_snap := by
  unfold zdecs md_X12_snap
  decide +kernel
def md_X12_save : List (Nat × Instr × Nat) := [(0, .iconst 0, 1), (1, .istore_n 3, 1), (2, .iload_n 3, 1), (3, .bipush 56, 2), (5, .if_icmp .ge 23, 3), (8, .aload_n 1, 1), (9, .iload_n 2, 1), (10, .iload_n 3, 1), (11, .iadd, 1), (12, .aload_n 0, 1), (13, .getfield 98, 3), (16, .bipush 56, 2), (18, .iload_n 3, 1), (19, .iadd, 1), (20, .iaload, 1), (21, .iastore, 1), (22, .iinc 3 1, 3), (25, .goto (-23), 3), (28, .return_, 1)]
set_option maxRecDepth 20000 in
theorem me_X12_save : zdecs cX12_save md_X12_save := by
  unfold zdecs md_X12_save
  decide +kernel
def md_X12_comeBack : List (Nat × Instr × Nat) := [(0, .iconst 0, 1), (1, .istore_n 3, 1), (2, .iload_n 3, 1), (3, .bipush 56, 2), (5, .if_icmp .ge 23, 3), (8, .aload_n 0, 1), (9, .getfield 98, 3), (12, .bipush 56, 2), (14, .iload_n 3, 1), (15, .iadd, 1), (16, .aload_n 1, 1), (17, .iload_n 2, 1), (18, .iload_n 3, 1), (19, .iadd, 1), (20, .iaload, 1), (21, .iastore, 1), (22, .iinc 3 1, 3), (25, .goto (-23), 3), (28, .return_, 1)]
set_option maxRecDepth 20000 in
theorem me_X12_comeBack : zdecs cX12_comeBack md_X12_comeBack := by
  unfold zdecs md_X12_comeBack
  decide +kernel
def md_X12_whyStart : List (Nat × Instr × Nat) := [(0, .aload_n 0, 1), (1, .iload_n 1, 1), (2, .invokevirtual 246, 3), (5, .ifCond .ne 5, 3), (8, .iconst 1, 1), (9, .ireturn, 1), (10, .aload_n 0, 1), (11, .iload_n 1, 1), (12, .iconst (-1), 1), (13, .invokevirtual 277, 3), (16, .istore_n 2, 1), (17, .iload_n 2, 1), (18, .iconst (-1), 1), (19, .if_icmp .eq 15, 3), (22, .aload_n 0, 1), (23, .iload_n 2, 1), (24, .invokevirtual 252, 3), (27, .ifCond .ne 7, 3), (30, .iconst 2, 1), (31, .goto 4, 3), (34, .iconst 0, 1), (35, .ireturn, 1)]
set_option maxRecDepth 20000 in
theorem me_X12_whyStart : zdecs cX12_whyStart md_X12_whyStart := by
  unfold zdecs md_X12_whyStart
  decide +kernel
def md_X12_whyRenew : List (Nat × Instr × Nat) := [(0, .aload_n 0, 1), (1, .getfield 98, 3), (4, .bipush 58, 2), (6, .iload_n 1, 1), (7, .iadd, 1), (8, .iaload, 1), (9, .ifCond .ne 7, 3), (12, .iconst 1, 1), (13, .goto 30, 3), (16, .aload_n 0, 1), (17, .getfield 98, 3), (20, .bipush 57, 2), (22, .iaload, 1), (23, .ifCond .ne 7, 3), (26, .iconst 2, 1), (27, .goto 16, 3), (30, .aload_n 0, 1), (31, .iload_n 1, 1), (32, .invokevirtual 237, 3), (35, .ifCond .eq 7, 3), (38, .iconst 3, 1), (39, .goto 4, 3), (42, .iconst 0, 1), (43, .ireturn, 1)]
set_option maxRecDepth 20000 in
theorem me_X12_whyRenew : zdecs cX12_whyRenew md_X12_whyRenew := by
  unfold zdecs md_X12_whyRenew
  decide +kernel
def md_X12_why : List (Nat × Instr × Nat) := [(0, .iload_n 1, 1), (1, .tableswitch 66 0 2 #[27, 33, 47], 27), (28, .aload_n 0, 1), (29, .iload_n 2, 1), (30, .invokevirtual 280, 3), (33, .ireturn, 1), (34, .aload_n 0, 1), (35, .iload_n 2, 1), (36, .invokevirtual 230, 3), (39, .ifCond .eq 7, 3), (42, .iconst 0, 1), (43, .goto 4, 3), (46, .iconst 1, 1), (47, .ireturn, 1), (48, .aload_n 0, 1), (49, .getfield 98, 3), (52, .bipush 64, 2), (54, .iload_n 2, 1), (55, .iadd, 1), (56, .iaload, 1), (57, .iconst 3, 1), (58, .if_icmp .ne 7, 3), (61, .iconst 0, 1), (62, .goto 4, 3), (65, .iconst 1, 1), (66, .ireturn, 1), (67, .aload_n 0, 1), (68, .iload_n 2, 1), (69, .invokevirtual 283, 3), (72, .ireturn, 1)]
set_option maxRecDepth 20000 in
theorem me_X12_why : zdecs cX12_why md_X12_why := by
  unfold zdecs md_X12_why
  decide +kernel
def md_X12_comesInto : List (Nat × Instr × Nat) := [(0, .aload_n 0, 1), (1, .getfield 98, 3), (4, .bipush 64, 2), (6, .iload_n 1, 1), (7, .iadd, 1), (8, .iconst 1, 1), (9, .iastore, 1), (10, .aload_n 0, 1), (11, .getfield 98, 3), (14, .bipush 72, 2), (16, .iload_n 1, 1), (17, .iadd, 1), (18, .iload_n 2, 1), (19, .iastore, 1), (20, .aload_n 0, 1), (21, .getfield 98, 3), (24, .bipush 80, 2), (26, .iload_n 1, 1), (27, .iadd, 1), (28, .aload_n 0, 1), (29, .iload_n 1, 1), (30, .iload_n 2, 1), (31, .invokevirtual 243, 3), (34, .iconst 2, 1), (35, .aload_n 0, 1), (36, .getfield 98, 3), (39, .bipush 58, 2), (41, .iload_n 2, 1), (42, .iadd, 1), (43, .iaload, 1), (44, .imul, 1), (45, .aload_n 0, 1), (46, .getfield 98, 3), (49, .bipush 12, 2), (51, .iload_n 2, 1), (52, .iadd, 1), (53, .iaload, 1), (54, .if_icmp .lt 12, 3), (57, .aload_n 0, 1), (58, .getfield 98, 3), (61, .iconst 4, 1), (62, .iaload, 1), (63, .goto 4, 3), (66, .iconst 0, 1), (67, .iadd, 1), (68, .iastore, 1), (69, .aload_n 0, 1), (70, .getfield 98, 3), (73, .bipush 88, 2), (75, .iload_n 1, 1), (76, .iadd, 1), (77, .iconst 0, 1), (78, .iastore, 1), (79, .aload_n 0, 1), (80, .getfield 98, 3), (83, .bipush 58, 2), (85, .iload_n 2, 1), (86, .iadd, 1), (87, .dup2, 1), (88, .iaload, 1), (89, .iconst 1, 1), (90, .iadd, 1), (91, .iastore, 1), (92, .return_, 1)]
set_option maxRecDepth 20000 in
theorem me_X12_comesInto : zdecs cX12_comesInto md_X12_comesInto := by
  unfold zdecs md_X12_comesInto
  decide +kernel
def md_X12_goesOut : List (Nat × Instr × Nat) := [(0, .aload_n 0, 1), (1, .getfield 98, 3), (4, .bipush 64, 2), (6, .iload_n 1, 1), (7, .iadd, 1), (8, .iload_n 2, 1), (9, .iastore, 1), (10, .aload_n 0, 1), (11, .getfield 98, 3), (14, .bipush 72, 2), (16, .iload_n 1, 1), (17, .iadd, 1), (18, .iconst (-1), 1), (19, .iastore, 1), (20, .aload_n 0, 1), (21, .getfield 98, 3), (24, .bipush 80, 2), (26, .iload_n 1, 1), (27, .iadd, 1), (28, .iconst 0, 1), (29, .iastore, 1), (30, .aload_n 0, 1), (31, .getfield 98, 3), (34, .bipush 88, 2), (36, .iload_n 1, 1), (37, .iadd, 1), (38, .iconst 0, 1), (39, .iastore, 1), (40, .return_, 1)]
set_option maxRecDepth 20000 in
theorem me_X12_goesOut : zdecs cX12_goesOut md_X12_goesOut := by
  unfold zdecs md_X12_goesOut
  decide +kernel
def md_X12_starts : List (Nat × Instr × Nat) := [(0, .aload_n 0, 1), (1, .getfield 98, 3), (4, .bipush 96, 2), (6, .iload_n 1, 1), (7, .iadd, 1), (8, .iconst 0, 1), (9, .iastore, 1), (10, .aload_n 0, 1), (11, .getfield 98, 3), (14, .bipush 104, 2), (16, .iload_n 1, 1), (17, .iadd, 1), (18, .dup2, 1), (19, .iaload, 1), (20, .iconst 1, 1), (21, .iadd, 1), (22, .iastore, 1), (23, .aload_n 0, 1), (24, .iload_n 1, 1), (25, .iconst (-1), 1), (26, .invokevirtual 277, 3), (29, .istore_n 2, 1), (30, .iload_n 2, 1), (31, .iconst (-1), 1), (32, .if_icmp .ne 12, 3), (35, .aload_n 0, 1), (36, .iload_n 1, 1), (37, .iconst 2, 1), (38, .invokevirtual 286, 3), (41, .goto 9, 3), (44, .aload_n 0, 1), (45, .iload_n 1, 1), (46, .iload_n 2, 1), (47, .invokevirtual 290, 3), (50, .return_, 1)]
set_option maxRecDepth 20000 in
theorem me_X12_starts : zdecs cX12_starts md_X12_starts := by
  unfold zdecs md_X12_starts
  decide +kernel
def md_X12_live : List (Nat × Instr × Nat) := [(0, .iload_n 1, 1), (1, .tableswitch 47 0 2 #[27, 33, 40], 27), (28, .aload_n 0, 1), (29, .iload_n 2, 1), (30, .invokevirtual 293, 3), (33, .return_, 1), (34, .aload_n 0, 1), (35, .iload_n 2, 1), (36, .iconst 3, 1), (37, .invokevirtual 286, 3), (40, .return_, 1), (41, .aload_n 0, 1), (42, .iload_n 2, 1), (43, .iconst 0, 1), (44, .invokevirtual 286, 3), (47, .return_, 1), (48, .aload_n 0, 1), (49, .getfield 98, 3), (52, .bipush 58, 2), (54, .iload_n 2, 1), (55, .iadd, 1), (56, .iconst 0, 1), (57, .iastore, 1), (58, .aload_n 0, 1), (59, .getfield 98, 3), (62, .bipush 57, 2), (64, .dup2, 1), (65, .iaload, 1), (66, .iconst 1, 1), (67, .isub, 1), (68, .iastore, 1), (69, .return_, 1)]
set_option maxRecDepth 20000 in
theorem me_X12_live : zdecs cX12_live md_X12_live := by
  unfold zdecs md_X12_live
  decide +kernel
def md_X12_act : List (Nat × Instr × Nat) := [(0, .iload_n 3, 1), (1, .ifCond .ne 5, 3), (4, .iconst (-1), 1), (5, .ireturn, 1), (6, .aload_n 0, 1), (7, .iload_n 1, 1), (8, .iload_n 2, 1), (9, .invokevirtual 296, 3), (12, .istore 4, 2), (14, .iload 4, 2), (16, .ifCond .eq 6, 3), (19, .iload 4, 2), (21, .ireturn, 1), (22, .aload_n 0, 1), (23, .invokevirtual 299, 3), (26, .aload_n 0, 1), (27, .iload_n 1, 1), (28, .iload_n 2, 1), (29, .invokevirtual 302, 3), (32, .iconst 0, 1), (33, .ireturn, 1)]
set_option maxRecDepth 20000 in
theorem me_X12_act : zdecs cX12_act md_X12_act := by
  unfold zdecs md_X12_act
  decide +kernel
def md_X12_start : List (Nat × Instr × Nat) := [(0, .aload_n 0, 1), (1, .iconst 0, 1), (2, .putfield 1, 3), (5, .aload_n 0, 1), (6, .iconst 0, 1), (7, .iload_n 1, 1), (8, .aload_n 0, 1), (9, .iload_n 1, 1), (10, .invokevirtual 261, 3), (13, .invokevirtual 305, 3), (16, .ireturn, 1)]
set_option maxRecDepth 20000 in
theorem me_X12_start : zdecs cX12_start md_X12_start := by
  unfold zdecs md_X12_start
  decide +kernel
def md_X12_take_ : List (Nat × Instr × Nat) := [(0, .aload_n 0, 1), (1, .iconst 0, 1), (2, .putfield 1, 3), (5, .aload_n 0, 1), (6, .iconst 1, 1), (7, .iload_n 1, 1), (8, .aload_n 0, 1), (9, .iload_n 1, 1), (10, .invokevirtual 261, 3), (13, .invokevirtual 305, 3), (16, .ireturn, 1)]
set_option maxRecDepth 20000 in
theorem me_X12_take_ : zdecs cX12_take_ md_X12_take_ := by
  unfold zdecs md_X12_take_
  decide +kernel
def md_X12_again : List (Nat × Instr × Nat) := [(0, .aload_n 0, 1), (1, .iconst 0, 1), (2, .putfield 1, 3), (5, .aload_n 0, 1), (6, .iconst 2, 1), (7, .iload_n 1, 1), (8, .aload_n 0, 1), (9, .iload_n 1, 1), (10, .invokevirtual 261, 3), (13, .invokevirtual 305, 3), (16, .ireturn, 1)]
set_option maxRecDepth 20000 in
theorem me_X12_again : zdecs cX12_again md_X12_again := by
  unfold zdecs md_X12_again
  decide +kernel
def md_X12_renew : List (Nat × Instr × Nat) := [(0, .aload_n 0, 1), (1, .iconst 0, 1), (2, .putfield 1, 3), (5, .aload_n 0, 1), (6, .iconst 3, 1), (7, .iload_n 1, 1), (8, .aload_n 0, 1), (9, .iload_n 1, 1), (10, .invokevirtual 249, 3), (13, .invokevirtual 305, 3), (16, .ireturn, 1)]
set_option maxRecDepth 20000 in
theorem me_X12_renew : zdecs cX12_renew md_X12_renew := by
  unfold zdecs md_X12_renew
  decide +kernel
def md_X12_undo : List (Nat × Instr × Nat) := [(0, .aload_n 0, 1), (1, .iconst 0, 1), (2, .putfield 1, 3), (5, .aload_n 0, 1), (6, .getfield 227, 3), (9, .ifCond .ne 5, 3), (12, .iconst (-1), 1), (13, .ireturn, 1), (14, .aload_n 0, 1), (15, .dup, 1), (16, .getfield 227, 3), (19, .iconst 1, 1), (20, .isub, 1), (21, .putfield 227, 3), (24, .aload_n 0, 1), (25, .aload_n 0, 1), (26, .getfield 107, 3), (29, .bipush 56, 2), (31, .aload_n 0, 1), (32, .getfield 227, 3), (35, .imul, 1), (36, .invokevirtual 309, 3), (39, .aload_n 0, 1), (40, .getfield 227, 3), (43, .ireturn, 1)]
set_option maxRecDepth 20000 in
theorem me_X12_undo : zdecs cX12_undo md_X12_undo := by
  unfold zdecs md_X12_undo
  decide +kernel
def md_X12_bathes : List (Nat × Instr × Nat) := [(0, .aload_n 0, 1), (1, .getfield 98, 3), (4, .bipush 80, 2), (6, .iload_n 1, 1), (7, .iadd, 1), (8, .iaload, 1), (9, .ifCond .le 16, 3), (12, .aload_n 0, 1), (13, .getfield 98, 3), (16, .bipush 80, 2), (18, .iload_n 1, 1), (19, .iadd, 1), (20, .dup2, 1), (21, .iaload, 1), (22, .iconst 1, 1), (23, .isub, 1), (24, .iastore, 1), (25, .aload_n 0, 1), (26, .getfield 98, 3), (29, .bipush 80, 2), (31, .iload_n 1, 1), (32, .iadd, 1), (33, .iaload, 1), (34, .ifCond .le 4, 3), (37, .return_, 1), (38, .aload_n 0, 1), (39, .iload_n 1, 1), (40, .iload_n 2, 1), (41, .invokevirtual 277, 3), (44, .istore_n 3, 1), (45, .iload_n 3, 1), (46, .iconst (-1), 1), (47, .if_icmp .ne 12, 3), (50, .aload_n 0, 1), (51, .iload_n 1, 1), (52, .iconst 2, 1), (53, .invokevirtual 286, 3), (56, .goto 73, 3), (59, .aload_n 0, 1), (60, .iload_n 3, 1), (61, .invokevirtual 252, 3), (64, .ifCond .eq 12, 3), (67, .aload_n 0, 1), (68, .iload_n 1, 1), (69, .iload_n 3, 1), (70, .invokevirtual 290, 3), (73, .goto 56, 3), (76, .aload_n 0, 1), (77, .getfield 98, 3), (80, .bipush 88, 2), (82, .iload_n 1, 1), (83, .iadd, 1), (84, .iaload, 1), (85, .aload_n 0, 1), (86, .getfield 98, 3), (89, .iconst 3, 1), (90, .iaload, 1), (91, .if_icmp .ne 12, 3), (94, .aload_n 0, 1), (95, .iload_n 1, 1), (96, .iconst 3, 1), (97, .invokevirtual 286, 3), (100, .goto 29, 3), (103, .aload_n 0, 1), (104, .getfield 98, 3), (107, .bipush 88, 2), (109, .iload_n 1, 1), (110, .iadd, 1), (111, .dup2, 1), (112, .iaload, 1), (113, .iconst 1, 1), (114, .iadd, 1), (115, .iastore, 1), (116, .aload_n 0, 1), (117, .getfield 98, 3), (120, .bipush 96, 2), (122, .iload_n 1, 1), (123, .iadd, 1), (124, .dup2, 1), (125, .iaload, 1), (126, .iconst 1, 1), (127, .iadd, 1), (128, .iastore, 1), (129, .return_, 1)]
set_option maxRecDepth 20000 in
theorem me_X12_bathes : zdecs cX12_bathes md_X12_bathes := by
  unfold zdecs md_X12_bathes
  decide +kernel
def md_X12_oneMinute : List (Nat × Instr × Nat) := [(0, .aload_n 0, 1), (1, .getfield 98, 3), (4, .iconst 0, 1), (5, .iaload, 1), (6, .iconst 1, 1), (7, .isub, 1), (8, .istore_n 1, 1), (9, .iload_n 1, 1), (10, .ifCond .lt 46, 3), (13, .iconst 0, 1), (14, .istore_n 2, 1), (15, .iload_n 2, 1), (16, .aload_n 0, 1), (17, .getfield 98, 3), (20, .iconst 2, 1), (21, .iaload, 1), (22, .if_icmp .ge 28, 3), (25, .aload_n 0, 1), (26, .getfield 98, 3), (29, .bipush 72, 2), (31, .iload_n 2, 1), (32, .iadd, 1), (33, .iaload, 1), (34, .iload_n 1, 1), (35, .if_icmp .ne 9, 3), (38, .aload_n 0, 1), (39, .iload_n 2, 1), (40, .iload_n 1, 1), (41, .invokevirtual 312, 3), (44, .iinc 2 1, 3), (47, .goto (-32), 3), (50, .iinc 1 (-1), 3), (53, .goto (-44), 3), (56, .aload_n 0, 1), (57, .getfield 98, 3), (60, .bipush 56, 2), (62, .dup2, 1), (63, .iaload, 1), (64, .iconst 1, 1), (65, .iadd, 1), (66, .iastore, 1), (67, .return_, 1)]
set_option maxRecDepth 20000 in
theorem me_X12_oneMinute : zdecs cX12_oneMinute md_X12_oneMinute := by
  unfold zdecs md_X12_oneMinute
  decide +kernel
def md_X12_passMinutes : List (Nat × Instr × Nat) := [(0, .iload_n 1, 1), (1, .sipush 1000, 3), (4, .aload_n 0, 1), (5, .getfield 98, 3), (8, .bipush 56, 2), (10, .iaload, 1), (11, .isub, 1), (12, .invokestatic 315, 3), (15, .istore_n 2, 1), (16, .aload_n 0, 1), (17, .iload_n 2, 1), (18, .invokevirtual 318, 3), (21, .iload_n 2, 1), (22, .ireturn, 1)]
set_option maxRecDepth 20000 in
theorem me_X12_passMinutes : zdecs cX12_passMinutes md_X12_passMinutes := by
  unfold zdecs md_X12_passMinutes
  decide +kernel
def md_X12_goOn : List (Nat × Instr × Nat) := [(0, .iconst 0, 1), (1, .istore_n 2, 1), (2, .iload_n 2, 1), (3, .iload_n 1, 1), (4, .if_icmp .ge 13, 3), (7, .aload_n 0, 1), (8, .invokevirtual 321, 3), (11, .iinc 2 1, 3), (14, .goto (-12), 3), (17, .return_, 1)]
set_option maxRecDepth 20000 in
theorem me_X12_goOn : zdecs cX12_goOn md_X12_goOn := by
  unfold zdecs md_X12_goOn
  decide +kernel
def md_X12_minutes : List (Nat × Instr × Nat) := [(0, .aload_n 0, 1), (1, .iconst 0, 1), (2, .putfield 1, 3), (5, .iload_n 1, 1), (6, .iconst 1, 1), (7, .bipush 60, 2), (9, .invokestatic 75, 3), (12, .ifCond .ne 5, 3), (15, .iconst (-1), 1), (16, .ireturn, 1), (17, .aload_n 0, 1), (18, .getfield 98, 3), (21, .bipush 56, 2), (23, .iaload, 1), (24, .sipush 1000, 3), (27, .if_icmp .ne 5, 3), (30, .iconst 0, 1), (31, .ireturn, 1), (32, .aload_n 0, 1), (33, .invokevirtual 299, 3), (36, .aload_n 0, 1), (37, .iload_n 1, 1), (38, .invokevirtual 324, 3), (41, .ireturn, 1)]
set_option maxRecDepth 20000 in
theorem me_X12_minutes : zdecs cX12_minutes md_X12_minutes := by
  unfold zdecs md_X12_minutes
  decide +kernel
def md_X12_when : List (Nat × Instr × Nat) := [(0, .aload_n 0, 1), (1, .iconst 0, 1), (2, .putfield 1, 3), (5, .aload_n 0, 1), (6, .iload_n 1, 1), (7, .invokevirtual 261, 3), (10, .ifCond .ne 5, 3), (13, .iconst (-1), 1), (14, .ireturn, 1), (15, .aload_n 0, 1), (16, .aload_n 0, 1), (17, .getfield 110, 3), (20, .iconst 0, 1), (21, .invokevirtual 273, 3), (24, .iconst 0, 1), (25, .istore_n 2, 1), (26, .iload_n 2, 1), (27, .sipush 300, 3), (30, .if_icmp .gt 21, 3), (33, .aload_n 0, 1), (34, .iload_n 1, 1), (35, .invokevirtual 230, 3), (38, .ifCond .eq 13, 3), (41, .aload_n 0, 1), (42, .invokevirtual 321, 3), (45, .iinc 2 1, 3), (48, .goto (-22), 3), (51, .aload_n 0, 1), (52, .getfield 98, 3), (55, .bipush 64, 2), (57, .iload_n 1, 1), (58, .iadd, 1), (59, .iaload, 1), (60, .iconst 2, 1), (61, .if_icmp .ne 7, 3), (64, .iconst 1, 1), (65, .goto 4, 3), (68, .iconst 0, 1), (69, .istore_n 3, 1), (70, .aload_n 0, 1), (71, .aload_n 0, 1), (72, .getfield 110, 3), (75, .iconst 0, 1), (76, .invokevirtual 309, 3), (79, .iload_n 3, 1), (80, .ifCond .eq 14, 3), (83, .iload_n 2, 1), (84, .sipush 300, 3), (87, .if_icmp .gt 7, 3), (90, .iload_n 2, 1), (91, .goto 4, 3), (94, .iconst (-1), 1), (95, .ireturn, 1)]
set_option maxRecDepth 20000 in
theorem me_X12_when : zdecs cX12_when md_X12_when := by
  unfold zdecs md_X12_when
  decide +kernel
def md_X12_load : List (Nat × Instr × Nat) := [(0, .aload_n 0, 1), (1, .iconst 0, 1), (2, .putfield 1, 3), (5, .aload_n 0, 1), (6, .iload_n 1, 1), (7, .invokevirtual 249, 3), (10, .ifCond .eq 14, 3), (13, .iload_n 2, 1), (14, .iconst 0, 1), (15, .sipush 200, 3), (18, .invokestatic 75, 3), (21, .ifCond .ne 5, 3), (24, .iconst (-1), 1), (25, .ireturn, 1), (26, .aload_n 0, 1), (27, .aload_n 0, 1), (28, .getfield 110, 3), (31, .iconst 0, 1), (32, .invokevirtual 273, 3), (35, .aload_n 0, 1), (36, .iload_n 2, 1), (37, .invokevirtual 318, 3), (40, .aload_n 0, 1), (41, .iload_n 1, 1), (42, .invokevirtual 237, 3), (45, .istore_n 3, 1), (46, .aload_n 0, 1), (47, .aload_n 0, 1), (48, .getfield 110, 3), (51, .iconst 0, 1), (52, .invokevirtual 309, 3), (55, .iload_n 3, 1), (56, .ireturn, 1)]
set_option maxRecDepth 20000 in
theorem me_X12_load : zdecs cX12_load md_X12_load := by
  unfold zdecs md_X12_load
  decide +kernel
def md_X12_spoiltLater : List (Nat × Instr × Nat) := [(0, .aload_n 0, 1), (1, .sipush 200, 3), (4, .invokevirtual 318, 3), (7, .aload_n 0, 1), (8, .iconst 3, 1), (9, .invokevirtual 267, 3), (12, .ireturn, 1)]
set_option maxRecDepth 20000 in
theorem me_X12_spoiltLater : zdecs cX12_spoiltLater md_X12_spoiltLater := by
  unfold zdecs md_X12_spoiltLater
  decide +kernel
def md_X12_isClear : List (Nat × Instr × Nat) := [(0, .aload_n 0, 1), (1, .iload_n 1, 1), (2, .invokevirtual 280, 3), (5, .ifCond .eq 5, 3), (8, .iconst 0, 1), (9, .ireturn, 1), (10, .aload_n 0, 1), (11, .aload_n 0, 1), (12, .getfield 110, 3), (15, .iconst 0, 1), (16, .invokevirtual 273, 3), (19, .aload_n 0, 1), (20, .invokevirtual 327, 3), (23, .istore_n 2, 1), (24, .aload_n 0, 1), (25, .aload_n 0, 1), (26, .getfield 110, 3), (29, .iconst 0, 1), (30, .invokevirtual 309, 3), (33, .aload_n 0, 1), (34, .iload_n 1, 1), (35, .invokevirtual 293, 3), (38, .aload_n 0, 1), (39, .invokevirtual 327, 3), (42, .istore_n 3, 1), (43, .aload_n 0, 1), (44, .getfield 98, 3), (47, .bipush 64, 2), (49, .iload_n 1, 1), (50, .iadd, 1), (51, .iaload, 1), (52, .iconst 2, 1), (53, .if_icmp .ne 15, 3), (56, .iload_n 3, 1), (57, .iload_n 2, 1), (58, .iconst (-1), 1), (59, .ixor, 1), (60, .iand, 1), (61, .ifCond .ne 7, 3), (64, .iconst 1, 1), (65, .goto 4, 3), (68, .iconst 0, 1), (69, .istore 4, 2), (71, .aload_n 0, 1), (72, .aload_n 0, 1), (73, .getfield 110, 3), (76, .iconst 0, 1), (77, .invokevirtual 309, 3), (80, .iload 4, 2), (82, .ireturn, 1)]
set_option maxRecDepth 20000 in
theorem me_X12_isClear : zdecs cX12_isClear md_X12_isClear := by
  unfold zdecs md_X12_isClear
  decide +kernel
def md_X12_waitFor : List (Nat × Instr × Nat) := [(0, .iconst 0, 1), (1, .istore_n 2, 1), (2, .iload_n 2, 1), (3, .bipush 60, 2), (5, .if_icmp .gt 23, 3), (8, .aload_n 0, 1), (9, .iload_n 1, 1), (10, .invokevirtual 330, 3), (13, .ifCond .eq 5, 3), (16, .iload_n 2, 1), (17, .ireturn, 1), (18, .aload_n 0, 1), (19, .invokevirtual 321, 3), (22, .iinc 2 1, 3), (25, .goto (-23), 3), (28, .iconst (-1), 1), (29, .ireturn, 1)]
set_option maxRecDepth 20000 in
theorem me_X12_waitFor : zdecs cX12_waitFor md_X12_waitFor := by
  unfold zdecs md_X12_waitFor
  decide +kernel
def md_X12_clear : List (Nat × Instr × Nat) := [(0, .aload_n 0, 1), (1, .iconst 0, 1), (2, .putfield 1, 3), (5, .aload_n 0, 1), (6, .iload_n 1, 1), (7, .invokevirtual 261, 3), (10, .ifCond .eq 11, 3), (13, .aload_n 0, 1), (14, .iload_n 1, 1), (15, .invokevirtual 246, 3), (18, .ifCond .ne 5, 3), (21, .iconst (-1), 1), (22, .ireturn, 1), (23, .aload_n 0, 1), (24, .aload_n 0, 1), (25, .getfield 113, 3), (28, .iconst 0, 1), (29, .invokevirtual 273, 3), (32, .aload_n 0, 1), (33, .iload_n 1, 1), (34, .invokevirtual 333, 3), (37, .istore_n 2, 1), (38, .aload_n 0, 1), (39, .aload_n 0, 1), (40, .getfield 113, 3), (43, .iconst 0, 1), (44, .invokevirtual 309, 3), (47, .iload_n 2, 1), (48, .ireturn, 1)]
set_option maxRecDepth 20000 in
theorem me_X12_clear : zdecs cX12_clear md_X12_clear := by
  unfold zdecs md_X12_clear
  decide +kernel
def md_X12_areDone : List (Nat × Instr × Nat) := [(0, .iconst 0, 1), (1, .istore_n 2, 1), (2, .iload_n 2, 1), (3, .iload_n 1, 1), (4, .if_icmp .ge 29, 3), (7, .aload_n 0, 1), (8, .getfield 98, 3), (11, .bipush 64, 2), (13, .aload_n 0, 1), (14, .getfield 133, 3), (17, .iload_n 2, 1), (18, .iaload, 1), (19, .iadd, 1), (20, .iaload, 1), (21, .iconst 2, 1), (22, .if_icmp .eq 5, 3), (25, .iconst 0, 1), (26, .ireturn, 1), (27, .iinc 2 1, 3), (30, .goto (-28), 3), (33, .iconst 1, 1), (34, .ireturn, 1)]
set_option maxRecDepth 20000 in
theorem me_X12_areDone : zdecs cX12_areDone md_X12_areDone := by
  unfold zdecs md_X12_areDone
  decide +kernel
def md_X12_lastOf : List (Nat × Instr × Nat) := [(0, .iconst 0, 1), (1, .istore_n 2, 1), (2, .iconst 0, 1), (3, .istore_n 3, 1), (4, .iload_n 3, 1), (5, .iload_n 1, 1), (6, .if_icmp .ge 51, 3), (9, .aload_n 0, 1), (10, .aload_n 0, 1), (11, .getfield 133, 3), (14, .iload_n 3, 1), (15, .iaload, 1), (16, .invokevirtual 333, 3), (19, .istore 4, 2), (21, .iload 4, 2), (23, .iconst (-1), 1), (24, .if_icmp .ne 5, 3), (27, .iconst (-1), 1), (28, .ireturn, 1), (29, .iload_n 2, 1), (30, .iload 4, 2), (32, .iadd, 1), (33, .istore_n 2, 1), (34, .aload_n 0, 1), (35, .getfield 136, 3), (38, .iload_n 3, 1), (39, .iload_n 2, 1), (40, .iastore, 1), (41, .aload_n 0, 1), (42, .aload_n 0, 1), (43, .getfield 133, 3), (46, .iload_n 3, 1), (47, .iaload, 1), (48, .invokevirtual 293, 3), (51, .iinc 3 1, 3), (54, .goto (-50), 3), (57, .iconst 0, 1), (58, .istore_n 3, 1), (59, .iload_n 3, 1), (60, .sipush 200, 3), (63, .if_icmp .gt 25, 3), (66, .aload_n 0, 1), (67, .iload_n 1, 1), (68, .invokevirtual 336, 3), (71, .ifCond .eq 7, 3), (74, .iload_n 2, 1), (75, .iload_n 3, 1), (76, .iadd, 1), (77, .ireturn, 1), (78, .aload_n 0, 1), (79, .invokevirtual 321, 3), (82, .iinc 3 1, 3), (85, .goto (-26), 3), (88, .iconst (-1), 1), (89, .ireturn, 1)]
set_option maxRecDepth 20000 in
theorem me_X12_lastOf : zdecs cX12_lastOf md_X12_lastOf := by
  unfold zdecs md_X12_lastOf
  decide +kernel
def md_X12_tryRow : List (Nat × Instr × Nat) := [(0, .aload_n 0, 1), (1, .aload_n 0, 1), (2, .getfield 113, 3), (5, .iconst 0, 1), (6, .invokevirtual 273, 3), (9, .aload_n 0, 1), (10, .iload_n 1, 1), (11, .invokevirtual 339, 3), (14, .istore_n 2, 1), (15, .aload_n 0, 1), (16, .aload_n 0, 1), (17, .getfield 113, 3), (20, .iconst 0, 1), (21, .invokevirtual 309, 3), (24, .iload_n 2, 1), (25, .iconst (-1), 1), (26, .if_icmp .eq 11, 3), (29, .iload_n 2, 1), (30, .aload_n 0, 1), (31, .getfield 342, 3), (34, .if_icmp .lt 4, 3), (37, .return_, 1), (38, .aload_n 0, 1), (39, .iload_n 2, 1), (40, .putfield 342, 3), (43, .iconst 0, 1), (44, .istore_n 3, 1), (45, .iload_n 3, 1), (46, .iload_n 1, 1), (47, .if_icmp .ge 33, 3), (50, .aload_n 0, 1), (51, .getfield 139, 3), (54, .iload_n 3, 1), (55, .aload_n 0, 1), (56, .getfield 133, 3), (59, .iload_n 3, 1), (60, .iaload, 1), (61, .iastore, 1), (62, .aload_n 0, 1), (63, .getfield 142, 3), (66, .iload_n 3, 1), (67, .aload_n 0, 1), (68, .getfield 136, 3), (71, .iload_n 3, 1), (72, .iaload, 1), (73, .iastore, 1), (74, .iinc 3 1, 3), (77, .goto (-32), 3), (80, .return_, 1)]
set_option maxRecDepth 20000 in
theorem me_X12_tryRow : zdecs cX12_tryRow md_X12_tryRow := by
  unfold zdecs md_X12_tryRow
  decide +kernel
def md_X12_tryRows : List (Nat × Instr × Nat) := [(0, .iload_n 1, 1), (1, .iload_n 2, 1), (2, .if_icmp .ne 8, 3), (5, .aload_n 0, 1), (6, .iload_n 2, 1), (7, .invokevirtual 345, 3), (10, .iconst 0, 1), (11, .istore 4, 2), (13, .iload 4, 2), (15, .bipush 8, 2), (17, .if_icmp .ge 45, 3), (20, .iload_n 3, 1), (21, .iload 4, 2), (23, .invokestatic 200, 3), (26, .ifCond .ne 6, 3), (29, .goto 27, 3), (32, .aload_n 0, 1), (33, .getfield 133, 3), (36, .iload_n 1, 1), (37, .iload 4, 2), (39, .iastore, 1), (40, .aload_n 0, 1), (41, .iload_n 1, 1), (42, .iconst 1, 1), (43, .iadd, 1), (44, .iload_n 2, 1), (45, .iload_n 3, 1), (46, .iconst 1, 1), (47, .iload 4, 2), (49, .ishl, 1), (50, .iconst (-1), 1), (51, .ixor, 1), (52, .iand, 1), (53, .invokevirtual 348, 3), (56, .iinc 4 1, 3), (59, .goto (-46), 3), (62, .return_, 1)]
set_option maxRecDepth 20000 in
theorem me_X12_tryRows : zdecs cX12_tryRows md_X12_tryRows := by
  unfold zdecs md_X12_tryRows
  decide +kernel
def md_X12_order : List (Nat × Instr × Nat) := [(0, .aload_n 0, 1), (1, .iconst 0, 1), (2, .putfield 1, 3), (5, .aload_n 0, 1), (6, .invokevirtual 89, 3), (9, .istore_n 1, 1), (10, .iload_n 1, 1), (11, .iconst 1, 1), (12, .iconst 3, 1), (13, .invokestatic 75, 3), (16, .ifCond .ne 5, 3), (19, .iconst (-1), 1), (20, .ireturn, 1), (21, .iconst 0, 1), (22, .istore_n 2, 1), (23, .iconst 0, 1), (24, .istore_n 3, 1), (25, .iload_n 3, 1), (26, .iload_n 1, 1), (27, .if_icmp .ge 61, 3), (30, .aload_n 0, 1), (31, .aload_n 0, 1), (32, .getfield 7, 3), (35, .iload_n 3, 1), (36, .iaload, 1), (37, .invokevirtual 261, 3), (40, .ifCond .eq 29, 3), (43, .aload_n 0, 1), (44, .aload_n 0, 1), (45, .getfield 7, 3), (48, .iload_n 3, 1), (49, .iaload, 1), (50, .invokevirtual 246, 3), (53, .ifCond .eq 16, 3), (56, .iload_n 2, 1), (57, .aload_n 0, 1), (58, .getfield 7, 3), (61, .iload_n 3, 1), (62, .iaload, 1), (63, .invokestatic 200, 3), (66, .ifCond .eq 5, 3), (69, .iconst (-1), 1), (70, .ireturn, 1), (71, .iload_n 2, 1), (72, .iconst 1, 1), (73, .aload_n 0, 1), (74, .getfield 7, 3), (77, .iload_n 3, 1), (78, .iaload, 1), (79, .ishl, 1), (80, .ior, 1), (81, .istore_n 2, 1), (82, .iinc 3 1, 3), (85, .goto (-60), 3), (88, .aload_n 0, 1), (89, .ldc_w 352, 3), (92, .putfield 342, 3), (95, .aload_n 0, 1), (96, .iconst 0, 1), (97, .iload_n 1, 1), (98, .iload_n 2, 1), (99, .invokevirtual 348, 3), (102, .aload_n 0, 1), (103, .getfield 342, 3), (106, .ldc_w 352, 3), (109, .if_icmp .ne 5, 3), (112, .iconst (-1), 1), (113, .ireturn, 1), (114, .aload_n 0, 1), (115, .iload_n 1, 1), (116, .putfield 353, 3), (119, .iconst 0, 1), (120, .istore_n 3, 1), (121, .iload_n 3, 1), (122, .iload_n 1, 1), (123, .if_icmp .ge 33, 3), (126, .aload_n 0, 1), (127, .getfield 145, 3), (130, .iload_n 3, 1), (131, .aload_n 0, 1), (132, .getfield 139, 3), (135, .iload_n 3, 1), (136, .iaload, 1), (137, .iastore, 1), (138, .aload_n 0, 1), (139, .getfield 148, 3), (142, .iload_n 3, 1), (143, .aload_n 0, 1), (144, .getfield 142, 3), (147, .iload_n 3, 1), (148, .iaload, 1), (149, .iastore, 1), (150, .iinc 3 1, 3), (153, .goto (-32), 3), (156, .aload_n 0, 1), (157, .getfield 342, 3), (160, .ireturn, 1)]
set_option maxRecDepth 20000 in
theorem me_X12_order : zdecs cX12_order md_X12_order := by
  unfold zdecs md_X12_order
  decide +kernel
def md_X12_orderAt : List (Nat × Instr × Nat) := [(0, .aload_n 0, 1), (1, .iconst 0, 1), (2, .putfield 1, 3), (5, .iload_n 1, 1), (6, .iconst 0, 1), (7, .aload_n 0, 1), (8, .getfield 353, 3), (11, .iconst 1, 1), (12, .isub, 1), (13, .invokestatic 75, 3), (16, .ifCond .eq 12, 3), (19, .aload_n 0, 1), (20, .getfield 145, 3), (23, .iload_n 1, 1), (24, .iaload, 1), (25, .goto 4, 3), (28, .iconst (-1), 1), (29, .ireturn, 1)]
set_option maxRecDepth 20000 in
theorem me_X12_orderAt : zdecs cX12_orderAt md_X12_orderAt := by
  unfold zdecs md_X12_orderAt
  decide +kernel
def md_X12_orderWhen : List (Nat × Instr × Nat) := [(0, .aload_n 0, 1), (1, .iconst 0, 1), (2, .putfield 1, 3), (5, .iload_n 1, 1), (6, .iconst 0, 1), (7, .aload_n 0, 1), (8, .getfield 353, 3), (11, .iconst 1, 1), (12, .isub, 1), (13, .invokestatic 75, 3), (16, .ifCond .eq 12, 3), (19, .aload_n 0, 1), (20, .getfield 148, 3), (23, .iload_n 1, 1), (24, .iaload, 1), (25, .goto 4, 3), (28, .iconst (-1), 1), (29, .ireturn, 1)]
set_option maxRecDepth 20000 in
theorem me_X12_orderWhen : zdecs cX12_orderWhen md_X12_orderWhen := by
  unfold zdecs md_X12_orderWhen
  decide +kernel
def md_X12_waitingIn : List (Nat × Instr × Nat) := [(0, .iconst 0, 1), (1, .istore_n 2, 1), (2, .iconst 0, 1), (3, .istore_n 3, 1), (4, .iload_n 3, 1), (5, .aload_n 0, 1), (6, .getfield 98, 3), (9, .iconst 2, 1), (10, .iaload, 1), (11, .if_icmp .ge 26, 3), (14, .aload_n 0, 1), (15, .iload_n 3, 1), (16, .invokevirtual 246, 3), (19, .ifCond .eq 12, 3), (22, .iload_n 2, 1), (23, .aload_n 0, 1), (24, .iload_n 3, 1), (25, .iload_n 1, 1), (26, .invokevirtual 243, 3), (29, .iadd, 1), (30, .istore_n 2, 1), (31, .iinc 3 1, 3), (34, .goto (-30), 3), (37, .iload_n 2, 1), (38, .ireturn, 1)]
set_option maxRecDepth 20000 in
theorem me_X12_waitingIn : zdecs cX12_waitingIn md_X12_waitingIn := by
  unfold zdecs md_X12_waitingIn
  decide +kernel
def md_X12_jam : List (Nat × Instr × Nat) := [(0, .aload_n 0, 1), (1, .iconst 0, 1), (2, .putfield 1, 3), (5, .iconst (-1), 1), (6, .istore_n 1, 1), (7, .iconst 0, 1), (8, .istore_n 2, 1), (9, .iload_n 2, 1), (10, .aload_n 0, 1), (11, .getfield 98, 3), (14, .iconst 0, 1), (15, .iaload, 1), (16, .if_icmp .ge 49, 3), (19, .iload_n 1, 1), (20, .iconst (-1), 1), (21, .if_icmp .eq 36, 3), (24, .aload_n 0, 1), (25, .iload_n 2, 1), (26, .invokevirtual 356, 3), (29, .aload_n 0, 1), (30, .getfield 98, 3), (33, .bipush 6, 2), (35, .iload_n 1, 1), (36, .iadd, 1), (37, .iaload, 1), (38, .imul, 1), (39, .aload_n 0, 1), (40, .iload_n 1, 1), (41, .invokevirtual 356, 3), (44, .aload_n 0, 1), (45, .getfield 98, 3), (48, .bipush 6, 2), (50, .iload_n 2, 1), (51, .iadd, 1), (52, .iaload, 1), (53, .imul, 1), (54, .if_icmp .le 5, 3), (57, .iload_n 2, 1), (58, .istore_n 1, 1), (59, .iinc 2 1, 3), (62, .goto (-53), 3), (65, .iload_n 1, 1), (66, .ireturn, 1)]
set_option maxRecDepth 20000 in
theorem me_X12_jam : zdecs cX12_jam md_X12_jam := by
  unfold zdecs md_X12_jam
  decide +kernel
def md_X12_leftBy : List (Nat × Instr × Nat) := [(0, .iconst 0, 1), (1, .istore_n 3, 1), (2, .iconst 0, 1), (3, .istore 4, 2), (5, .iload 4, 2), (7, .aload_n 0, 1), (8, .getfield 98, 3), (11, .iconst 2, 1), (12, .iaload, 1), (13, .if_icmp .ge 82, 3), (16, .iload_n 1, 1), (17, .iload 4, 2), (19, .invokestatic 200, 3), (22, .ifCond .ne 6, 3), (25, .goto 64, 3), (28, .iconst 0, 1), (29, .istore 5, 2), (31, .iconst 0, 1), (32, .istore 6, 2), (34, .iload 6, 2), (36, .aload_n 0, 1), (37, .getfield 98, 3), (40, .iconst 2, 1), (41, .iaload, 1), (42, .if_icmp .ge 38, 3), (45, .iload_n 1, 1), (46, .iload 6, 2), (48, .invokestatic 200, 3), (51, .ifCond .eq 23, 3), (54, .aload_n 0, 1), (55, .iload 6, 2), (57, .iload_n 2, 1), (58, .invokevirtual 243, 3), (61, .aload_n 0, 1), (62, .iload 4, 2), (64, .iload_n 2, 1), (65, .invokevirtual 243, 3), (68, .if_icmp .ne 6, 3), (71, .iinc 5 1, 3), (74, .iinc 6 1, 3), (77, .goto (-43), 3), (80, .iload 5, 2), (82, .iload_n 3, 1), (83, .if_icmp .le 6, 3), (86, .iload 5, 2), (88, .istore_n 3, 1), (89, .iinc 4 1, 3), (92, .goto (-87), 3), (95, .iload_n 3, 1), (96, .ireturn, 1)]
set_option maxRecDepth 20000 in
theorem me_X12_leftBy : zdecs cX12_leftBy md_X12_leftBy := by
  unfold zdecs md_X12_leftBy
  decide +kernel
def md_X12_isTold : List (Nat × Instr × Nat) := [(0, .iconst 0, 1), (1, .istore_n 3, 1), (2, .iload_n 3, 1), (3, .iload_n 2, 1), (4, .if_icmp .ge 33, 3), (7, .aload_n 0, 1), (8, .iload_n 1, 1), (9, .aload_n 0, 1), (10, .getfield 7, 3), (13, .iload_n 3, 1), (14, .iaload, 1), (15, .invokevirtual 243, 3), (18, .aload_n 0, 1), (19, .getfield 7, 3), (22, .iload_n 3, 1), (23, .iconst 1, 1), (24, .iadd, 1), (25, .iaload, 1), (26, .if_icmp .eq 5, 3), (29, .iconst 0, 1), (30, .ireturn, 1), (31, .iinc 3 2, 3), (34, .goto (-32), 3), (37, .iconst 1, 1), (38, .ireturn, 1)]
set_option maxRecDepth 20000 in
theorem me_X12_isTold : zdecs cX12_isTold md_X12_isTold := by
  unfold zdecs md_X12_isTold
  decide +kernel
def md_X12_who : List (Nat × Instr × Nat) := [(0, .aload_n 0, 1), (1, .iconst 0, 1), (2, .putfield 1, 3), (5, .aload_n 0, 1), (6, .invokevirtual 89, 3), (9, .istore_n 1, 1), (10, .iload_n 1, 1), (11, .iconst 2, 1), (12, .irem, 1), (13, .ifCond .ne 15, 3), (16, .iload_n 1, 1), (17, .iconst 2, 1), (18, .idiv, 1), (19, .iconst 1, 1), (20, .bipush 6, 2), (22, .invokestatic 75, 3), (25, .ifCond .ne 5, 3), (28, .iconst (-1), 1), (29, .ireturn, 1), (30, .iconst 0, 1), (31, .istore_n 2, 1), (32, .iload_n 2, 1), (33, .iload_n 1, 1), (34, .if_icmp .ge 24, 3), (37, .aload_n 0, 1), (38, .aload_n 0, 1), (39, .getfield 7, 3), (42, .iload_n 2, 1), (43, .iaload, 1), (44, .invokevirtual 249, 3), (47, .ifCond .ne 5, 3), (50, .iconst (-1), 1), (51, .ireturn, 1), (52, .iinc 2 2, 3), (55, .goto (-23), 3), (58, .iconst 0, 1), (59, .istore_n 2, 1), (60, .iconst 0, 1), (61, .istore_n 3, 1), (62, .iload_n 3, 1), (63, .aload_n 0, 1), (64, .getfield 98, 3), (67, .iconst 2, 1), (68, .iaload, 1), (69, .if_icmp .ge 24, 3), (72, .aload_n 0, 1), (73, .iload_n 3, 1), (74, .iload_n 1, 1), (75, .invokevirtual 359, 3), (78, .ifCond .eq 9, 3), (81, .iload_n 2, 1), (82, .iconst 1, 1), (83, .iload_n 3, 1), (84, .ishl, 1), (85, .ior, 1), (86, .istore_n 2, 1), (87, .iinc 3 1, 3), (90, .goto (-28), 3), (93, .iload_n 2, 1), (94, .ifCond .ne 5, 3), (97, .iconst 0, 1), (98, .ireturn, 1), (99, .aload_n 0, 1), (100, .iconst 0, 1), (101, .putfield 151, 3), (104, .iconst 1, 1), (105, .istore_n 3, 1), (106, .iload_n 3, 1), (107, .aload_n 0, 1), (108, .getfield 98, 3), (111, .iconst 0, 1), (112, .iaload, 1), (113, .if_icmp .ge 32, 3), (116, .aload_n 0, 1), (117, .iload_n 2, 1), (118, .iload_n 3, 1), (119, .invokevirtual 362, 3), (122, .aload_n 0, 1), (123, .iload_n 2, 1), (124, .aload_n 0, 1), (125, .getfield 151, 3), (128, .invokevirtual 362, 3), (131, .if_icmp .ge 8, 3), (134, .aload_n 0, 1), (135, .iload_n 3, 1), (136, .putfield 151, 3), (139, .iinc 3 1, 3), (142, .goto (-36), 3), (145, .iload_n 2, 1), (146, .ireturn, 1)]
set_option maxRecDepth 20000 in
theorem me_X12_who : zdecs cX12_who md_X12_who := by
  unfold zdecs md_X12_who
  decide +kernel
def md_X12_ask : List (Nat × Instr × Nat) := [(0, .aload_n 0, 1), (1, .iconst 0, 1), (2, .putfield 1, 3), (5, .aload_n 0, 1), (6, .getfield 151, 3), (9, .ireturn, 1)]
set_option maxRecDepth 20000 in
theorem me_X12_ask : zdecs cX12_ask md_X12_ask := by
  unfold zdecs md_X12_ask
  decide +kernel
def md_X12_unlike : List (Nat × Instr × Nat) := [(0, .iconst 0, 1), (1, .istore_n 3, 1), (2, .iconst 0, 1), (3, .istore 4, 2), (5, .iload 4, 2), (7, .aload_n 0, 1), (8, .getfield 98, 3), (11, .iconst 0, 1), (12, .iaload, 1), (13, .if_icmp .ge 30, 3), (16, .iload_n 3, 1), (17, .aload_n 0, 1), (18, .iload_n 1, 1), (19, .iload 4, 2), (21, .invokevirtual 233, 3), (24, .aload_n 0, 1), (25, .iload_n 2, 1), (26, .iload 4, 2), (28, .invokevirtual 233, 3), (31, .isub, 1), (32, .invokestatic 365, 3), (35, .iadd, 1), (36, .istore_n 3, 1), (37, .iinc 4 1, 3), (40, .goto (-35), 3), (43, .iload_n 3, 1), (44, .ireturn, 1)]
set_option maxRecDepth 20000 in
theorem me_X12_unlike : zdecs cX12_unlike md_X12_unlike := by
  unfold zdecs md_X12_unlike
  decide +kernel
def md_X12_near : List (Nat × Instr × Nat) := [(0, .aload_n 0, 1), (1, .iconst 0, 1), (2, .putfield 1, 3), (5, .aload_n 0, 1), (6, .iload_n 1, 1), (7, .invokevirtual 258, 3), (10, .ifCond .ne 5, 3), (13, .iconst (-1), 1), (14, .ireturn, 1), (15, .iconst (-1), 1), (16, .istore_n 2, 1), (17, .iconst 0, 1), (18, .istore_n 3, 1), (19, .iload_n 3, 1), (20, .aload_n 0, 1), (21, .getfield 98, 3), (24, .iconst 1, 1), (25, .iaload, 1), (26, .if_icmp .ge 36, 3), (29, .iload_n 3, 1), (30, .iload_n 1, 1), (31, .if_icmp .eq 25, 3), (34, .iload_n 2, 1), (35, .iconst (-1), 1), (36, .if_icmp .eq 18, 3), (39, .aload_n 0, 1), (40, .iload_n 1, 1), (41, .iload_n 3, 1), (42, .invokevirtual 367, 3), (45, .aload_n 0, 1), (46, .iload_n 1, 1), (47, .iload_n 2, 1), (48, .invokevirtual 367, 3), (51, .if_icmp .ge 5, 3), (54, .iload_n 3, 1), (55, .istore_n 2, 1), (56, .iinc 3 1, 3), (59, .goto (-40), 3), (62, .iload_n 2, 1), (63, .ireturn, 1)]
set_option maxRecDepth 20000 in
theorem me_X12_near : zdecs cX12_near md_X12_near := by
  unfold zdecs md_X12_near
  decide +kernel
def md_X12_through : List (Nat × Instr × Nat) := [(0, .aload_n 0, 1), (1, .iconst 0, 1), (2, .putfield 1, 3), (5, .aload_n 0, 1), (6, .iload_n 1, 1), (7, .invokevirtual 258, 3), (10, .ifCond .ne 5, 3), (13, .iconst (-1), 1), (14, .ireturn, 1), (15, .iconst 0, 1), (16, .istore_n 2, 1), (17, .iconst 0, 1), (18, .istore_n 3, 1), (19, .iload_n 3, 1), (20, .aload_n 0, 1), (21, .getfield 98, 3), (24, .iconst 0, 1), (25, .iaload, 1), (26, .if_icmp .ge 18, 3), (29, .iload_n 2, 1), (30, .aload_n 0, 1), (31, .iload_n 1, 1), (32, .iload_n 3, 1), (33, .invokevirtual 233, 3), (36, .iadd, 1), (37, .istore_n 2, 1), (38, .iinc 3 1, 3), (41, .goto (-22), 3), (44, .iload_n 2, 1), (45, .ireturn, 1)]
set_option maxRecDepth 20000 in
theorem me_X12_through : zdecs cX12_through md_X12_through := by
  unfold zdecs md_X12_through
  decide +kernel
def md_X12_arePast : List (Nat × Instr × Nat) := [(0, .iconst 0, 1), (1, .istore 4, 2), (3, .iload_n 3, 1), (4, .istore 5, 2), (6, .iconst 1, 1), (7, .istore 6, 2), (9, .iconst 0, 1), (10, .istore 7, 2), (12, .iload 7, 2), (14, .aload_n 0, 1), (15, .getfield 98, 3), (18, .iconst 0, 1), (19, .iaload, 1), (20, .if_icmp .ge 78, 3), (23, .iload 4, 2), (25, .aload_n 0, 1), (26, .iload_n 1, 1), (27, .iload 7, 2), (29, .invokevirtual 233, 3), (32, .iadd, 1), (33, .istore 8, 2), (35, .iload 5, 2), (37, .aload_n 0, 1), (38, .iload_n 2, 1), (39, .iload 7, 2), (41, .invokevirtual 233, 3), (44, .iadd, 1), (45, .istore 9, 2), (47, .aload_n 0, 1), (48, .iload_n 1, 1), (49, .iload 7, 2), (51, .invokevirtual 233, 3), (54, .ifCond .le 30, 3), (57, .aload_n 0, 1), (58, .iload_n 2, 1), (59, .iload 7, 2), (61, .invokevirtual 233, 3), (64, .ifCond .le 20, 3), (67, .iload 4, 2), (69, .iload 9, 2), (71, .if_icmp .ge 13, 3), (74, .iload 5, 2), (76, .iload 8, 2), (78, .if_icmp .ge 6, 3), (81, .iconst 0, 1), (82, .istore 6, 2), (84, .iload 8, 2), (86, .istore 4, 2), (88, .iload 9, 2), (90, .istore 5, 2), (92, .iinc 7 1, 3), (95, .goto (-83), 3), (98, .iload 6, 2), (100, .ireturn, 1)]
set_option maxRecDepth 20000 in
theorem me_X12_arePast : zdecs cX12_arePast md_X12_arePast := by
  unfold zdecs md_X12_arePast
  decide +kernel
def md_X12_gapOf : List (Nat × Instr × Nat) := [(0, .iconst 0, 1), (1, .istore_n 3, 1), (2, .aload_n 0, 1), (3, .iload_n 1, 1), (4, .iload_n 2, 1), (5, .iload_n 3, 1), (6, .invokevirtual 370, 3), (9, .ifCond .ne 9, 3), (12, .iinc 3 1, 3), (15, .goto (-13), 3), (18, .iload_n 3, 1), (19, .ireturn, 1)]
set_option maxRecDepth 20000 in
theorem me_X12_gapOf : zdecs cX12_gapOf md_X12_gapOf := by
  unfold zdecs md_X12_gapOf
  decide +kernel
def md_X12_gap : List (Nat × Instr × Nat) := [(0, .aload_n 0, 1), (1, .iconst 0, 1), (2, .putfield 1, 3), (5, .aload_n 0, 1), (6, .iload_n 1, 1), (7, .invokevirtual 258, 3), (10, .ifCond .eq 20, 3), (13, .aload_n 0, 1), (14, .iload_n 2, 1), (15, .invokevirtual 258, 3), (18, .ifCond .eq 12, 3), (21, .aload_n 0, 1), (22, .iload_n 1, 1), (23, .iload_n 2, 1), (24, .invokevirtual 373, 3), (27, .goto 4, 3), (30, .iconst (-1), 1), (31, .ireturn, 1)]
set_option maxRecDepth 20000 in
theorem me_X12_gap : zdecs cX12_gap md_X12_gap := by
  unfold zdecs md_X12_gap
  decide +kernel
def md_X12_tryChains : List (Nat × Instr × Nat) := [(0, .iload_n 2, 1), (1, .ifCond .ne 47, 3), (4, .iload_n 3, 1), (5, .aload_n 0, 1), (6, .getfield 376, 3), (9, .if_icmp .lt 4, 3), (12, .return_, 1), (13, .aload_n 0, 1), (14, .iload_n 3, 1), (15, .putfield 376, 3), (18, .iconst 0, 1), (19, .istore 4, 2), (21, .iload 4, 2), (23, .iload_n 1, 1), (24, .if_icmp .ge 23, 3), (27, .aload_n 0, 1), (28, .getfield 157, 3), (31, .iload 4, 2), (33, .aload_n 0, 1), (34, .getfield 154, 3), (37, .iload 4, 2), (39, .iaload, 1), (40, .iastore, 1), (41, .iinc 4 1, 3), (44, .goto (-23), 3), (47, .return_, 1), (48, .iconst 0, 1), (49, .istore 4, 2), (51, .iload 4, 2), (53, .iconst 5, 1), (54, .if_icmp .ge 68, 3), (57, .iload_n 2, 1), (58, .iload 4, 2), (60, .invokestatic 200, 3), (63, .ifCond .ne 6, 3), (66, .goto 50, 3), (69, .aload_n 0, 1), (70, .getfield 154, 3), (73, .iload_n 1, 1), (74, .iload 4, 2), (76, .iastore, 1), (77, .aload_n 0, 1), (78, .iload_n 1, 1), (79, .iconst 1, 1), (80, .iadd, 1), (81, .iload_n 2, 1), (82, .iconst 1, 1), (83, .iload 4, 2), (85, .ishl, 1), (86, .iconst (-1), 1), (87, .ixor, 1), (88, .iand, 1), (89, .iload_n 1, 1), (90, .ifCond .ne 7, 3), (93, .iconst 0, 1), (94, .goto 19, 3), (97, .iload_n 3, 1), (98, .aload_n 0, 1), (99, .aload_n 0, 1), (100, .getfield 154, 3), (103, .iload_n 1, 1), (104, .iconst 1, 1), (105, .isub, 1), (106, .iaload, 1), (107, .iload 4, 2), (109, .invokevirtual 373, 3), (112, .iadd, 1), (113, .invokevirtual 379, 3), (116, .iinc 4 1, 3), (119, .goto (-68), 3), (122, .return_, 1)]
set_option maxRecDepth 20000 in
theorem me_X12_tryChains : zdecs cX12_tryChains md_X12_tryChains := by
  unfold zdecs md_X12_tryChains
  decide +kernel
def md_X12_chain : List (Nat × Instr × Nat) := [(0, .aload_n 0, 1), (1, .iconst 0, 1), (2, .putfield 1, 3), (5, .aload_n 0, 1), (6, .ldc_w 352, 3), (9, .putfield 376, 3), (12, .aload_n 0, 1), (13, .aload_n 0, 1), (14, .getfield 98, 3), (17, .iconst 1, 1), (18, .iaload, 1), (19, .putfield 382, 3), (22, .aload_n 0, 1), (23, .iconst 0, 1), (24, .iconst 1, 1), (25, .aload_n 0, 1), (26, .getfield 382, 3), (29, .ishl, 1), (30, .iconst 1, 1), (31, .isub, 1), (32, .iconst 0, 1), (33, .invokevirtual 379, 3), (36, .aload_n 0, 1), (37, .getfield 376, 3), (40, .ireturn, 1)]
set_option maxRecDepth 20000 in
theorem me_X12_chain : zdecs cX12_chain md_X12_chain := by
  unfold zdecs md_X12_chain
  decide +kernel
def md_X12_chainAt : List (Nat × Instr × Nat) := [(0, .aload_n 0, 1), (1, .iconst 0, 1), (2, .putfield 1, 3), (5, .iload_n 1, 1), (6, .iconst 0, 1), (7, .aload_n 0, 1), (8, .getfield 382, 3), (11, .iconst 1, 1), (12, .isub, 1), (13, .invokestatic 75, 3), (16, .ifCond .eq 12, 3), (19, .aload_n 0, 1), (20, .getfield 157, 3), (23, .iload_n 1, 1), (24, .iaload, 1), (25, .goto 4, 3), (28, .iconst (-1), 1), (29, .ireturn, 1)]
set_option maxRecDepth 20000 in
theorem me_X12_chainAt : zdecs cX12_chainAt md_X12_chainAt := by
  unfold zdecs md_X12_chainAt
  decide +kernel
def md_X12_block : List (Nat × Instr × Nat) := [(0, .aload_n 0, 1), (1, .iconst 0, 1), (2, .putfield 1, 3), (5, .aload_n 0, 1), (6, .iload_n 1, 1), (7, .invokevirtual 261, 3), (10, .ifCond .eq 11, 3), (13, .aload_n 0, 1), (14, .iload_n 1, 1), (15, .invokevirtual 270, 3), (18, .ifCond .ne 5, 3), (21, .iconst (-1), 1), (22, .ireturn, 1), (23, .aload_n 0, 1), (24, .iload_n 1, 1), (25, .aload_n 0, 1), (26, .getfield 98, 3), (29, .bipush 72, 2), (31, .iload_n 1, 1), (32, .iadd, 1), (33, .iaload, 1), (34, .invokevirtual 277, 3), (37, .istore_n 2, 1), (38, .iload_n 2, 1), (39, .iconst (-1), 1), (40, .if_icmp .ne 7, 3), (43, .iconst 0, 1), (44, .goto 8, 3), (47, .aload_n 0, 1), (48, .iload_n 2, 1), (49, .invokevirtual 237, 3), (52, .ireturn, 1)]
set_option maxRecDepth 20000 in
theorem me_X12_block : zdecs cX12_block md_X12_block := by
  unfold zdecs md_X12_block
  decide +kernel
def md_X12_partOf : List (Nat × Instr × Nat) := [(0, .iload_n 3, 1), (1, .ifCond .ne 7, 3), (4, .iload_n 1, 1), (5, .goto 4, 3), (8, .iload_n 2, 1), (9, .iload_n 1, 1), (10, .iload_n 2, 1), (11, .invokestatic 385, 3), (14, .idiv, 1), (15, .ireturn, 1)]
set_option maxRecDepth 20000 in
theorem me_X12_partOf : zdecs cX12_partOf md_X12_partOf := by
  unfold zdecs md_X12_partOf
  decide +kernel
def md_X12_wear : List (Nat × Instr × Nat) := [(0, .aload_n 0, 1), (1, .iconst 0, 1), (2, .putfield 1, 3), (5, .aload_n 0, 1), (6, .iload_n 1, 1), (7, .invokevirtual 249, 3), (10, .ifCond .eq 12, 3), (13, .iload_n 2, 1), (14, .iconst 0, 1), (15, .iconst 1, 1), (16, .invokestatic 75, 3), (19, .ifCond .ne 8, 3), (22, .aload_n 0, 1), (23, .invokevirtual 264, 3), (26, .ireturn, 1), (27, .aload_n 0, 1), (28, .aload_n 0, 1), (29, .getfield 98, 3), (32, .bipush 58, 2), (34, .iload_n 1, 1), (35, .iadd, 1), (36, .iaload, 1), (37, .aload_n 0, 1), (38, .getfield 98, 3), (41, .bipush 12, 2), (43, .iload_n 1, 1), (44, .iadd, 1), (45, .iaload, 1), (46, .iload_n 2, 1), (47, .invokevirtual 388, 3), (50, .ireturn, 1)]
set_option maxRecDepth 20000 in
theorem me_X12_wear : zdecs cX12_wear md_X12_wear := by
  unfold zdecs md_X12_wear
  decide +kernel
def md_X12_mean : List (Nat × Instr × Nat) := [(0, .aload_n 0, 1), (1, .iconst 0, 1), (2, .putfield 1, 3), (5, .aload_n 0, 1), (6, .getfield 98, 3), (9, .iconst 2, 1), (10, .iaload, 1), (11, .istore_n 2, 1), (12, .iload_n 2, 1), (13, .ifCond .eq 12, 3), (16, .iload_n 1, 1), (17, .iconst 0, 1), (18, .iconst 1, 1), (19, .invokestatic 75, 3), (22, .ifCond .ne 8, 3), (25, .aload_n 0, 1), (26, .invokevirtual 264, 3), (29, .ireturn, 1), (30, .iconst 0, 1), (31, .istore_n 3, 1), (32, .iconst 0, 1), (33, .istore 4, 2), (35, .iload 4, 2), (37, .iload_n 2, 1), (38, .if_icmp .ge 22, 3), (41, .iload_n 3, 1), (42, .aload_n 0, 1), (43, .getfield 98, 3), (46, .bipush 96, 2), (48, .iload 4, 2), (50, .iadd, 1), (51, .iaload, 1), (52, .iadd, 1), (53, .istore_n 3, 1), (54, .iinc 4 1, 3), (57, .goto (-22), 3), (60, .aload_n 0, 1), (61, .iload_n 3, 1), (62, .iload_n 2, 1), (63, .iload_n 1, 1), (64, .invokevirtual 388, 3), (67, .ireturn, 1)]
set_option maxRecDepth 20000 in
theorem me_X12_mean : zdecs cX12_mean md_X12_mean := by
  unfold zdecs md_X12_mean
  decide +kernel
def md_X12_often : List (Nat × Instr × Nat) := [(0, .aload_n 0, 1), (1, .iconst 0, 1), (2, .putfield 1, 3), (5, .iconst (-1), 1), (6, .istore_n 1, 1), (7, .iconst 0, 1), (8, .istore_n 2, 1), (9, .iload_n 2, 1), (10, .aload_n 0, 1), (11, .getfield 98, 3), (14, .iconst 2, 1), (15, .iaload, 1), (16, .if_icmp .ge 41, 3), (19, .aload_n 0, 1), (20, .getfield 98, 3), (23, .bipush 104, 2), (25, .iload_n 2, 1), (26, .iadd, 1), (27, .iaload, 1), (28, .iload_n 1, 1), (29, .iconst (-1), 1), (30, .if_icmp .ne 7, 3), (33, .iconst 0, 1), (34, .goto 12, 3), (37, .aload_n 0, 1), (38, .getfield 98, 3), (41, .bipush 104, 2), (43, .iload_n 1, 1), (44, .iadd, 1), (45, .iaload, 1), (46, .if_icmp .le 5, 3), (49, .iload_n 2, 1), (50, .istore_n 1, 1), (51, .iinc 2 1, 3), (54, .goto (-45), 3), (57, .iload_n 1, 1), (58, .ireturn, 1)]
set_option maxRecDepth 20000 in
theorem me_X12_often : zdecs cX12_often md_X12_often := by
  unfold zdecs md_X12_often
  decide +kernel
def md_X12_write : List (Nat × Instr × Nat) := [(0, .aload_n 0, 1), (1, .getfield 160, 3), (4, .aload_n 0, 1), (5, .getfield 392, 3), (8, .iload_n 1, 1), (9, .iastore, 1), (10, .aload_n 0, 1), (11, .dup, 1), (12, .getfield 392, 3), (15, .iconst 1, 1), (16, .iadd, 1), (17, .putfield 392, 3), (20, .return_, 1)]
set_option maxRecDepth 20000 in
theorem me_X12_write : zdecs cX12_write md_X12_write := by
  unfold zdecs md_X12_write
  decide +kernel
def md_X12_writeWord : List (Nat × Instr × Nat) := [(0, .lload_n 1, 1), (1, .ldc2_w 54, 3), (4, .lcmp, 1), (5, .ifCond .lt 12, 3), (8, .aload_n 0, 1), (9, .lload_n 1, 1), (10, .ldc2_w 54, 3), (13, .ldiv, 1), (14, .invokevirtual 395, 3), (17, .aload_n 0, 1), (18, .bipush 96, 2), (20, .lload_n 1, 1), (21, .ldc2_w 54, 3), (24, .lrem, 1), (25, .l2i, 1), (26, .iadd, 1), (27, .invokevirtual 399, 3), (30, .return_, 1)]
set_option maxRecDepth 20000 in
theorem me_X12_writeWord : zdecs cX12_writeWord md_X12_writeWord := by
  unfold zdecs md_X12_writeWord
  decide +kernel
def md_X12_writeNext : List (Nat × Instr × Nat) := [(0, .aload_n 0, 1), (1, .bipush 32, 2), (3, .invokevirtual 399, 3), (6, .aload_n 0, 1), (7, .lload_n 1, 1), (8, .invokevirtual 395, 3), (11, .return_, 1)]
set_option maxRecDepth 20000 in
theorem me_X12_writeNext : zdecs cX12_writeNext md_X12_writeNext := by
  unfold zdecs md_X12_writeNext
  decide +kernel
def md_X12_writeNumber : List (Nat × Instr × Nat) := [(0, .iload_n 1, 1), (1, .bipush 9, 2), (3, .if_icmp .le 11, 3), (6, .aload_n 0, 1), (7, .iload_n 1, 1), (8, .bipush 10, 2), (10, .idiv, 1), (11, .invokevirtual 402, 3), (14, .aload_n 0, 1), (15, .bipush 48, 2), (17, .iload_n 1, 1), (18, .bipush 10, 2), (20, .irem, 1), (21, .iadd, 1), (22, .invokevirtual 399, 3), (25, .return_, 1)]
set_option maxRecDepth 20000 in
theorem me_X12_writeNumber : zdecs cX12_writeNumber md_X12_writeNumber := by
  unfold zdecs md_X12_writeNumber
  decide +kernel
def md_X12_tag : List (Nat × Instr × Nat) := [(0, .aload_n 0, 1), (1, .iconst 0, 1), (2, .putfield 1, 3), (5, .aload_n 0, 1), (6, .iload_n 1, 1), (7, .invokevirtual 261, 3), (10, .ifCond .ne 5, 3), (13, .iconst (-1), 1), (14, .ireturn, 1), (15, .aload_n 0, 1), (16, .iconst 0, 1), (17, .putfield 392, 3), (20, .aload_n 0, 1), (21, .aload_n 0, 1), (22, .getfield 119, 3), (25, .bipush 11, 2), (27, .iload_n 1, 1), (28, .iadd, 1), (29, .laload, 1), (30, .invokevirtual 395, 3), (33, .aload_n 0, 1), (34, .iload_n 1, 1), (35, .invokevirtual 230, 3), (38, .ifCond .ne 64, 3), (41, .aload_n 0, 1), (42, .aload_n 0, 1), (43, .iload_n 1, 1), (44, .invokevirtual 246, 3), (47, .ifCond .eq 21, 3), (50, .bipush 119, 2), (52, .bipush 97, 2), (54, .bipush 105, 2), (56, .bipush 116, 2), (58, .bipush 115, 2), (60, .iconst 0, 1), (61, .iconst 0, 1), (62, .invokestatic 58, 3), (65, .goto 29, 3), (68, .aload_n 0, 1), (69, .getfield 98, 3), (72, .bipush 64, 2), (74, .iload_n 1, 1), (75, .iadd, 1), (76, .iaload, 1), (77, .iconst 2, 1), (78, .if_icmp .ne 11, 3), (81, .bipush 15, 2), (83, .invokestatic 62, 3), (86, .goto 8, 3), (89, .bipush 16, 2), (91, .invokestatic 62, 3), (94, .invokevirtual 405, 3), (97, .aload_n 0, 1), (98, .getfield 392, 3), (101, .ireturn, 1), (102, .aload_n 0, 1), (103, .bipush 18, 2), (105, .invokestatic 62, 3), (108, .invokevirtual 405, 3), (111, .aload_n 0, 1), (112, .aload_n 0, 1), (113, .getfield 119, 3), (116, .aload_n 0, 1), (117, .getfield 98, 3), (120, .bipush 72, 2), (122, .iload_n 1, 1), (123, .iadd, 1), (124, .iaload, 1), (125, .laload, 1), (126, .invokevirtual 405, 3), (129, .aload_n 0, 1), (130, .bipush 32, 2), (132, .invokevirtual 399, 3), (135, .aload_n 0, 1), (136, .aload_n 0, 1), (137, .getfield 98, 3), (140, .bipush 80, 2), (142, .iload_n 1, 1), (143, .iadd, 1), (144, .iaload, 1), (145, .invokevirtual 402, 3), (148, .aload_n 0, 1), (149, .getfield 392, 3), (152, .ireturn, 1)]
set_option maxRecDepth 20000 in
theorem me_X12_tag : zdecs cX12_tag md_X12_tag := by
  unfold zdecs md_X12_tag
  decide +kernel
def md_X12_byteAt : List (Nat × Instr × Nat) := [(0, .aload_n 0, 1), (1, .iconst 0, 1), (2, .putfield 1, 3), (5, .iload_n 1, 1), (6, .iconst 0, 1), (7, .aload_n 0, 1), (8, .getfield 392, 3), (11, .iconst 1, 1), (12, .isub, 1), (13, .invokestatic 75, 3), (16, .ifCond .eq 12, 3), (19, .aload_n 0, 1), (20, .getfield 160, 3), (23, .iload_n 1, 1), (24, .iaload, 1), (25, .goto 4, 3), (28, .iconst (-1), 1), (29, .ireturn, 1)]
set_option maxRecDepth 20000 in
theorem me_X12_byteAt : zdecs cX12_byteAt md_X12_byteAt := by
  unfold zdecs md_X12_byteAt
  decide +kernel
def md_X12_draw : List (Nat × Instr × Nat) := [(0, .aload_n 0, 1), (1, .aload_n 0, 1), (2, .getfield 408, 3), (5, .ldc_w 411, 3), (8, .imul, 1), (9, .sipush 12345, 3), (12, .iadd, 1), (13, .putfield 408, 3), (16, .aload_n 0, 1), (17, .getfield 408, 3), (20, .bipush 8, 2), (22, .iushr, 1), (23, .iload_n 1, 1), (24, .irem, 1), (25, .ireturn, 1)]
set_option maxRecDepth 20000 in
theorem me_X12_draw : zdecs cX12_draw md_X12_draw := by
  unfold zdecs md_X12_draw
  decide +kernel
def md_X12_doIf : List (Nat × Instr × Nat) := [(0, .aload_n 0, 1), (1, .iload_n 1, 1), (2, .iload_n 2, 1), (3, .invokevirtual 296, 3), (6, .ifCond .ne 9, 3), (9, .aload_n 0, 1), (10, .iload_n 1, 1), (11, .iload_n 2, 1), (12, .invokevirtual 302, 3), (15, .return_, 1)]
set_option maxRecDepth 20000 in
theorem me_X12_doIf : zdecs cX12_doIf md_X12_doIf := by
  unfold zdecs md_X12_doIf
  decide +kernel
def md_X12_drawsFirst : List (Nat × Instr × Nat) := [(0, .aload_n 0, 1), (1, .bipush 8, 2), (3, .invokevirtual 412, 3), (6, .istore_n 1, 1), (7, .aload_n 0, 1), (8, .getfield 98, 3), (11, .iconst 2, 1), (12, .iaload, 1), (13, .istore_n 2, 1), (14, .iload_n 1, 1), (15, .iconst 3, 1), (16, .if_icmp .ge 17, 3), (19, .iload_n 2, 1), (20, .ifCond .le 13, 3), (23, .aload_n 0, 1), (24, .iconst 0, 1), (25, .aload_n 0, 1), (26, .iload_n 2, 1), (27, .invokevirtual 412, 3), (30, .invokevirtual 415, 3), (33, .iload_n 1, 1), (34, .iconst 3, 1), (35, .if_icmp .ne 17, 3), (38, .iload_n 2, 1), (39, .ifCond .le 13, 3), (42, .aload_n 0, 1), (43, .iconst 2, 1), (44, .aload_n 0, 1), (45, .iload_n 2, 1), (46, .invokevirtual 412, 3), (49, .invokevirtual 415, 3), (52, .iload_n 1, 1), (53, .iconst 4, 1), (54, .if_icmp .ne 27, 3), (57, .aload_n 0, 1), (58, .getfield 98, 3), (61, .iconst 0, 1), (62, .iaload, 1), (63, .ifCond .le 18, 3), (66, .aload_n 0, 1), (67, .iconst 3, 1), (68, .aload_n 0, 1), (69, .aload_n 0, 1), (70, .getfield 98, 3), (73, .iconst 0, 1), (74, .iaload, 1), (75, .invokevirtual 412, 3), (78, .invokevirtual 415, 3), (81, .iload_n 1, 1), (82, .iconst 5, 1), (83, .if_icmp .ne 25, 3), (86, .aload_n 0, 1), (87, .iconst 4, 1), (88, .invokevirtual 412, 3), (91, .ifCond .ne 17, 3), (94, .iload_n 2, 1), (95, .ifCond .le 13, 3), (98, .aload_n 0, 1), (99, .iconst 1, 1), (100, .aload_n 0, 1), (101, .iload_n 2, 1), (102, .invokevirtual 412, 3), (105, .invokevirtual 415, 3), (108, .return_, 1)]
set_option maxRecDepth 20000 in
theorem me_X12_drawsFirst : zdecs cX12_drawsFirst md_X12_drawsFirst := by
  unfold zdecs md_X12_drawsFirst
  decide +kernel
def md_X12_drawMinutes : List (Nat × Instr × Nat) := [(0, .aload_n 0, 1), (1, .iload_n 2, 1), (2, .putfield 408, 3), (5, .iload_n 1, 1), (6, .sipush 1000, 3), (9, .aload_n 0, 1), (10, .getfield 98, 3), (13, .bipush 56, 2), (15, .iaload, 1), (16, .isub, 1), (17, .invokestatic 315, 3), (20, .istore_n 3, 1), (21, .iconst 0, 1), (22, .istore 4, 2), (24, .iload 4, 2), (26, .iload_n 3, 1), (27, .if_icmp .ge 17, 3), (30, .aload_n 0, 1), (31, .invokevirtual 418, 3), (34, .aload_n 0, 1), (35, .invokevirtual 321, 3), (38, .iinc 4 1, 3), (41, .goto (-17), 3), (44, .iload_n 3, 1), (45, .ireturn, 1)]
set_option maxRecDepth 20000 in
theorem me_X12_drawMinutes : zdecs cX12_drawMinutes md_X12_drawMinutes := by
  unfold zdecs md_X12_drawMinutes
  decide +kernel
def md_X12_drawn : List (Nat × Instr × Nat) := [(0, .aload_n 0, 1), (1, .iconst 0, 1), (2, .putfield 1, 3), (5, .iload_n 1, 1), (6, .iconst 1, 1), (7, .bipush 60, 2), (9, .invokestatic 75, 3), (12, .ifCond .ne 5, 3), (15, .iconst (-1), 1), (16, .ireturn, 1), (17, .aload_n 0, 1), (18, .getfield 98, 3), (21, .bipush 56, 2), (23, .iaload, 1), (24, .sipush 1000, 3), (27, .if_icmp .ne 5, 3), (30, .iconst 0, 1), (31, .ireturn, 1), (32, .aload_n 0, 1), (33, .invokevirtual 299, 3), (36, .aload_n 0, 1), (37, .iload_n 1, 1), (38, .iload_n 2, 1), (39, .invokevirtual 421, 3), (42, .ireturn, 1)]
set_option maxRecDepth 20000 in
theorem me_X12_drawn : zdecs cX12_drawn md_X12_drawn := by
  unfold zdecs md_X12_drawn
  decide +kernel
def md_X12_odds : List (Nat × Instr × Nat) := [(0, .aload_n 0, 1), (1, .iconst 0, 1), (2, .putfield 1, 3), (5, .aload_n 0, 1), (6, .iload_n 1, 1), (7, .invokevirtual 261, 3), (10, .ifCond .eq 13, 3), (13, .iload_n 2, 1), (14, .iconst 1, 1), (15, .bipush 30, 2), (17, .invokestatic 75, 3), (20, .ifCond .ne 5, 3), (23, .iconst (-1), 1), (24, .ireturn, 1), (25, .aload_n 0, 1), (26, .aload_n 0, 1), (27, .getfield 116, 3), (30, .iconst 0, 1), (31, .invokevirtual 273, 3), (34, .iconst 0, 1), (35, .istore 4, 2), (37, .iconst 0, 1), (38, .istore 5, 2), (40, .iload 5, 2), (42, .iload_n 2, 1), (43, .if_icmp .ge 45, 3), (46, .aload_n 0, 1), (47, .bipush 40, 2), (49, .iload_n 3, 1), (50, .iload 5, 2), (52, .iadd, 1), (53, .invokevirtual 421, 3), (56, .pop, 1), (57, .aload_n 0, 1), (58, .getfield 98, 3), (61, .bipush 64, 2), (63, .iload_n 1, 1), (64, .iadd, 1), (65, .iaload, 1), (66, .iconst 2, 1), (67, .if_icmp .ne 6, 3), (70, .iinc 4 1, 3), (73, .aload_n 0, 1), (74, .aload_n 0, 1), (75, .getfield 116, 3), (78, .iconst 0, 1), (79, .invokevirtual 309, 3), (82, .iinc 5 1, 3), (85, .goto (-45), 3), (88, .iload 4, 2), (90, .ireturn, 1)]
set_option maxRecDepth 20000 in
theorem me_X12_odds : zdecs cX12_odds md_X12_odds := by
  unfold zdecs md_X12_odds
  decide +kernel
def md_X12_keep : List (Nat × Instr × Nat) := [(0, .iload_n 2, 1), (1, .ifCond .eq 13, 3), (4, .aload_n 0, 1), (5, .getfield 163, 3), (8, .iload_n 1, 1), (9, .aload_n 0, 1), (10, .getfield 79, 3), (13, .iastore, 1), (14, .iload_n 2, 1), (15, .ireturn, 1)]
set_option maxRecDepth 20000 in
theorem me_X12_keep : zdecs cX12_keep md_X12_keep := by
  unfold zdecs md_X12_keep
  decide +kernel
def md_X12_readNamed : List (Nat × Instr × Nat) := [(0, .aload_n 0, 1), (1, .invokevirtual 175, 3), (4, .ifCond .ne 9, 3), (7, .aload_n 0, 1), (8, .iconst 1, 1), (9, .invokevirtual 72, 3), (12, .ireturn, 1), (13, .aload_n 0, 1), (14, .aload_n 0, 1), (15, .getfield 119, 3), (18, .iload_n 1, 1), (19, .iload_n 2, 1), (20, .aload_n 0, 1), (21, .getfield 43, 3), (24, .invokestatic 179, 3), (27, .putfield 79, 3), (30, .aload_n 0, 1), (31, .getfield 79, 3), (34, .iconst (-1), 1), (35, .if_icmp .ne 9, 3), (38, .aload_n 0, 1), (39, .iconst 3, 1), (40, .invokevirtual 72, 3), (43, .ireturn, 1), (44, .aload_n 0, 1), (45, .invokevirtual 82, 3), (48, .iconst 1, 1), (49, .ireturn, 1)]
set_option maxRecDepth 20000 in
theorem me_X12_readNamed : zdecs cX12_readNamed md_X12_readNamed := by
  unfold zdecs md_X12_readNamed
  decide +kernel
def md_X12_readBathName : List (Nat × Instr × Nat) := [(0, .aload_n 0, 1), (1, .iconst 0, 1), (2, .aload_n 0, 1), (3, .getfield 98, 3), (6, .iconst 0, 1), (7, .iaload, 1), (8, .invokevirtual 424, 3), (11, .ireturn, 1)]
set_option maxRecDepth 20000 in
theorem me_X12_readBathName : zdecs cX12_readBathName md_X12_readBathName := by
  unfold zdecs md_X12_readBathName
  decide +kernel
def md_X12_readBookLine : List (Nat × Instr × Nat) := [(0, .aload_n 0, 1), (1, .bipush 10, 2), (3, .invokevirtual 203, 3), (6, .ifCond .eq 7, 3), (9, .iconst 4, 1), (10, .goto 4, 3), (13, .iconst (-1), 1), (14, .istore_n 1, 1), (15, .iconst 0, 1), (16, .istore_n 2, 1), (17, .iload_n 2, 1), (18, .iconst 3, 1), (19, .if_icmp .gt 22, 3), (22, .aload_n 0, 1), (23, .bipush 6, 2), (25, .iload_n 2, 1), (26, .iadd, 1), (27, .invokevirtual 203, 3), (30, .ifCond .eq 5, 3), (33, .iload_n 2, 1), (34, .istore_n 1, 1), (35, .iinc 2 1, 3), (38, .goto (-21), 3), (41, .iload_n 1, 1), (42, .iconst (-1), 1), (43, .if_icmp .ne 9, 3), (46, .aload_n 0, 1), (47, .iconst 1, 1), (48, .invokevirtual 72, 3), (51, .ireturn, 1), (52, .aload_n 0, 1), (53, .getfield 427, 3), (56, .bipush 40, 2), (58, .if_icmp .ne 9, 3), (61, .aload_n 0, 1), (62, .iconst 4, 1), (63, .invokevirtual 72, 3), (66, .ireturn, 1), (67, .iconst 2, 1), (68, .aload_n 0, 1), (69, .getfield 427, 3), (72, .imul, 1), (73, .istore_n 2, 1), (74, .aload_n 0, 1), (75, .getfield 163, 3), (78, .iload_n 2, 1), (79, .iload_n 1, 1), (80, .iastore, 1), (81, .aload_n 0, 1), (82, .invokevirtual 82, 3), (85, .iload_n 1, 1), (86, .lookupswitch 83 #[(3, 26), (4, 53)], 26), (112, .aload_n 0, 1), (113, .iload_n 2, 1), (114, .iconst 1, 1), (115, .iadd, 1), (116, .aload_n 0, 1), (117, .invokevirtual 430, 3), (120, .invokevirtual 433, 3), (123, .ifCond .eq 14, 3), (126, .aload_n 0, 1), (127, .invokevirtual 224, 3), (130, .ifCond .eq 7, 3), (133, .iconst 1, 1), (134, .goto 4, 3), (137, .iconst 0, 1), (138, .ireturn, 1), (139, .aload_n 0, 1), (140, .iload_n 2, 1), (141, .iconst 1, 1), (142, .iadd, 1), (143, .aload_n 0, 1), (144, .iconst 1, 1), (145, .bipush 60, 2), (147, .invokevirtual 190, 3), (150, .invokevirtual 433, 3), (153, .ifCond .eq 14, 3), (156, .aload_n 0, 1), (157, .invokevirtual 224, 3), (160, .ifCond .eq 7, 3), (163, .iconst 1, 1), (164, .goto 4, 3), (167, .iconst 0, 1), (168, .ireturn, 1), (169, .aload_n 0, 1), (170, .iload_n 2, 1), (171, .iconst 1, 1), (172, .iadd, 1), (173, .aload_n 0, 1), (174, .bipush 11, 2), (176, .aload_n 0, 1), (177, .getfield 98, 3), (180, .iconst 2, 1), (181, .iaload, 1), (182, .invokevirtual 424, 3), (185, .invokevirtual 433, 3), (188, .ifCond .eq 14, 3), (191, .aload_n 0, 1), (192, .invokevirtual 224, 3), (195, .ifCond .eq 7, 3), (198, .iconst 1, 1), (199, .goto 4, 3), (202, .iconst 0, 1), (203, .ireturn, 1)]
set_option maxRecDepth 20000 in
theorem me_X12_readBookLine : zdecs cX12_readBookLine md_X12_readBookLine := by
  unfold zdecs md_X12_readBookLine
  decide +kernel
def md_X12_goBy : List (Nat × Instr × Nat) := [(0, .aload_n 0, 1), (1, .getfield 163, 3), (4, .iload_n 1, 1), (5, .iaload, 1), (6, .istore_n 2, 1), (7, .aload_n 0, 1), (8, .getfield 163, 3), (11, .iload_n 1, 1), (12, .iconst 1, 1), (13, .iadd, 1), (14, .iaload, 1), (15, .istore_n 3, 1), (16, .iload_n 2, 1), (17, .iconst 4, 1), (18, .if_icmp .ne 29, 3), (21, .aload_n 0, 1), (22, .getfield 98, 3), (25, .bipush 56, 2), (27, .iaload, 1), (28, .iload_n 3, 1), (29, .iadd, 1), (30, .sipush 1000, 3), (33, .if_icmp .le 6, 3), (36, .bipush 41, 2), (38, .ireturn, 1), (39, .aload_n 0, 1), (40, .iload_n 3, 1), (41, .invokevirtual 324, 3), (44, .pop, 1), (45, .iconst 0, 1), (46, .ireturn, 1), (47, .aload_n 0, 1), (48, .iload_n 2, 1), (49, .iload_n 3, 1), (50, .invokevirtual 296, 3), (53, .istore 4, 2), (55, .iload 4, 2), (57, .ifCond .eq 11, 3), (60, .bipush 10, 2), (62, .iload_n 2, 1), (63, .imul, 1), (64, .iload 4, 2), (66, .iadd, 1), (67, .ireturn, 1), (68, .aload_n 0, 1), (69, .iload_n 2, 1), (70, .iload_n 3, 1), (71, .invokevirtual 302, 3), (74, .iconst 0, 1), (75, .ireturn, 1)]
set_option maxRecDepth 20000 in
theorem me_X12_goBy : zdecs cX12_goBy md_X12_goBy := by
  unfold zdecs md_X12_goBy
  decide +kernel
def md_X12_book : List (Nat × Instr × Nat) := [(0, .aload_n 0, 1), (1, .iconst 0, 1), (2, .putfield 1, 3), (5, .iload_n 1, 1), (6, .iconst 0, 1), (7, .iconst 1, 1), (8, .invokestatic 75, 3), (11, .ifCond .ne 7, 3), (14, .sipush (-1000), 3), (17, .ireturn, 1), (18, .aload_n 0, 1), (19, .sipush 400, 3), (22, .invokevirtual 218, 3), (25, .aload_n 0, 1), (26, .iconst 0, 1), (27, .putfield 427, 3), (30, .aload_n 0, 1), (31, .getfield 30, 3), (34, .ifCond .eq 31, 3), (37, .aload_n 0, 1), (38, .invokevirtual 436, 3), (41, .ifCond .ne 11, 3), (44, .bipush (-2), 2), (46, .aload_n 0, 1), (47, .getfield 69, 3), (50, .isub, 1), (51, .ireturn, 1), (52, .aload_n 0, 1), (53, .dup, 1), (54, .getfield 427, 3), (57, .iconst 1, 1), (58, .iadd, 1), (59, .putfield 427, 3), (62, .goto (-32), 3), (65, .aload_n 0, 1), (66, .aload_n 0, 1), (67, .getfield 116, 3), (70, .iconst 0, 1), (71, .invokevirtual 273, 3), (74, .iconst 0, 1), (75, .istore_n 2, 1), (76, .iconst 0, 1), (77, .istore_n 3, 1), (78, .iload_n 2, 1), (79, .aload_n 0, 1), (80, .getfield 427, 3), (83, .if_icmp .ge 25, 3), (86, .iload_n 3, 1), (87, .ifCond .ne 21, 3), (90, .aload_n 0, 1), (91, .iconst 2, 1), (92, .iload_n 2, 1), (93, .imul, 1), (94, .invokevirtual 439, 3), (97, .istore_n 3, 1), (98, .iload_n 3, 1), (99, .ifCond .ne (-21), 3), (102, .iinc 2 1, 3), (105, .goto (-27), 3), (108, .aload_n 0, 1), (109, .getfield 166, 3), (112, .iconst 0, 1), (113, .iload_n 3, 1), (114, .iastore, 1), (115, .aload_n 0, 1), (116, .getfield 166, 3), (119, .iconst 1, 1), (120, .iload_n 2, 1), (121, .iastore, 1), (122, .aload_n 0, 1), (123, .getfield 166, 3), (126, .iconst 2, 1), (127, .aload_n 0, 1), (128, .getfield 98, 3), (131, .bipush 56, 2), (133, .iaload, 1), (134, .iastore, 1), (135, .aload_n 0, 1), (136, .getfield 166, 3), (139, .iconst 3, 1), (140, .aload_n 0, 1), (141, .iconst 2, 1), (142, .invokevirtual 267, 3), (145, .iastore, 1), (146, .aload_n 0, 1), (147, .iconst 1, 1), (148, .putfield 442, 3), (151, .aload_n 0, 1), (152, .iload_n 1, 1), (153, .iconst 1, 1), (154, .if_icmp .ne 11, 3), (157, .iload_n 2, 1), (158, .ifCond .le 7, 3), (161, .iconst 1, 1), (162, .goto 4, 3), (165, .iconst 0, 1), (166, .invokevirtual 446, 3), (169, .iload_n 3, 1), (170, .ifCond .ne 7, 3), (173, .iconst (-1), 1), (174, .goto 4, 3), (177, .iload_n 2, 1), (178, .ireturn, 1)]
set_option maxRecDepth 20000 in
theorem me_X12_book : zdecs cX12_book md_X12_book := by
  unfold zdecs md_X12_book
  decide +kernel
def md_X12_stay : List (Nat × Instr × Nat) := [(0, .aload_n 0, 1), (1, .aload_n 0, 1), (2, .getfield 110, 3), (5, .iconst 0, 1), (6, .invokevirtual 273, 3), (9, .aload_n 0, 1), (10, .aload_n 0, 1), (11, .getfield 116, 3), (14, .iconst 0, 1), (15, .invokevirtual 309, 3), (18, .iload_n 1, 1), (19, .ifCond .ne 4, 3), (22, .return_, 1), (23, .aload_n 0, 1), (24, .invokevirtual 299, 3), (27, .aload_n 0, 1), (28, .aload_n 0, 1), (29, .getfield 110, 3), (32, .iconst 0, 1), (33, .invokevirtual 309, 3), (36, .return_, 1)]
set_option maxRecDepth 20000 in
theorem me_X12_stay : zdecs cX12_stay md_X12_stay := by
  unfold zdecs md_X12_stay
  decide +kernel
def md_X12_told : List (Nat × Instr × Nat) := [(0, .aload_n 0, 1), (1, .iconst 0, 1), (2, .putfield 1, 3), (5, .aload_n 0, 1), (6, .getfield 442, 3), (9, .ifCond .eq 21, 3), (12, .iload_n 1, 1), (13, .iconst 0, 1), (14, .iconst 3, 1), (15, .invokestatic 75, 3), (18, .ifCond .eq 12, 3), (21, .aload_n 0, 1), (22, .getfield 166, 3), (25, .iload_n 1, 1), (26, .iaload, 1), (27, .goto 4, 3), (30, .iconst (-1), 1), (31, .ireturn, 1)]
set_option maxRecDepth 20000 in
theorem me_X12_told : zdecs cX12_told md_X12_told := by
  unfold zdecs md_X12_told
  decide +kernel
def md_X12_readThat : List (Nat × Instr × Nat) := [(0, .iload_n 1, 1), (1, .bipush 18, 2), (3, .if_icmp .ne 10, 3), (6, .aload_n 0, 1), (7, .invokevirtual 430, 3), (10, .goto 15, 3), (13, .aload_n 0, 1), (14, .bipush 6, 2), (16, .aload_n 0, 1), (17, .getfield 98, 3), (20, .iconst 1, 1), (21, .iaload, 1), (22, .invokevirtual 424, 3), (25, .ireturn, 1)]
set_option maxRecDepth 20000 in
theorem me_X12_readThat : zdecs cX12_readThat md_X12_readThat := by
  unfold zdecs md_X12_readThat
  decide +kernel
def md_X12_saysOne : List (Nat × Instr × Nat) := [(0, .iconst 4, 1), (1, .aload_n 0, 1), (2, .getfield 450, 3), (5, .imul, 1), (6, .istore 5, 2), (8, .aload_n 0, 1), (9, .getfield 169, 3), (12, .iload 5, 2), (14, .iload_n 1, 1), (15, .iastore, 1), (16, .aload_n 0, 1), (17, .getfield 169, 3), (20, .iload 5, 2), (22, .iconst 1, 1), (23, .iadd, 1), (24, .iload_n 2, 1), (25, .iastore, 1), (26, .aload_n 0, 1), (27, .getfield 169, 3), (30, .iload 5, 2), (32, .iconst 2, 1), (33, .iadd, 1), (34, .iload_n 3, 1), (35, .iastore, 1), (36, .aload_n 0, 1), (37, .getfield 169, 3), (40, .iload 5, 2), (42, .iconst 3, 1), (43, .iadd, 1), (44, .iload 4, 2), (46, .iastore, 1), (47, .aload_n 0, 1), (48, .dup, 1), (49, .getfield 450, 3), (52, .iconst 1, 1), (53, .iadd, 1), (54, .putfield 450, 3), (57, .aload_n 0, 1), (58, .getfield 450, 3), (61, .iconst 1, 1), (62, .isub, 1), (63, .ireturn, 1)]
set_option maxRecDepth 20000 in
theorem me_X12_saysOne : zdecs cX12_saysOne md_X12_saysOne := by
  unfold zdecs md_X12_saysOne
  decide +kernel
def md_X12_readOr : List (Nat × Instr × Nat) := [(0, .aload_n 0, 1), (1, .invokevirtual 453, 3), (4, .ifCond .ne 5, 3), (7, .iconst 0, 1), (8, .ireturn, 1), (9, .aload_n 0, 1), (10, .getfield 456, 3), (13, .istore_n 1, 1), (14, .aload_n 0, 1), (15, .bipush 11, 2), (17, .invokevirtual 203, 3), (20, .ifCond .eq 31, 3), (23, .aload_n 0, 1), (24, .invokevirtual 82, 3), (27, .aload_n 0, 1), (28, .invokevirtual 453, 3), (31, .ifCond .ne 5, 3), (34, .iconst 0, 1), (35, .ireturn, 1), (36, .aload_n 0, 1), (37, .iconst 3, 1), (38, .iload_n 1, 1), (39, .aload_n 0, 1), (40, .getfield 456, 3), (43, .iconst 0, 1), (44, .invokevirtual 459, 3), (47, .istore_n 1, 1), (48, .goto (-34), 3), (51, .aload_n 0, 1), (52, .iload_n 1, 1), (53, .putfield 456, 3), (56, .iconst 1, 1), (57, .ireturn, 1)]
set_option maxRecDepth 20000 in
theorem me_X12_readOr : zdecs cX12_readOr md_X12_readOr := by
  unfold zdecs md_X12_readOr
  decide +kernel
def md_X12_readAnd : List (Nat × Instr × Nat) := [(0, .aload_n 0, 1), (1, .invokevirtual 463, 3), (4, .ifCond .ne 5, 3), (7, .iconst 0, 1), (8, .ireturn, 1), (9, .aload_n 0, 1), (10, .getfield 456, 3), (13, .istore_n 1, 1), (14, .aload_n 0, 1), (15, .bipush 12, 2), (17, .invokevirtual 203, 3), (20, .ifCond .eq 31, 3), (23, .aload_n 0, 1), (24, .invokevirtual 82, 3), (27, .aload_n 0, 1), (28, .invokevirtual 463, 3), (31, .ifCond .ne 5, 3), (34, .iconst 0, 1), (35, .ireturn, 1), (36, .aload_n 0, 1), (37, .iconst 2, 1), (38, .iload_n 1, 1), (39, .aload_n 0, 1), (40, .getfield 456, 3), (43, .iconst 0, 1), (44, .invokevirtual 459, 3), (47, .istore_n 1, 1), (48, .goto (-34), 3), (51, .aload_n 0, 1), (52, .iload_n 1, 1), (53, .putfield 456, 3), (56, .iconst 1, 1), (57, .ireturn, 1)]
set_option maxRecDepth 20000 in
theorem me_X12_readAnd : zdecs cX12_readAnd md_X12_readAnd := by
  unfold zdecs md_X12_readAnd
  decide +kernel
def md_X12_readSaid : List (Nat × Instr × Nat) := [(0, .aload_n 0, 1), (1, .bipush 40, 2), (3, .invokevirtual 86, 3), (6, .istore_n 1, 1), (7, .bipush 13, 2), (9, .istore_n 2, 1), (10, .iload_n 2, 1), (11, .bipush 23, 2), (13, .if_icmp .gt 17, 3), (16, .aload_n 0, 1), (17, .iload_n 2, 1), (18, .invokevirtual 203, 3), (21, .ifCond .ne 9, 3), (24, .iinc 2 1, 3), (27, .goto (-17), 3), (30, .iload_n 1, 1), (31, .ifCond .ne 15, 3), (34, .iload_n 2, 1), (35, .bipush 23, 2), (37, .if_icmp .le 9, 3), (40, .aload_n 0, 1), (41, .iconst 1, 1), (42, .invokevirtual 72, 3), (45, .ireturn, 1), (46, .aload_n 0, 1), (47, .getfield 466, 3), (50, .bipush 20, 2), (52, .if_icmp .eq 12, 3), (55, .aload_n 0, 1), (56, .getfield 469, 3), (59, .bipush 8, 2), (61, .if_icmp .ne 9, 3), (64, .aload_n 0, 1), (65, .iconst 4, 1), (66, .invokevirtual 72, 3), (69, .ireturn, 1), (70, .aload_n 0, 1), (71, .dup, 1), (72, .getfield 466, 3), (75, .iconst 1, 1), (76, .iadd, 1), (77, .putfield 466, 3), (80, .aload_n 0, 1), (81, .dup, 1), (82, .getfield 469, 3), (85, .iconst 1, 1), (86, .iadd, 1), (87, .putfield 469, 3), (90, .aload_n 0, 1), (91, .invokevirtual 82, 3), (94, .iconst 1, 1), (95, .istore_n 3, 1), (96, .iload_n 1, 1), (97, .ifCond .eq 11, 3), (100, .aload_n 0, 1), (101, .invokevirtual 472, 3), (104, .istore_n 3, 1), (105, .goto 61, 3), (108, .iload_n 2, 1), (109, .bipush 13, 2), (111, .if_icmp .ne 11, 3), (114, .aload_n 0, 1), (115, .invokevirtual 475, 3), (118, .istore_n 3, 1), (119, .goto 47, 3), (122, .iload_n 2, 1), (123, .bipush 18, 2), (125, .if_icmp .ge 21, 3), (128, .aload_n 0, 1), (129, .aload_n 0, 1), (130, .bipush 50, 2), (132, .iload_n 2, 1), (133, .iadd, 1), (134, .iconst 0, 1), (135, .iconst 0, 1), (136, .iconst 0, 1), (137, .invokevirtual 459, 3), (140, .putfield 456, 3), (143, .goto 23, 3), (146, .iload_n 2, 1), (147, .bipush 20, 2), (149, .if_icmp .ge 11, 3), (152, .aload_n 0, 1), (153, .iload_n 2, 1), (154, .invokevirtual 478, 3), (157, .goto 8, 3), (160, .aload_n 0, 1), (161, .iload_n 2, 1), (162, .invokevirtual 481, 3), (165, .istore_n 3, 1), (166, .aload_n 0, 1), (167, .dup, 1), (168, .getfield 469, 3), (171, .iconst 1, 1), (172, .isub, 1), (173, .putfield 469, 3), (176, .iload_n 3, 1), (177, .ireturn, 1)]
set_option maxRecDepth 20000 in
theorem me_X12_readSaid : zdecs cX12_readSaid md_X12_readSaid := by
  unfold zdecs md_X12_readSaid
  decide +kernel
def md_X12_readNot : List (Nat × Instr × Nat) := [(0, .aload_n 0, 1), (1, .invokevirtual 463, 3), (4, .ifCond .ne 5, 3), (7, .iconst 0, 1), (8, .ireturn, 1), (9, .aload_n 0, 1), (10, .aload_n 0, 1), (11, .iconst 1, 1), (12, .aload_n 0, 1), (13, .getfield 456, 3), (16, .iconst 0, 1), (17, .iconst 0, 1), (18, .invokevirtual 459, 3), (21, .putfield 456, 3), (24, .iconst 1, 1), (25, .ireturn, 1)]
set_option maxRecDepth 20000 in
theorem me_X12_readNot : zdecs cX12_readNot md_X12_readNot := by
  unfold zdecs md_X12_readNot
  decide +kernel
def md_X12_readBracket : List (Nat × Instr × Nat) := [(0, .aload_n 0, 1), (1, .invokevirtual 484, 3), (4, .ifCond .ne 5, 3), (7, .iconst 0, 1), (8, .ireturn, 1), (9, .aload_n 0, 1), (10, .bipush 41, 2), (12, .invokevirtual 86, 3), (15, .ifCond .ne 9, 3), (18, .aload_n 0, 1), (19, .iconst 1, 1), (20, .invokevirtual 72, 3), (23, .ireturn, 1), (24, .aload_n 0, 1), (25, .invokevirtual 82, 3), (28, .iconst 1, 1), (29, .ireturn, 1)]
set_option maxRecDepth 20000 in
theorem me_X12_readBracket : zdecs cX12_readBracket md_X12_readBracket := by
  unfold zdecs md_X12_readBracket
  decide +kernel
def md_X12_readOf : List (Nat × Instr × Nat) := [(0, .aload_n 0, 1), (1, .iload_n 1, 1), (2, .invokevirtual 487, 3), (5, .ifCond .ne 5, 3), (8, .iconst 0, 1), (9, .ireturn, 1), (10, .aload_n 0, 1), (11, .aload_n 0, 1), (12, .bipush 50, 2), (14, .iload_n 1, 1), (15, .iadd, 1), (16, .aload_n 0, 1), (17, .getfield 79, 3), (20, .iconst 0, 1), (21, .iconst 0, 1), (22, .invokevirtual 459, 3), (25, .putfield 456, 3), (28, .iconst 1, 1), (29, .ireturn, 1)]
set_option maxRecDepth 20000 in
theorem me_X12_readOf : zdecs cX12_readOf md_X12_readOf := by
  unfold zdecs md_X12_readOf
  decide +kernel
def md_X12_readCompare : List (Nat × Instr × Nat) := [(0, .aload_n 0, 1), (1, .bipush 60, 2), (3, .invokevirtual 86, 3), (6, .ifCond .ne 27, 3), (9, .aload_n 0, 1), (10, .bipush 61, 2), (12, .invokevirtual 86, 3), (15, .ifCond .ne 18, 3), (18, .aload_n 0, 1), (19, .bipush 62, 2), (21, .invokevirtual 86, 3), (24, .ifCond .ne 9, 3), (27, .aload_n 0, 1), (28, .iconst 1, 1), (29, .invokevirtual 72, 3), (32, .ireturn, 1), (33, .aload_n 0, 1), (34, .getfield 40, 3), (37, .istore_n 2, 1), (38, .aload_n 0, 1), (39, .invokevirtual 82, 3), (42, .aload_n 0, 1), (43, .iconst 0, 1), (44, .sipush 999, 3), (47, .invokevirtual 190, 3), (50, .ifCond .ne 5, 3), (53, .iconst 0, 1), (54, .ireturn, 1), (55, .aload_n 0, 1), (56, .aload_n 0, 1), (57, .bipush 50, 2), (59, .iload_n 1, 1), (60, .iadd, 1), (61, .iconst 0, 1), (62, .aload_n 0, 1), (63, .getfield 79, 3), (66, .iload_n 2, 1), (67, .invokevirtual 459, 3), (70, .putfield 456, 3), (73, .iconst 1, 1), (74, .ireturn, 1)]
set_option maxRecDepth 20000 in
theorem me_X12_readCompare : zdecs cX12_readCompare md_X12_readCompare := by
  unfold zdecs md_X12_readCompare
  decide +kernel
def md_X12_sentence : List (Nat × Instr × Nat) := [(0, .aload_n 0, 1), (1, .sipush 200, 3), (4, .invokevirtual 218, 3), (7, .aload_n 0, 1), (8, .iconst 0, 1), (9, .putfield 450, 3), (12, .aload_n 0, 1), (13, .iconst 0, 1), (14, .putfield 466, 3), (17, .aload_n 0, 1), (18, .iconst 0, 1), (19, .putfield 469, 3), (22, .aload_n 0, 1), (23, .invokevirtual 484, 3), (26, .ifCond .ne 10, 3), (29, .iconst (-1), 1), (30, .aload_n 0, 1), (31, .getfield 69, 3), (34, .isub, 1), (35, .ireturn, 1), (36, .aload_n 0, 1), (37, .getfield 30, 3), (40, .ifCond .eq 16, 3), (43, .aload_n 0, 1), (44, .iconst 1, 1), (45, .invokevirtual 72, 3), (48, .pop, 1), (49, .iconst (-1), 1), (50, .aload_n 0, 1), (51, .getfield 69, 3), (54, .isub, 1), (55, .ireturn, 1), (56, .aload_n 0, 1), (57, .getfield 98, 3), (60, .bipush 112, 2), (62, .iconst 1, 1), (63, .iastore, 1), (64, .aload_n 0, 1), (65, .getfield 98, 3), (68, .bipush 113, 2), (70, .aload_n 0, 1), (71, .getfield 456, 3), (74, .iastore, 1), (75, .iconst 0, 1), (76, .istore_n 1, 1), (77, .iload_n 1, 1), (78, .sipush 240, 3), (81, .if_icmp .ge 24, 3), (84, .aload_n 0, 1), (85, .getfield 98, 3), (88, .bipush 114, 2), (90, .iload_n 1, 1), (91, .iadd, 1), (92, .aload_n 0, 1), (93, .getfield 169, 3), (96, .iload_n 1, 1), (97, .iaload, 1), (98, .iastore, 1), (99, .iinc 1 1, 3), (102, .goto (-25), 3), (105, .aload_n 0, 1), (106, .getfield 466, 3), (109, .ireturn, 1)]
set_option maxRecDepth 20000 in
theorem me_X12_sentence : zdecs cX12_sentence md_X12_sentence := by
  unfold zdecs md_X12_sentence
  decide +kernel
def md_X12_holds : List (Nat × Instr × Nat) := [(0, .bipush 114, 2), (2, .iconst 4, 1), (3, .iload_n 1, 1), (4, .imul, 1), (5, .iadd, 1), (6, .istore_n 3, 1), (7, .aload_n 0, 1), (8, .getfield 98, 3), (11, .iload_n 3, 1), (12, .iconst 1, 1), (13, .iadd, 1), (14, .iaload, 1), (15, .istore 4, 2), (17, .aload_n 0, 1), (18, .getfield 98, 3), (21, .iload_n 3, 1), (22, .iconst 2, 1), (23, .iadd, 1), (24, .iaload, 1), (25, .istore 5, 2), (27, .aload_n 0, 1), (28, .getfield 98, 3), (31, .iload_n 3, 1), (32, .iaload, 1), (33, .lookupswitch 241 #[(1, 83), (2, 99), (3, 125), (64, 151), (65, 157), (66, 176), (67, 195), (68, 201), (69, 221)], 83), (116, .aload_n 0, 1), (117, .iload 4, 2), (119, .iload_n 2, 1), (120, .invokevirtual 490, 3), (123, .ifCond .ne 7, 3), (126, .iconst 1, 1), (127, .goto 4, 3), (130, .iconst 0, 1), (131, .ireturn, 1), (132, .aload_n 0, 1), (133, .iload 4, 2), (135, .iload_n 2, 1), (136, .invokevirtual 490, 3), (139, .ifCond .eq 17, 3), (142, .aload_n 0, 1), (143, .iload 5, 2), (145, .iload_n 2, 1), (146, .invokevirtual 490, 3), (149, .ifCond .eq 7, 3), (152, .iconst 1, 1), (153, .goto 4, 3), (156, .iconst 0, 1), (157, .ireturn, 1), (158, .aload_n 0, 1), (159, .iload 4, 2), (161, .iload_n 2, 1), (162, .invokevirtual 490, 3), (165, .ifCond .ne 13, 3), (168, .aload_n 0, 1), (169, .iload 5, 2), (171, .iload_n 2, 1), (172, .invokevirtual 490, 3), (175, .ifCond .eq 7, 3), (178, .iconst 1, 1), (179, .goto 4, 3), (182, .iconst 0, 1), (183, .ireturn, 1), (184, .aload_n 0, 1), (185, .iload_n 2, 1), (186, .invokevirtual 246, 3), (189, .ireturn, 1), (190, .aload_n 0, 1), (191, .getfield 98, 3), (194, .bipush 64, 2), (196, .iload_n 2, 1), (197, .iadd, 1), (198, .iaload, 1), (199, .iconst 2, 1), (200, .if_icmp .ne 7, 3), (203, .iconst 1, 1), (204, .goto 4, 3), (207, .iconst 0, 1), (208, .ireturn, 1), (209, .aload_n 0, 1), (210, .getfield 98, 3), (213, .bipush 64, 2), (215, .iload_n 2, 1), (216, .iadd, 1), (217, .iaload, 1), (218, .iconst 3, 1), (219, .if_icmp .ne 7, 3), (222, .iconst 1, 1), (223, .goto 4, 3), (226, .iconst 0, 1), (227, .ireturn, 1), (228, .aload_n 0, 1), (229, .iload_n 2, 1), (230, .invokevirtual 270, 3), (233, .ireturn, 1), (234, .aload_n 0, 1), (235, .getfield 98, 3), (238, .bipush 72, 2), (240, .iload_n 2, 1), (241, .iadd, 1), (242, .iaload, 1), (243, .iload 4, 2), (245, .if_icmp .ne 7, 3), (248, .iconst 1, 1), (249, .goto 4, 3), (252, .iconst 0, 1), (253, .ireturn, 1), (254, .aload_n 0, 1), (255, .getfield 98, 3), (258, .bipush 48, 2), (260, .iload_n 2, 1), (261, .iadd, 1), (262, .iaload, 1), (263, .iload 4, 2), (265, .if_icmp .ne 7, 3), (268, .iconst 1, 1), (269, .goto 4, 3), (272, .iconst 0, 1), (273, .ireturn, 1), (274, .aload_n 0, 1), (275, .getfield 98, 3), (278, .iload_n 3, 1), (279, .iaload, 1), (280, .bipush 50, 2), (282, .isub, 1), (283, .istore 6, 2), (285, .iload 6, 2), (287, .bipush 20, 2), (289, .if_icmp .ne 15, 3), (292, .aload_n 0, 1), (293, .getfield 98, 3), (296, .bipush 80, 2), (298, .iload_n 2, 1), (299, .iadd, 1), (300, .iaload, 1), (301, .goto 42, 3), (304, .iload 6, 2), (306, .bipush 21, 2), (308, .if_icmp .ne 15, 3), (311, .aload_n 0, 1), (312, .getfield 98, 3), (315, .bipush 96, 2), (317, .iload_n 2, 1), (318, .iadd, 1), (319, .iaload, 1), (320, .goto 23, 3), (323, .iload 6, 2), (325, .bipush 22, 2), (327, .if_icmp .ne 15, 3), (330, .aload_n 0, 1), (331, .getfield 98, 3), (334, .bipush 104, 2), (336, .iload_n 2, 1), (337, .iadd, 1), (338, .iaload, 1), (339, .goto 4, 3), (342, .iload_n 2, 1), (343, .istore 7, 2), (345, .aload_n 0, 1), (346, .getfield 98, 3), (349, .iload_n 3, 1), (350, .iconst 3, 1), (351, .iadd, 1), (352, .iaload, 1), (353, .bipush 60, 2), (355, .if_icmp .ne 18, 3), (358, .iload 7, 2), (360, .iload 5, 2), (362, .if_icmp .ge 7, 3), (365, .iconst 1, 1), (366, .goto 47, 3), (369, .iconst 0, 1), (370, .goto 43, 3), (373, .aload_n 0, 1), (374, .getfield 98, 3), (377, .iload_n 3, 1), (378, .iconst 3, 1), (379, .iadd, 1), (380, .iaload, 1), (381, .bipush 61, 2), (383, .if_icmp .ne 18, 3), (386, .iload 7, 2), (388, .iload 5, 2), (390, .if_icmp .ne 7, 3), (393, .iconst 1, 1), (394, .goto 19, 3), (397, .iconst 0, 1), (398, .goto 15, 3), (401, .iload 7, 2), (403, .iload 5, 2), (405, .if_icmp .le 7, 3), (408, .iconst 1, 1), (409, .goto 4, 3), (412, .iconst 0, 1), (413, .ireturn, 1)]
set_option maxRecDepth 20000 in
theorem me_X12_holds : zdecs cX12_holds md_X12_holds := by
  unfold zdecs md_X12_holds
  decide +kernel
def md_X12_said : List (Nat × Instr × Nat) := [(0, .aload_n 0, 1), (1, .iconst 0, 1), (2, .putfield 1, 3), (5, .aload_n 0, 1), (6, .getfield 98, 3), (9, .bipush 112, 2), (11, .iaload, 1), (12, .ifCond .ne 5, 3), (15, .iconst (-1), 1), (16, .ireturn, 1), (17, .iconst 0, 1), (18, .istore_n 2, 1), (19, .iconst 0, 1), (20, .istore_n 3, 1), (21, .iload_n 3, 1), (22, .aload_n 0, 1), (23, .getfield 98, 3), (26, .iconst 2, 1), (27, .iaload, 1), (28, .if_icmp .ge 37, 3), (31, .aload_n 0, 1), (32, .aload_n 0, 1), (33, .getfield 98, 3), (36, .bipush 113, 2), (38, .iaload, 1), (39, .iload_n 3, 1), (40, .invokevirtual 490, 3), (43, .ifCond .ne 6, 3), (46, .goto 13, 3), (49, .iload_n 2, 1), (50, .iload_n 1, 1), (51, .if_icmp .ne 5, 3), (54, .iload_n 3, 1), (55, .ireturn, 1), (56, .iinc 2 1, 3), (59, .iinc 3 1, 3), (62, .goto (-41), 3), (65, .iload_n 1, 1), (66, .iconst (-1), 1), (67, .if_icmp .ne 7, 3), (70, .iload_n 2, 1), (71, .goto 4, 3), (74, .iconst (-1), 1), (75, .ireturn, 1)]
set_option maxRecDepth 20000 in
theorem me_X12_said : zdecs cX12_said md_X12_said := by
  unfold zdecs md_X12_said
  decide +kernel
def md_X12_image : List (Nat × Instr × Nat) := [(0, .aload_n 0, 1), (1, .iconst 0, 1), (2, .putfield 1, 3), (5, .iload_n 1, 1), (6, .iconst 0, 1), (7, .iconst 1, 1), (8, .invokestatic 75, 3), (11, .ifCond .ne 5, 3), (14, .iconst 0, 1), (15, .ireturn, 1), (16, .iconst 0, 1), (17, .istore_n 2, 1), (18, .iload_n 2, 1), (19, .sipush 354, 3), (22, .if_icmp .ge 27, 3), (25, .aload_n 0, 1), (26, .getfield 104, 3), (29, .sipush 354, 3), (32, .iload_n 1, 1), (33, .imul, 1), (34, .iload_n 2, 1), (35, .iadd, 1), (36, .aload_n 0, 1), (37, .getfield 98, 3), (40, .iload_n 2, 1), (41, .iaload, 1), (42, .iastore, 1), (43, .iinc 2 1, 3), (46, .goto (-28), 3), (49, .iconst 0, 1), (50, .istore_n 2, 1), (51, .iload_n 2, 1), (52, .bipush 19, 2), (54, .if_icmp .ge 26, 3), (57, .aload_n 0, 1), (58, .getfield 126, 3), (61, .bipush 19, 2), (63, .iload_n 1, 1), (64, .imul, 1), (65, .iload_n 2, 1), (66, .iadd, 1), (67, .aload_n 0, 1), (68, .getfield 119, 3), (71, .iload_n 2, 1), (72, .laload, 1), (73, .lastore, 1), (74, .iinc 2 1, 3), (77, .goto (-26), 3), (80, .aload_n 0, 1), (81, .getfield 129, 3), (84, .iload_n 1, 1), (85, .iconst 1, 1), (86, .bastore, 1), (87, .iconst 1, 1), (88, .ireturn, 1)]
set_option maxRecDepth 20000 in
theorem me_X12_image : zdecs cX12_image md_X12_image := by
  unfold zdecs md_X12_image
  decide +kernel
def md_X12_restore : List (Nat × Instr × Nat) := [(0, .aload_n 0, 1), (1, .iconst 0, 1), (2, .putfield 1, 3), (5, .iload_n 1, 1), (6, .iconst 0, 1), (7, .iconst 1, 1), (8, .invokestatic 75, 3), (11, .ifCond .eq 12, 3), (14, .aload_n 0, 1), (15, .getfield 129, 3), (18, .iload_n 1, 1), (19, .baload, 1), (20, .ifCond .ne 5, 3), (23, .iconst 0, 1), (24, .ireturn, 1), (25, .iconst 0, 1), (26, .istore_n 2, 1), (27, .iload_n 2, 1), (28, .sipush 354, 3), (31, .if_icmp .ge 27, 3), (34, .aload_n 0, 1), (35, .getfield 98, 3), (38, .iload_n 2, 1), (39, .aload_n 0, 1), (40, .getfield 104, 3), (43, .sipush 354, 3), (46, .iload_n 1, 1), (47, .imul, 1), (48, .iload_n 2, 1), (49, .iadd, 1), (50, .iaload, 1), (51, .iastore, 1), (52, .iinc 2 1, 3), (55, .goto (-28), 3), (58, .iconst 0, 1), (59, .istore_n 2, 1), (60, .iload_n 2, 1), (61, .bipush 19, 2), (63, .if_icmp .ge 26, 3), (66, .aload_n 0, 1), (67, .getfield 119, 3), (70, .iload_n 2, 1), (71, .aload_n 0, 1), (72, .getfield 126, 3), (75, .bipush 19, 2), (77, .iload_n 1, 1), (78, .imul, 1), (79, .iload_n 2, 1), (80, .iadd, 1), (81, .laload, 1), (82, .lastore, 1), (83, .iinc 2 1, 3), (86, .goto (-26), 3), (89, .aload_n 0, 1), (90, .iconst 0, 1), (91, .putfield 227, 3), (94, .iconst 1, 1), (95, .ireturn, 1)]
set_option maxRecDepth 20000 in
theorem me_X12_restore : zdecs cX12_restore md_X12_restore := by
  unfold zdecs md_X12_restore
  decide +kernel
def md_X12_count : List (Nat × Instr × Nat) := [(0, .aload_n 0, 1), (1, .iconst 0, 1), (2, .putfield 1, 3), (5, .iload_n 1, 1), (6, .tableswitch 89 0 6 #[42, 49, 56, 63, 70, 77, 84], 42), (48, .aload_n 0, 1), (49, .getfield 98, 3), (52, .iconst 0, 1), (53, .iaload, 1), (54, .ireturn, 1), (55, .aload_n 0, 1), (56, .getfield 98, 3), (59, .iconst 1, 1), (60, .iaload, 1), (61, .ireturn, 1), (62, .aload_n 0, 1), (63, .getfield 98, 3), (66, .iconst 2, 1), (67, .iaload, 1), (68, .ireturn, 1), (69, .aload_n 0, 1), (70, .getfield 98, 3), (73, .iconst 3, 1), (74, .iaload, 1), (75, .ireturn, 1), (76, .aload_n 0, 1), (77, .getfield 98, 3), (80, .iconst 4, 1), (81, .iaload, 1), (82, .ireturn, 1), (83, .aload_n 0, 1), (84, .getfield 98, 3), (87, .iconst 5, 1), (88, .iaload, 1), (89, .ireturn, 1), (90, .aload_n 0, 1), (91, .getfield 11, 3), (94, .ireturn, 1), (95, .iconst (-1), 1), (96, .ireturn, 1)]
set_option maxRecDepth 20000 in
theorem me_X12_count : zdecs cX12_count md_X12_count := by
  unfold zdecs md_X12_count
  decide +kernel
def md_J6_bitCount_0f7a4 : List (Nat × Instr × Nat) := [(0, .iload_n 0, 1), (1, .iload_n 0, 1), (2, .iconst 1, 1), (3, .iushr, 1), (4, .ldc_w 265, 3), (7, .iand, 1), (8, .isub, 1), (9, .istore_n 0, 1), (10, .iload_n 0, 1), (11, .ldc_w 266, 3), (14, .iand, 1), (15, .iload_n 0, 1), (16, .iconst 2, 1), (17, .iushr, 1), (18, .ldc_w 266, 3), (21, .iand, 1), (22, .iadd, 1), (23, .istore_n 0, 1), (24, .iload_n 0, 1), (25, .iload_n 0, 1), (26, .iconst 4, 1), (27, .iushr, 1), (28, .iadd, 1), (29, .ldc_w 267, 3), (32, .iand, 1), (33, .istore_n 0, 1), (34, .iload_n 0, 1), (35, .iload_n 0, 1), (36, .bipush 8, 2), (38, .iushr, 1), (39, .iadd, 1), (40, .istore_n 0, 1), (41, .iload_n 0, 1), (42, .iload_n 0, 1), (43, .bipush 16, 2), (45, .iushr, 1), (46, .iadd, 1), (47, .istore_n 0, 1), (48, .iload_n 0, 1), (49, .bipush 63, 2), (51, .iand, 1), (52, .ireturn, 1)]
set_option maxRecDepth 20000 in
theorem me_J6_bitCount_0f7a4 : zdecs cJ6_bitCount_0f7a4 md_J6_bitCount_0f7a4 := by
  unfold zdecs md_J6_bitCount_0f7a4
  decide +kernel
def md_J9_abs_0f7a4 : List (Nat × Instr × Nat) := [(0, .iload_n 0, 1), (1, .ifCond .ge 8, 3), (4, .iload_n 0, 1), (5, .ineg, 1), (6, .goto 4, 3), (9, .iload_n 0, 1), (10, .ireturn, 1)]
set_option maxRecDepth 20000 in
theorem me_J9_abs_0f7a4 : zdecs cJ9_abs_0f7a4 md_J9_abs_0f7a4 := by
  unfold zdecs md_J9_abs_0f7a4
  decide +kernel
def md_J9_max_7cf53 : List (Nat × Instr × Nat) := [(0, .iload_n 0, 1), (1, .iload_n 1, 1), (2, .if_icmp .lt 7, 3), (5, .iload_n 0, 1), (6, .goto 4, 3), (9, .iload_n 1, 1), (10, .ireturn, 1)]
set_option maxRecDepth 20000 in
theorem me_J9_max_7cf53 : zdecs cJ9_max_7cf53 md_J9_max_7cf53 := by
  unfold zdecs md_J9_max_7cf53
  decide +kernel
def md_J9_min_7cf53 : List (Nat × Instr × Nat) := [(0, .iload_n 0, 1), (1, .iload_n 1, 1), (2, .if_icmp .gt 7, 3), (5, .iload_n 0, 1), (6, .goto 4, 3), (9, .iload_n 1, 1), (10, .ireturn, 1)]
set_option maxRecDepth 20000 in
theorem me_J9_min_7cf53 : zdecs cJ9_min_7cf53 md_J9_min_7cf53 := by
  unfold zdecs md_J9_min_7cf53
  decide +kernel
def md_J0_length_8abf5 : List (Nat × Instr × Nat) := [(0, .aload_n 0, 1), (1, .getfield 9, 3), (4, .arraylength, 1), (5, .aload_n 0, 1), (6, .invokevirtual 335, 3), (9, .ishr, 1), (10, .ireturn, 1)]
set_option maxRecDepth 20000 in
theorem me_J0_length_8abf5 : zdecs cJ0_length_8abf5 md_J0_length_8abf5 := by
  unfold zdecs md_J0_length_8abf5
  decide +kernel
def md_J0_charAt_5068e : List (Nat × Instr × Nat) := [(0, .aload_n 0, 1), (1, .invokevirtual 492, 3), (4, .ifCond .eq 12, 3), (7, .aload_n 0, 1), (8, .getfield 9, 3), (11, .iload_n 1, 1), (12, .invokestatic 495, 3), (15, .ireturn, 1), (16, .aload_n 0, 1), (17, .getfield 9, 3), (20, .iload_n 1, 1), (21, .invokestatic 498, 3), (24, .ireturn, 1)]
set_option maxRecDepth 20000 in
theorem me_J0_charAt_5068e : zdecs cJ0_charAt_5068e md_J0_charAt_5068e := by
  unfold zdecs md_J0_charAt_5068e
  decide +kernel
def md_J0_coder_7d493 : List (Nat × Instr × Nat) := [(0, .getstatic 38, 3), (3, .ifCond .eq 10, 3), (6, .aload_n 0, 1), (7, .getfield 15, 3), (10, .goto 4, 3), (13, .iconst 1, 1), (14, .ireturn, 1)]
set_option maxRecDepth 20000 in
theorem me_J0_coder_7d493 : zdecs cJ0_coder_7d493 md_J0_coder_7d493 := by
  unfold zdecs md_J0_coder_7d493
  decide +kernel
def md_J0_isLatin1_aae02 : List (Nat × Instr × Nat) := [(0, .getstatic 38, 3), (3, .ifCond .eq 14, 3), (6, .aload_n 0, 1), (7, .getfield 15, 3), (10, .ifCond .ne 7, 3), (13, .iconst 1, 1), (14, .goto 4, 3), (17, .iconst 0, 1), (18, .ireturn, 1)]
set_option maxRecDepth 20000 in
theorem me_J0_isLatin1_aae02 : zdecs cJ0_isLatin1_aae02 md_J0_isLatin1_aae02 := by
  unfold zdecs md_J0_isLatin1_aae02
  decide +kernel
def md_J0_checkIndex_df160 : List (Nat × Instr × Nat) := [(0, .iload_n 0, 1), (1, .iload_n 1, 1), (2, .getstatic 1053, 3), (5, .invokestatic 1059, 3), (8, .pop, 1), (9, .return_, 1)]
set_option maxRecDepth 20000 in
theorem me_J0_checkIndex_df160 : zdecs cJ0_checkIndex_df160 md_J0_checkIndex_df160 := by
  unfold zdecs md_J0_checkIndex_df160
  decide +kernel
def md_J1_charAt_3b067 : List (Nat × Instr × Nat) := [(0, .iload_n 1, 1), (1, .aload_n 0, 1), (2, .arraylength, 1), (3, .invokestatic 9, 3), (6, .aload_n 0, 1), (7, .iload_n 1, 1), (8, .baload, 1), (9, .sipush 255, 3), (12, .iand, 1), (13, .i2c, 1), (14, .ireturn, 1)]
set_option maxRecDepth 20000 in
theorem me_J1_charAt_3b067 : zdecs cJ1_charAt_3b067 md_J1_charAt_3b067 := by
  unfold zdecs md_J1_charAt_3b067
  decide +kernel
def md_J2_getChar_3b067 : List (Nat × Instr × Nat) := [(0, .getstatic 44, 3), (3, .ifCond .ne 25, 3), (6, .iload_n 1, 1), (7, .ifCond .lt 11, 3), (10, .iload_n 1, 1), (11, .aload_n 0, 1), (12, .invokestatic 48, 3), (15, .if_icmp .lt 13, 3), (18, .new 52, 3), (21, .dup, 1), (22, .ldc 54, 2), (24, .invokespecial 56, 3), (27, .athrow, 1), (28, .iload_n 1, 1), (29, .iconst 1, 1), (30, .ishl, 1), (31, .istore_n 1, 1), (32, .aload_n 0, 1), (33, .iload_n 1, 1), (34, .iinc 1 1, 3), (37, .baload, 1), (38, .sipush 255, 3), (41, .iand, 1), (42, .getstatic 59, 3), (45, .ishl, 1), (46, .aload_n 0, 1), (47, .iload_n 1, 1), (48, .baload, 1), (49, .sipush 255, 3), (52, .iand, 1), (53, .getstatic 63, 3), (56, .ishl, 1), (57, .ior, 1), (58, .i2c, 1), (59, .ireturn, 1)]
set_option maxRecDepth 20000 in
theorem me_J2_getChar_3b067 : zdecs cJ2_getChar_3b067 md_J2_getChar_3b067 := by
  unfold zdecs md_J2_getChar_3b067
  decide +kernel
def md_J2_length_9d52b : List (Nat × Instr × Nat) := [(0, .aload_n 0, 1), (1, .arraylength, 1), (2, .iconst 1, 1), (3, .ishr, 1), (4, .ireturn, 1)]
set_option maxRecDepth 20000 in
theorem me_J2_length_9d52b : zdecs cJ2_length_9d52b md_J2_length_9d52b := by
  unfold zdecs md_J2_length_9d52b
  decide +kernel
def md_J2_charAt_3b067 : List (Nat × Instr × Nat) := [(0, .iload_n 1, 1), (1, .aload_n 0, 1), (2, .invokestatic 67, 3), (5, .aload_n 0, 1), (6, .iload_n 1, 1), (7, .invokestatic 71, 3), (10, .ireturn, 1)]
set_option maxRecDepth 20000 in
theorem me_J2_charAt_3b067 : zdecs cJ2_charAt_3b067 md_J2_charAt_3b067 := by
  unfold zdecs md_J2_charAt_3b067
  decide +kernel
def md_J2_checkIndex_2214a : List (Nat × Instr × Nat) := [(0, .iload_n 0, 1), (1, .aload_n 1, 1), (2, .invokestatic 48, 3), (5, .invokestatic 414, 3), (8, .return_, 1)]
set_option maxRecDepth 20000 in
theorem me_J2_checkIndex_2214a : zdecs cJ2_checkIndex_2214a md_J2_checkIndex_2214a := by
  unfold zdecs md_J2_checkIndex_2214a
  decide +kernel
def md_J3_checkIndex_8e157 : List (Nat × Instr × Nat) := [(0, .iload_n 0, 1), (1, .ifCond .lt 8, 3), (4, .iload_n 0, 1), (5, .iload_n 1, 1), (6, .if_icmp .lt 10, 3), (9, .aload_n 2, 1), (10, .iload_n 0, 1), (11, .iload_n 1, 1), (12, .invokestatic 95, 3), (15, .athrow, 1), (16, .iload_n 0, 1), (17, .ireturn, 1)]
set_option maxRecDepth 20000 in
theorem me_J3_checkIndex_8e157 : zdecs cJ3_checkIndex_8e157 md_J3_checkIndex_8e157 := by
  unfold zdecs md_J3_checkIndex_8e157
  decide +kernel
