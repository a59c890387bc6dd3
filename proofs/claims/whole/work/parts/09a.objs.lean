theorem zgw {own : String} {idx : Nat} {y : MethodName} (h : Cond.methodLink own idx y ∈ zgtbl) : Cond.methodLink own idx y ∈ zgtbl ∨ ∃ host, Cond.methodLinkNest own idx y host ∈ zNest := Or.inl h
def zi10 (T : zTT) (R : zRR) (o : Nat) : Prop := T[o]? = some (0, 10) ∧ (R o 0 = some (zrf R o 0) ∧ (T[(zrf R o 0)]? = some (1, 940))) ∧ (R o 11 = some (zrf R o 11) ∧ (T[(zrf R o 11)]? = some (2, 24))) ∧ True
theorem zi10_c {T : zTT} {R : zRR} {o : Nat} (h : zi10 T R o) : T[o]? = some (0, 10) := h.1
theorem zi10_r0 {T : zTT} {R : zRR} {o : Nat} (h : zi10 T R o) : R o 0 = some (zrf R o 0) := h.2.1.1
theorem zi10_t0 {T : zTT} {R : zRR} {o : Nat} (h : zi10 T R o) : T[(zrf R o 0)]? = some (1, 940) := h.2.1.2
theorem zi10_r11 {T : zTT} {R : zRR} {o : Nat} (h : zi10 T R o) : R o 11 = some (zrf R o 11) := h.2.2.1.1
theorem zi10_t11 {T : zTT} {R : zRR} {o : Nat} (h : zi10 T R o) : T[(zrf R o 11)]? = some (2, 24) := h.2.2.1.2
def zi7 (T : zTT) (R : zRR) (o : Nat) : Prop := T[o]? = some (0, 7) ∧ (R o 6 = some (zrf R o 6) ∧ (T[(zrf R o 6)]? = some (1, 6))) ∧ (R o 7 = some (zrf R o 7) ∧ (T[(zrf R o 7)]? = some (1, 6))) ∧ (R o 8 = some (zrf R o 8) ∧ (T[(zrf R o 8)]? = some (1, 8))) ∧ (R o 9 = some (zrf R o 9) ∧ (T[(zrf R o 9)]? = some (2, 19))) ∧ (R o 10 = some (zrf R o 10) ∧ (T[(zrf R o 10)]? = some (1, 30))) ∧ True
theorem zi7_c {T : zTT} {R : zRR} {o : Nat} (h : zi7 T R o) : T[o]? = some (0, 7) := h.1
theorem zi7_r6 {T : zTT} {R : zRR} {o : Nat} (h : zi7 T R o) : R o 6 = some (zrf R o 6) := h.2.1.1
theorem zi7_t6 {T : zTT} {R : zRR} {o : Nat} (h : zi7 T R o) : T[(zrf R o 6)]? = some (1, 6) := h.2.1.2
theorem zi7_r7 {T : zTT} {R : zRR} {o : Nat} (h : zi7 T R o) : R o 7 = some (zrf R o 7) := h.2.2.1.1
theorem zi7_t7 {T : zTT} {R : zRR} {o : Nat} (h : zi7 T R o) : T[(zrf R o 7)]? = some (1, 6) := h.2.2.1.2
theorem zi7_r8 {T : zTT} {R : zRR} {o : Nat} (h : zi7 T R o) : R o 8 = some (zrf R o 8) := h.2.2.2.1.1
theorem zi7_t8 {T : zTT} {R : zRR} {o : Nat} (h : zi7 T R o) : T[(zrf R o 8)]? = some (1, 8) := h.2.2.2.1.2
theorem zi7_r9 {T : zTT} {R : zRR} {o : Nat} (h : zi7 T R o) : R o 9 = some (zrf R o 9) := h.2.2.2.2.1.1
theorem zi7_t9 {T : zTT} {R : zRR} {o : Nat} (h : zi7 T R o) : T[(zrf R o 9)]? = some (2, 19) := h.2.2.2.2.1.2
theorem zi7_r10 {T : zTT} {R : zRR} {o : Nat} (h : zi7 T R o) : R o 10 = some (zrf R o 10) := h.2.2.2.2.2.1.1
theorem zi7_t10 {T : zTT} {R : zRR} {o : Nat} (h : zi7 T R o) : T[(zrf R o 10)]? = some (1, 30) := h.2.2.2.2.2.1.2
def zi3 (T : zTT) (R : zRR) (o : Nat) : Prop := T[o]? = some (0, 3) ∧ (R o 0 = some (zrf R o 0) ∧ (zi7 T R (zrf R o 0))) ∧ (R o 1 = some (zrf R o 1) ∧ (T[(zrf R o 1)]? = some (1, 62))) ∧ True
theorem zi3_c {T : zTT} {R : zRR} {o : Nat} (h : zi3 T R o) : T[o]? = some (0, 3) := h.1
theorem zi3_r0 {T : zTT} {R : zRR} {o : Nat} (h : zi3 T R o) : R o 0 = some (zrf R o 0) := h.2.1.1
theorem zi3_t0 {T : zTT} {R : zRR} {o : Nat} (h : zi3 T R o) : zi7 T R (zrf R o 0) := h.2.1.2
theorem zi3_r1 {T : zTT} {R : zRR} {o : Nat} (h : zi3 T R o) : R o 1 = some (zrf R o 1) := h.2.2.1.1
theorem zi3_t1 {T : zTT} {R : zRR} {o : Nat} (h : zi3 T R o) : T[(zrf R o 1)]? = some (1, 62) := h.2.2.1.2
def zi8 (T : zTT) (R : zRR) (o : Nat) : Prop := T[o]? = some (0, 8) ∧ (R o 2 = some (zrf R o 2) ∧ (T[(zrf R o 2)]? = some (1, 40))) ∧ (R o 3 = some (zrf R o 3) ∧ (T[(zrf R o 3)]? = some (1, 40))) ∧ (R o 4 = some (zrf R o 4) ∧ (T[(zrf R o 4)]? = some (1, 40))) ∧ (R o 5 = some (zrf R o 5) ∧ (T[(zrf R o 5)]? = some (1, 40))) ∧ True
theorem zi8_c {T : zTT} {R : zRR} {o : Nat} (h : zi8 T R o) : T[o]? = some (0, 8) := h.1
theorem zi8_r2 {T : zTT} {R : zRR} {o : Nat} (h : zi8 T R o) : R o 2 = some (zrf R o 2) := h.2.1.1
theorem zi8_t2 {T : zTT} {R : zRR} {o : Nat} (h : zi8 T R o) : T[(zrf R o 2)]? = some (1, 40) := h.2.1.2
theorem zi8_r3 {T : zTT} {R : zRR} {o : Nat} (h : zi8 T R o) : R o 3 = some (zrf R o 3) := h.2.2.1.1
theorem zi8_t3 {T : zTT} {R : zRR} {o : Nat} (h : zi8 T R o) : T[(zrf R o 3)]? = some (1, 40) := h.2.2.1.2
theorem zi8_r4 {T : zTT} {R : zRR} {o : Nat} (h : zi8 T R o) : R o 4 = some (zrf R o 4) := h.2.2.2.1.1
theorem zi8_t4 {T : zTT} {R : zRR} {o : Nat} (h : zi8 T R o) : T[(zrf R o 4)]? = some (1, 40) := h.2.2.2.1.2
theorem zi8_r5 {T : zTT} {R : zRR} {o : Nat} (h : zi8 T R o) : R o 5 = some (zrf R o 5) := h.2.2.2.2.1.1
theorem zi8_t5 {T : zTT} {R : zRR} {o : Nat} (h : zi8 T R o) : T[(zrf R o 5)]? = some (1, 40) := h.2.2.2.2.1.2
def zi0 (T : zTT) (R : zRR) (o : Nat) : Prop := T[o]? = some (0, 0) ∧ (R o 0 = some (zrf R o 0) ∧ (T[(zrf R o 0)]? = some (1, 40))) ∧ (R o 1 = some (zrf R o 1) ∧ (T[(zrf R o 1)]? = some (1, 40))) ∧ True
theorem zi0_c {T : zTT} {R : zRR} {o : Nat} (h : zi0 T R o) : T[o]? = some (0, 0) := h.1
theorem zi0_r0 {T : zTT} {R : zRR} {o : Nat} (h : zi0 T R o) : R o 0 = some (zrf R o 0) := h.2.1.1
theorem zi0_t0 {T : zTT} {R : zRR} {o : Nat} (h : zi0 T R o) : T[(zrf R o 0)]? = some (1, 40) := h.2.1.2
theorem zi0_r1 {T : zTT} {R : zRR} {o : Nat} (h : zi0 T R o) : R o 1 = some (zrf R o 1) := h.2.2.1.1
theorem zi0_t1 {T : zTT} {R : zRR} {o : Nat} (h : zi0 T R o) : T[(zrf R o 1)]? = some (1, 40) := h.2.2.1.2
def zi1 (T : zTT) (R : zRR) (o : Nat) : Prop := T[o]? = some (0, 1) ∧ True
theorem zi1_c {T : zTT} {R : zRR} {o : Nat} (h : zi1 T R o) : T[o]? = some (0, 1) := h.1
def zi5 (T : zTT) (R : zRR) (o : Nat) : Prop := T[o]? = some (0, 5) ∧ (R o 0 = some (zrf R o 0) ∧ (T[(zrf R o 0)]? = some (5, 9) ∧ ∀ j, j < 9 → R (zrf R o 0) j = some (zrf R (zrf R o 0) j) ∧ T[zrf R (zrf R o 0) j]? = some (1, 62))) ∧ True
theorem zi5_c {T : zTT} {R : zRR} {o : Nat} (h : zi5 T R o) : T[o]? = some (0, 5) := h.1
theorem zi5_r0 {T : zTT} {R : zRR} {o : Nat} (h : zi5 T R o) : R o 0 = some (zrf R o 0) := h.2.1.1
theorem zi5_t0 {T : zTT} {R : zRR} {o : Nat} (h : zi5 T R o) : T[(zrf R o 0)]? = some (5, 9) ∧ ∀ j, j < 9 → R (zrf R o 0) j = some (zrf R (zrf R o 0) j) ∧ T[zrf R (zrf R o 0) j]? = some (1, 62) := h.2.1.2
def zi2 (T : zTT) (R : zRR) (o : Nat) : Prop := T[o]? = some (0, 2) ∧ (R o 0 = some (zrf R o 0) ∧ (zi7 T R (zrf R o 0))) ∧ (R o 1 = some (zrf R o 1) ∧ (zi8 T R (zrf R o 1))) ∧ (R o 2 = some (zrf R o 2) ∧ (T[(zrf R o 2)]? = some (1, 62))) ∧ True
theorem zi2_c {T : zTT} {R : zRR} {o : Nat} (h : zi2 T R o) : T[o]? = some (0, 2) := h.1
theorem zi2_r0 {T : zTT} {R : zRR} {o : Nat} (h : zi2 T R o) : R o 0 = some (zrf R o 0) := h.2.1.1
theorem zi2_t0 {T : zTT} {R : zRR} {o : Nat} (h : zi2 T R o) : zi7 T R (zrf R o 0) := h.2.1.2
theorem zi2_r1 {T : zTT} {R : zRR} {o : Nat} (h : zi2 T R o) : R o 1 = some (zrf R o 1) := h.2.2.1.1
theorem zi2_t1 {T : zTT} {R : zRR} {o : Nat} (h : zi2 T R o) : zi8 T R (zrf R o 1) := h.2.2.1.2
theorem zi2_r2 {T : zTT} {R : zRR} {o : Nat} (h : zi2 T R o) : R o 2 = some (zrf R o 2) := h.2.2.2.1.1
theorem zi2_t2 {T : zTT} {R : zRR} {o : Nat} (h : zi2 T R o) : T[(zrf R o 2)]? = some (1, 62) := h.2.2.2.1.2
def zi9 (T : zTT) (R : zRR) (o : Nat) : Prop := T[o]? = some (0, 9) ∧ (R o 0 = some (zrf R o 0) ∧ (T[(zrf R o 0)]? = some (1, 24))) ∧ True
theorem zi9_c {T : zTT} {R : zRR} {o : Nat} (h : zi9 T R o) : T[o]? = some (0, 9) := h.1
theorem zi9_r0 {T : zTT} {R : zRR} {o : Nat} (h : zi9 T R o) : R o 0 = some (zrf R o 0) := h.2.1.1
theorem zi9_t0 {T : zTT} {R : zRR} {o : Nat} (h : zi9 T R o) : T[(zrf R o 0)]? = some (1, 24) := h.2.1.2
def zi4 (T : zTT) (R : zRR) (o : Nat) : Prop := T[o]? = some (0, 4) ∧ (R o 0 = some (zrf R o 0) ∧ (zi7 T R (zrf R o 0))) ∧ (R o 1 = some (zrf R o 1) ∧ (T[(zrf R o 1)]? = some (1, 25))) ∧ (R o 2 = some (zrf R o 2) ∧ (T[(zrf R o 2)]? = some (1, 5))) ∧ (R o 3 = some (zrf R o 3) ∧ (T[(zrf R o 3)]? = some (1, 5))) ∧ True
theorem zi4_c {T : zTT} {R : zRR} {o : Nat} (h : zi4 T R o) : T[o]? = some (0, 4) := h.1
theorem zi4_r0 {T : zTT} {R : zRR} {o : Nat} (h : zi4 T R o) : R o 0 = some (zrf R o 0) := h.2.1.1
theorem zi4_t0 {T : zTT} {R : zRR} {o : Nat} (h : zi4 T R o) : zi7 T R (zrf R o 0) := h.2.1.2
theorem zi4_r1 {T : zTT} {R : zRR} {o : Nat} (h : zi4 T R o) : R o 1 = some (zrf R o 1) := h.2.2.1.1
theorem zi4_t1 {T : zTT} {R : zRR} {o : Nat} (h : zi4 T R o) : T[(zrf R o 1)]? = some (1, 25) := h.2.2.1.2
theorem zi4_r2 {T : zTT} {R : zRR} {o : Nat} (h : zi4 T R o) : R o 2 = some (zrf R o 2) := h.2.2.2.1.1
theorem zi4_t2 {T : zTT} {R : zRR} {o : Nat} (h : zi4 T R o) : T[(zrf R o 2)]? = some (1, 5) := h.2.2.2.1.2
theorem zi4_r3 {T : zTT} {R : zRR} {o : Nat} (h : zi4 T R o) : R o 3 = some (zrf R o 3) := h.2.2.2.2.1.1
theorem zi4_t3 {T : zTT} {R : zRR} {o : Nat} (h : zi4 T R o) : T[(zrf R o 3)]? = some (1, 5) := h.2.2.2.2.1.2
def zi6 (T : zTT) (R : zRR) (o : Nat) : Prop := T[o]? = some (0, 6) ∧ (R o 0 = some (zrf R o 0) ∧ (zi3 T R (zrf R o 0))) ∧ (R o 1 = some (zrf R o 1) ∧ (zi3 T R (zrf R o 1))) ∧ (R o 2 = some (zrf R o 2) ∧ (zi3 T R (zrf R o 2))) ∧ (R o 3 = some (zrf R o 3) ∧ (zi3 T R (zrf R o 3))) ∧ (R o 4 = some (zrf R o 4) ∧ (zi3 T R (zrf R o 4))) ∧ (R o 5 = some (zrf R o 5) ∧ (T[(zrf R o 5)]? = some (1, 3))) ∧ (R o 6 = some (zrf R o 6) ∧ (T[(zrf R o 6)]? = some (1, 3))) ∧ (R o 8 = some (zrf R o 8) ∧ (T[(zrf R o 8)]? = some (1, 3))) ∧ (R o 9 = some (zrf R o 9) ∧ (T[(zrf R o 9)]? = some (1, 3))) ∧ True
theorem zi6_c {T : zTT} {R : zRR} {o : Nat} (h : zi6 T R o) : T[o]? = some (0, 6) := h.1
theorem zi6_r0 {T : zTT} {R : zRR} {o : Nat} (h : zi6 T R o) : R o 0 = some (zrf R o 0) := h.2.1.1
theorem zi6_t0 {T : zTT} {R : zRR} {o : Nat} (h : zi6 T R o) : zi3 T R (zrf R o 0) := h.2.1.2
theorem zi6_r1 {T : zTT} {R : zRR} {o : Nat} (h : zi6 T R o) : R o 1 = some (zrf R o 1) := h.2.2.1.1
theorem zi6_t1 {T : zTT} {R : zRR} {o : Nat} (h : zi6 T R o) : zi3 T R (zrf R o 1) := h.2.2.1.2
theorem zi6_r2 {T : zTT} {R : zRR} {o : Nat} (h : zi6 T R o) : R o 2 = some (zrf R o 2) := h.2.2.2.1.1
theorem zi6_t2 {T : zTT} {R : zRR} {o : Nat} (h : zi6 T R o) : zi3 T R (zrf R o 2) := h.2.2.2.1.2
theorem zi6_r3 {T : zTT} {R : zRR} {o : Nat} (h : zi6 T R o) : R o 3 = some (zrf R o 3) := h.2.2.2.2.1.1
theorem zi6_t3 {T : zTT} {R : zRR} {o : Nat} (h : zi6 T R o) : zi3 T R (zrf R o 3) := h.2.2.2.2.1.2
theorem zi6_r4 {T : zTT} {R : zRR} {o : Nat} (h : zi6 T R o) : R o 4 = some (zrf R o 4) := h.2.2.2.2.2.1.1
theorem zi6_t4 {T : zTT} {R : zRR} {o : Nat} (h : zi6 T R o) : zi3 T R (zrf R o 4) := h.2.2.2.2.2.1.2
theorem zi6_r5 {T : zTT} {R : zRR} {o : Nat} (h : zi6 T R o) : R o 5 = some (zrf R o 5) := h.2.2.2.2.2.2.1.1
theorem zi6_t5 {T : zTT} {R : zRR} {o : Nat} (h : zi6 T R o) : T[(zrf R o 5)]? = some (1, 3) := h.2.2.2.2.2.2.1.2
theorem zi6_r6 {T : zTT} {R : zRR} {o : Nat} (h : zi6 T R o) : R o 6 = some (zrf R o 6) := h.2.2.2.2.2.2.2.1.1
theorem zi6_t6 {T : zTT} {R : zRR} {o : Nat} (h : zi6 T R o) : T[(zrf R o 6)]? = some (1, 3) := h.2.2.2.2.2.2.2.1.2
theorem zi6_r8 {T : zTT} {R : zRR} {o : Nat} (h : zi6 T R o) : R o 8 = some (zrf R o 8) := h.2.2.2.2.2.2.2.2.1.1
theorem zi6_t8 {T : zTT} {R : zRR} {o : Nat} (h : zi6 T R o) : T[(zrf R o 8)]? = some (1, 3) := h.2.2.2.2.2.2.2.2.1.2
theorem zi6_r9 {T : zTT} {R : zRR} {o : Nat} (h : zi6 T R o) : R o 9 = some (zrf R o 9) := h.2.2.2.2.2.2.2.2.2.1.1
theorem zi6_t9 {T : zTT} {R : zRR} {o : Nat} (h : zi6 T R o) : T[(zrf R o 9)]? = some (1, 3) := h.2.2.2.2.2.2.2.2.2.1.2
def zi11 (T : zTT) (R : zRR) (o : Nat) : Prop := T[o]? = some (0, 11) ∧ (R o 0 = some (zrf R o 0) ∧ (zi10 T R (zrf R o 0))) ∧ (R o 1 = some (zrf R o 1) ∧ (zi7 T R (zrf R o 1))) ∧ (R o 2 = some (zrf R o 2) ∧ (zi7 T R (zrf R o 2))) ∧ (R o 3 = some (zrf R o 3) ∧ (zi3 T R (zrf R o 3))) ∧ (R o 4 = some (zrf R o 4) ∧ (zi3 T R (zrf R o 4))) ∧ (R o 5 = some (zrf R o 5) ∧ (zi8 T R (zrf R o 5))) ∧ (R o 6 = some (zrf R o 6) ∧ (zi8 T R (zrf R o 6))) ∧ (R o 7 = some (zrf R o 7) ∧ (zi0 T R (zrf R o 7))) ∧ (R o 8 = some (zrf R o 8) ∧ (zi5 T R (zrf R o 8))) ∧ (R o 9 = some (zrf R o 9) ∧ (zi6 T R (zrf R o 9))) ∧ (R o 10 = some (zrf R o 10) ∧ (zi4 T R (zrf R o 10))) ∧ (R o 11 = some (zrf R o 11) ∧ (zi1 T R (zrf R o 11))) ∧ (R o 12 = some (zrf R o 12) ∧ (zi9 T R (zrf R o 12))) ∧ (R o 13 = some (zrf R o 13) ∧ (T[(zrf R o 13)]? = some (4, 2) ∧ ∀ j, j < 2 → R (zrf R o 13) j = some (zrf R (zrf R o 13) j) ∧ zi2 T R (zrf R (zrf R o 13) j))) ∧ True
theorem zi11_c {T : zTT} {R : zRR} {o : Nat} (h : zi11 T R o) : T[o]? = some (0, 11) := h.1
theorem zi11_r0 {T : zTT} {R : zRR} {o : Nat} (h : zi11 T R o) : R o 0 = some (zrf R o 0) := h.2.1.1
theorem zi11_t0 {T : zTT} {R : zRR} {o : Nat} (h : zi11 T R o) : zi10 T R (zrf R o 0) := h.2.1.2
theorem zi11_r1 {T : zTT} {R : zRR} {o : Nat} (h : zi11 T R o) : R o 1 = some (zrf R o 1) := h.2.2.1.1
theorem zi11_t1 {T : zTT} {R : zRR} {o : Nat} (h : zi11 T R o) : zi7 T R (zrf R o 1) := h.2.2.1.2
theorem zi11_r2 {T : zTT} {R : zRR} {o : Nat} (h : zi11 T R o) : R o 2 = some (zrf R o 2) := h.2.2.2.1.1
theorem zi11_t2 {T : zTT} {R : zRR} {o : Nat} (h : zi11 T R o) : zi7 T R (zrf R o 2) := h.2.2.2.1.2
theorem zi11_r3 {T : zTT} {R : zRR} {o : Nat} (h : zi11 T R o) : R o 3 = some (zrf R o 3) := h.2.2.2.2.1.1
theorem zi11_t3 {T : zTT} {R : zRR} {o : Nat} (h : zi11 T R o) : zi3 T R (zrf R o 3) := h.2.2.2.2.1.2
theorem zi11_r4 {T : zTT} {R : zRR} {o : Nat} (h : zi11 T R o) : R o 4 = some (zrf R o 4) := h.2.2.2.2.2.1.1
theorem zi11_t4 {T : zTT} {R : zRR} {o : Nat} (h : zi11 T R o) : zi3 T R (zrf R o 4) := h.2.2.2.2.2.1.2
theorem zi11_r5 {T : zTT} {R : zRR} {o : Nat} (h : zi11 T R o) : R o 5 = some (zrf R o 5) := h.2.2.2.2.2.2.1.1
theorem zi11_t5 {T : zTT} {R : zRR} {o : Nat} (h : zi11 T R o) : zi8 T R (zrf R o 5) := h.2.2.2.2.2.2.1.2
theorem zi11_r6 {T : zTT} {R : zRR} {o : Nat} (h : zi11 T R o) : R o 6 = some (zrf R o 6) := h.2.2.2.2.2.2.2.1.1
theorem zi11_t6 {T : zTT} {R : zRR} {o : Nat} (h : zi11 T R o) : zi8 T R (zrf R o 6) := h.2.2.2.2.2.2.2.1.2
theorem zi11_r7 {T : zTT} {R : zRR} {o : Nat} (h : zi11 T R o) : R o 7 = some (zrf R o 7) := h.2.2.2.2.2.2.2.2.1.1
theorem zi11_t7 {T : zTT} {R : zRR} {o : Nat} (h : zi11 T R o) : zi0 T R (zrf R o 7) := h.2.2.2.2.2.2.2.2.1.2
theorem zi11_r8 {T : zTT} {R : zRR} {o : Nat} (h : zi11 T R o) : R o 8 = some (zrf R o 8) := h.2.2.2.2.2.2.2.2.2.1.1
theorem zi11_t8 {T : zTT} {R : zRR} {o : Nat} (h : zi11 T R o) : zi5 T R (zrf R o 8) := h.2.2.2.2.2.2.2.2.2.1.2
theorem zi11_r9 {T : zTT} {R : zRR} {o : Nat} (h : zi11 T R o) : R o 9 = some (zrf R o 9) := h.2.2.2.2.2.2.2.2.2.2.1.1
theorem zi11_t9 {T : zTT} {R : zRR} {o : Nat} (h : zi11 T R o) : zi6 T R (zrf R o 9) := h.2.2.2.2.2.2.2.2.2.2.1.2
theorem zi11_r10 {T : zTT} {R : zRR} {o : Nat} (h : zi11 T R o) : R o 10 = some (zrf R o 10) := h.2.2.2.2.2.2.2.2.2.2.2.1.1
theorem zi11_t10 {T : zTT} {R : zRR} {o : Nat} (h : zi11 T R o) : zi4 T R (zrf R o 10) := h.2.2.2.2.2.2.2.2.2.2.2.1.2
theorem zi11_r11 {T : zTT} {R : zRR} {o : Nat} (h : zi11 T R o) : R o 11 = some (zrf R o 11) := h.2.2.2.2.2.2.2.2.2.2.2.2.1.1
theorem zi11_t11 {T : zTT} {R : zRR} {o : Nat} (h : zi11 T R o) : zi1 T R (zrf R o 11) := h.2.2.2.2.2.2.2.2.2.2.2.2.1.2
theorem zi11_r12 {T : zTT} {R : zRR} {o : Nat} (h : zi11 T R o) : R o 12 = some (zrf R o 12) := h.2.2.2.2.2.2.2.2.2.2.2.2.2.1.1
theorem zi11_t12 {T : zTT} {R : zRR} {o : Nat} (h : zi11 T R o) : zi9 T R (zrf R o 12) := h.2.2.2.2.2.2.2.2.2.2.2.2.2.1.2
theorem zi11_r13 {T : zTT} {R : zRR} {o : Nat} (h : zi11 T R o) : R o 13 = some (zrf R o 13) := h.2.2.2.2.2.2.2.2.2.2.2.2.2.2.1.1
theorem zi11_t13 {T : zTT} {R : zRR} {o : Nat} (h : zi11 T R o) : T[(zrf R o 13)]? = some (4, 2) ∧ ∀ j, j < 2 → R (zrf R o 13) j = some (zrf R (zrf R o 13) j) ∧ zi2 T R (zrf R (zrf R o 13) j) := h.2.2.2.2.2.2.2.2.2.2.2.2.2.2.1.2
def zi12 (T : zTT) (R : zRR) (o : Nat) : Prop := T[o]? = some (0, 12) ∧ (R o 1 = some (zrf R o 1) ∧ (T[(zrf R o 1)]? = some (1, 940))) ∧ (R o 14 = some (zrf R o 14) ∧ (T[(zrf R o 14)]? = some (1, 354))) ∧ (R o 15 = some (zrf R o 15) ∧ (T[(zrf R o 15)]? = some (1, 56))) ∧ (R o 16 = some (zrf R o 16) ∧ (T[(zrf R o 16)]? = some (1, 708))) ∧ (R o 17 = some (zrf R o 17) ∧ (T[(zrf R o 17)]? = some (1, 448))) ∧ (R o 18 = some (zrf R o 18) ∧ (T[(zrf R o 18)]? = some (1, 56))) ∧ (R o 19 = some (zrf R o 19) ∧ (T[(zrf R o 19)]? = some (1, 56))) ∧ (R o 20 = some (zrf R o 20) ∧ (T[(zrf R o 20)]? = some (1, 56))) ∧ (R o 21 = some (zrf R o 21) ∧ (T[(zrf R o 21)]? = some (2, 19))) ∧ (R o 22 = some (zrf R o 22) ∧ (T[(zrf R o 22)]? = some (2, 19))) ∧ (R o 23 = some (zrf R o 23) ∧ (T[(zrf R o 23)]? = some (2, 38))) ∧ (R o 24 = some (zrf R o 24) ∧ (T[(zrf R o 24)]? = some (3, 2))) ∧ (R o 27 = some (zrf R o 27) ∧ (T[(zrf R o 27)]? = some (1, 3))) ∧ (R o 28 = some (zrf R o 28) ∧ (T[(zrf R o 28)]? = some (1, 3))) ∧ (R o 29 = some (zrf R o 29) ∧ (T[(zrf R o 29)]? = some (1, 3))) ∧ (R o 30 = some (zrf R o 30) ∧ (T[(zrf R o 30)]? = some (1, 3))) ∧ (R o 33 = some (zrf R o 33) ∧ (T[(zrf R o 33)]? = some (1, 3))) ∧ (R o 34 = some (zrf R o 34) ∧ (T[(zrf R o 34)]? = some (1, 3))) ∧ (R o 36 = some (zrf R o 36) ∧ (T[(zrf R o 36)]? = some (1, 5))) ∧ (R o 37 = some (zrf R o 37) ∧ (T[(zrf R o 37)]? = some (1, 5))) ∧ (R o 40 = some (zrf R o 40) ∧ (T[(zrf R o 40)]? = some (1, 48))) ∧ (R o 43 = some (zrf R o 43) ∧ (T[(zrf R o 43)]? = some (1, 80))) ∧ (R o 44 = some (zrf R o 44) ∧ (T[(zrf R o 44)]? = some (1, 4))) ∧ (R o 47 = some (zrf R o 47) ∧ (T[(zrf R o 47)]? = some (1, 240))) ∧ True
theorem zi12_c {T : zTT} {R : zRR} {o : Nat} (h : zi12 T R o) : T[o]? = some (0, 12) := h.1
theorem zi12_r1 {T : zTT} {R : zRR} {o : Nat} (h : zi12 T R o) : R o 1 = some (zrf R o 1) := h.2.1.1
theorem zi12_t1 {T : zTT} {R : zRR} {o : Nat} (h : zi12 T R o) : T[(zrf R o 1)]? = some (1, 940) := h.2.1.2
theorem zi12_r14 {T : zTT} {R : zRR} {o : Nat} (h : zi12 T R o) : R o 14 = some (zrf R o 14) := h.2.2.1.1
theorem zi12_t14 {T : zTT} {R : zRR} {o : Nat} (h : zi12 T R o) : T[(zrf R o 14)]? = some (1, 354) := h.2.2.1.2
theorem zi12_r15 {T : zTT} {R : zRR} {o : Nat} (h : zi12 T R o) : R o 15 = some (zrf R o 15) := h.2.2.2.1.1
theorem zi12_t15 {T : zTT} {R : zRR} {o : Nat} (h : zi12 T R o) : T[(zrf R o 15)]? = some (1, 56) := h.2.2.2.1.2
theorem zi12_r16 {T : zTT} {R : zRR} {o : Nat} (h : zi12 T R o) : R o 16 = some (zrf R o 16) := h.2.2.2.2.1.1
theorem zi12_t16 {T : zTT} {R : zRR} {o : Nat} (h : zi12 T R o) : T[(zrf R o 16)]? = some (1, 708) := h.2.2.2.2.1.2
theorem zi12_r17 {T : zTT} {R : zRR} {o : Nat} (h : zi12 T R o) : R o 17 = some (zrf R o 17) := h.2.2.2.2.2.1.1
theorem zi12_t17 {T : zTT} {R : zRR} {o : Nat} (h : zi12 T R o) : T[(zrf R o 17)]? = some (1, 448) := h.2.2.2.2.2.1.2
theorem zi12_r18 {T : zTT} {R : zRR} {o : Nat} (h : zi12 T R o) : R o 18 = some (zrf R o 18) := h.2.2.2.2.2.2.1.1
theorem zi12_t18 {T : zTT} {R : zRR} {o : Nat} (h : zi12 T R o) : T[(zrf R o 18)]? = some (1, 56) := h.2.2.2.2.2.2.1.2
theorem zi12_r19 {T : zTT} {R : zRR} {o : Nat} (h : zi12 T R o) : R o 19 = some (zrf R o 19) := h.2.2.2.2.2.2.2.1.1
theorem zi12_t19 {T : zTT} {R : zRR} {o : Nat} (h : zi12 T R o) : T[(zrf R o 19)]? = some (1, 56) := h.2.2.2.2.2.2.2.1.2
theorem zi12_r20 {T : zTT} {R : zRR} {o : Nat} (h : zi12 T R o) : R o 20 = some (zrf R o 20) := h.2.2.2.2.2.2.2.2.1.1
theorem zi12_t20 {T : zTT} {R : zRR} {o : Nat} (h : zi12 T R o) : T[(zrf R o 20)]? = some (1, 56) := h.2.2.2.2.2.2.2.2.1.2
theorem zi12_r21 {T : zTT} {R : zRR} {o : Nat} (h : zi12 T R o) : R o 21 = some (zrf R o 21) := h.2.2.2.2.2.2.2.2.2.1.1
theorem zi12_t21 {T : zTT} {R : zRR} {o : Nat} (h : zi12 T R o) : T[(zrf R o 21)]? = some (2, 19) := h.2.2.2.2.2.2.2.2.2.1.2
theorem zi12_r22 {T : zTT} {R : zRR} {o : Nat} (h : zi12 T R o) : R o 22 = some (zrf R o 22) := h.2.2.2.2.2.2.2.2.2.2.1.1
theorem zi12_t22 {T : zTT} {R : zRR} {o : Nat} (h : zi12 T R o) : T[(zrf R o 22)]? = some (2, 19) := h.2.2.2.2.2.2.2.2.2.2.1.2
theorem zi12_r23 {T : zTT} {R : zRR} {o : Nat} (h : zi12 T R o) : R o 23 = some (zrf R o 23) := h.2.2.2.2.2.2.2.2.2.2.2.1.1
theorem zi12_t23 {T : zTT} {R : zRR} {o : Nat} (h : zi12 T R o) : T[(zrf R o 23)]? = some (2, 38) := h.2.2.2.2.2.2.2.2.2.2.2.1.2
theorem zi12_r24 {T : zTT} {R : zRR} {o : Nat} (h : zi12 T R o) : R o 24 = some (zrf R o 24) := h.2.2.2.2.2.2.2.2.2.2.2.2.1.1
theorem zi12_t24 {T : zTT} {R : zRR} {o : Nat} (h : zi12 T R o) : T[(zrf R o 24)]? = some (3, 2) := h.2.2.2.2.2.2.2.2.2.2.2.2.1.2
theorem zi12_r27 {T : zTT} {R : zRR} {o : Nat} (h : zi12 T R o) : R o 27 = some (zrf R o 27) := h.2.2.2.2.2.2.2.2.2.2.2.2.2.1.1
theorem zi12_t27 {T : zTT} {R : zRR} {o : Nat} (h : zi12 T R o) : T[(zrf R o 27)]? = some (1, 3) := h.2.2.2.2.2.2.2.2.2.2.2.2.2.1.2
theorem zi12_r28 {T : zTT} {R : zRR} {o : Nat} (h : zi12 T R o) : R o 28 = some (zrf R o 28) := h.2.2.2.2.2.2.2.2.2.2.2.2.2.2.1.1
theorem zi12_t28 {T : zTT} {R : zRR} {o : Nat} (h : zi12 T R o) : T[(zrf R o 28)]? = some (1, 3) := h.2.2.2.2.2.2.2.2.2.2.2.2.2.2.1.2
theorem zi12_r29 {T : zTT} {R : zRR} {o : Nat} (h : zi12 T R o) : R o 29 = some (zrf R o 29) := h.2.2.2.2.2.2.2.2.2.2.2.2.2.2.2.1.1
theorem zi12_t29 {T : zTT} {R : zRR} {o : Nat} (h : zi12 T R o) : T[(zrf R o 29)]? = some (1, 3) := h.2.2.2.2.2.2.2.2.2.2.2.2.2.2.2.1.2
theorem zi12_r30 {T : zTT} {R : zRR} {o : Nat} (h : zi12 T R o) : R o 30 = some (zrf R o 30) := h.2.2.2.2.2.2.2.2.2.2.2.2.2.2.2.2.1.1
theorem zi12_t30 {T : zTT} {R : zRR} {o : Nat} (h : zi12 T R o) : T[(zrf R o 30)]? = some (1, 3) := h.2.2.2.2.2.2.2.2.2.2.2.2.2.2.2.2.1.2
theorem zi12_r33 {T : zTT} {R : zRR} {o : Nat} (h : zi12 T R o) : R o 33 = some (zrf R o 33) := h.2.2.2.2.2.2.2.2.2.2.2.2.2.2.2.2.2.1.1
theorem zi12_t33 {T : zTT} {R : zRR} {o : Nat} (h : zi12 T R o) : T[(zrf R o 33)]? = some (1, 3) := h.2.2.2.2.2.2.2.2.2.2.2.2.2.2.2.2.2.1.2
theorem zi12_r34 {T : zTT} {R : zRR} {o : Nat} (h : zi12 T R o) : R o 34 = some (zrf R o 34) := h.2.2.2.2.2.2.2.2.2.2.2.2.2.2.2.2.2.2.1.1
theorem zi12_t34 {T : zTT} {R : zRR} {o : Nat} (h : zi12 T R o) : T[(zrf R o 34)]? = some (1, 3) := h.2.2.2.2.2.2.2.2.2.2.2.2.2.2.2.2.2.2.1.2
theorem zi12_r36 {T : zTT} {R : zRR} {o : Nat} (h : zi12 T R o) : R o 36 = some (zrf R o 36) := h.2.2.2.2.2.2.2.2.2.2.2.2.2.2.2.2.2.2.2.1.1
theorem zi12_t36 {T : zTT} {R : zRR} {o : Nat} (h : zi12 T R o) : T[(zrf R o 36)]? = some (1, 5) := h.2.2.2.2.2.2.2.2.2.2.2.2.2.2.2.2.2.2.2.1.2
theorem zi12_r37 {T : zTT} {R : zRR} {o : Nat} (h : zi12 T R o) : R o 37 = some (zrf R o 37) := h.2.2.2.2.2.2.2.2.2.2.2.2.2.2.2.2.2.2.2.2.1.1
theorem zi12_t37 {T : zTT} {R : zRR} {o : Nat} (h : zi12 T R o) : T[(zrf R o 37)]? = some (1, 5) := h.2.2.2.2.2.2.2.2.2.2.2.2.2.2.2.2.2.2.2.2.1.2
theorem zi12_r40 {T : zTT} {R : zRR} {o : Nat} (h : zi12 T R o) : R o 40 = some (zrf R o 40) := h.2.2.2.2.2.2.2.2.2.2.2.2.2.2.2.2.2.2.2.2.2.1.1
theorem zi12_t40 {T : zTT} {R : zRR} {o : Nat} (h : zi12 T R o) : T[(zrf R o 40)]? = some (1, 48) := h.2.2.2.2.2.2.2.2.2.2.2.2.2.2.2.2.2.2.2.2.2.1.2
theorem zi12_r43 {T : zTT} {R : zRR} {o : Nat} (h : zi12 T R o) : R o 43 = some (zrf R o 43) := h.2.2.2.2.2.2.2.2.2.2.2.2.2.2.2.2.2.2.2.2.2.2.1.1
theorem zi12_t43 {T : zTT} {R : zRR} {o : Nat} (h : zi12 T R o) : T[(zrf R o 43)]? = some (1, 80) := h.2.2.2.2.2.2.2.2.2.2.2.2.2.2.2.2.2.2.2.2.2.2.1.2
theorem zi12_r44 {T : zTT} {R : zRR} {o : Nat} (h : zi12 T R o) : R o 44 = some (zrf R o 44) := h.2.2.2.2.2.2.2.2.2.2.2.2.2.2.2.2.2.2.2.2.2.2.2.1.1
theorem zi12_t44 {T : zTT} {R : zRR} {o : Nat} (h : zi12 T R o) : T[(zrf R o 44)]? = some (1, 4) := h.2.2.2.2.2.2.2.2.2.2.2.2.2.2.2.2.2.2.2.2.2.2.2.1.2
theorem zi12_r47 {T : zTT} {R : zRR} {o : Nat} (h : zi12 T R o) : R o 47 = some (zrf R o 47) := h.2.2.2.2.2.2.2.2.2.2.2.2.2.2.2.2.2.2.2.2.2.2.2.2.1.1
theorem zi12_t47 {T : zTT} {R : zRR} {o : Nat} (h : zi12 T R o) : T[(zrf R o 47)]? = some (1, 240) := h.2.2.2.2.2.2.2.2.2.2.2.2.2.2.2.2.2.2.2.2.2.2.2.2.1.2
