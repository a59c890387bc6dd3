def zslen (i : Nat) : Int32 := Int32.ofNat (zlenJS.getD i 0)
def zsch (i j : Nat) : Int32 := (zbytJS.getD i []).getD j 0
section ZX
variable {ρ ρ' : Type} {C : zCx} {Y : zMI} {Q : ρ → zMem → State → Prop} {k n : Nat} {f f1 f2 : Option (ρ × zMem)} {pc : Nat} {ls ls' : List (Nat × Value)} {st : List Value} {ad : Nat → Nat} {T : zTT} {R : zRR} {M : zMem} {idx : Nat}
theorem zx_strlen {i : Nat} (d : decode (zcc Y) pc = .ok (.invokevirtual idx, 3)) (hlk : zLV (zown Y) idx yJ0_length_8abf5 mi_J0_length_8abf5 0) (hroom : zfr mi_J0_length_8abf5 + 1 ≤ zfr Y ∧ 8 + (znL mi_J0_length_8abf5 + 11) + zlo mi_J0_length_8abf5 ≤ zlo Y) (hst : (st.map fun v => v.category).sum ≤ 8) (hi : i < 5) (kk : zX C Y Q k n f (pc + 3) ls (.int (zslen i) :: st) ad T R M) : zX C Y Q k n f pc ls (.ref (zBIG + i) :: st) ad T R M := sorry
theorem zx_charAt {i : Nat} {x : Int32} {Kf : Nat → Option (ρ × zMem)} (d : decode (zcc Y) pc = .ok (.invokevirtual idx, 3)) (hlk : zLV (zown Y) idx yJ0_charAt_5068e mi_J0_charAt_5068e 1) (hroom : zfr mi_J0_charAt_5068e + 1 ≤ zfr Y ∧ 8 + (znL mi_J0_charAt_5068e + 11) + zlo mi_J0_charAt_5068e ≤ zlo Y) (hst : (st.map fun v => v.category).sum ≤ 8) (hi : i < 5) (kk : ∀ j : Nat, zX C Y Q k n (Kf j) (pc + 3) ls (.int (zsch i j) :: st) ad T R M) : zX C Y Q k n (zald (zlenJS.getD i 0) x Kf) pc ls (.int x :: .ref (zBIG + i) :: st) ad T R M := sorry
end ZX
