-- STRING CONSTANTS
def kw_str (a : Nat) : Prop := kw_SB ≤ a ∧ a < kw_SB + 14
def kw_slen (a : Nat) : Int32 := nI (kw_len.getD (a - kw_SB) 0)
def kw_strj (a : Nat) (x : Int32) : Prop := kw_str a ∧ vp_in x (kw_len.getD (a - kw_SB) 0)
def kw_schr (a : Nat) (x : Int32) : Int32 := (kw_txt.getD (a - kw_SB) []).getD x.toNatClampNeg 0
section KW9
variable {E : kw_E} {G : kw_G} {cc : ByteArray} {nL cs sl : Nat} {own : String} {Q : State → Prop} {pc : Nat} {L : List (Nat × kw_A)} {st : List kw_A} {T : kw_T} {n : Nat} {r : kw_R} {i : kw_I} {w : kw_L} {a idx : Nat} {rm0 : Room}
theorem kk_ldcS (hE : kw_ok E G cc nL RX4) {j k : Nat} (hd : decode cc pc = .ok (.ldc k, 2)) (hj : j < 14) (hk : kw_pn.getD j 0 = k) (kk : kw_K E G nL cs sl Q (pc + 2) L (kw_a (kw_SB + j) :: st) T n r i w) : kw_K E G nL cs sl Q pc L st T n r i w := by
  sorry
theorem kn_slen (hE : kw_ok E G cc nL own) (hlk : Cond.methodLink own idx yJ0_length_8abf5 ∈ kw_tb) (hd : decode cc pc = .ok (.invokevirtual idx, 3)) (hRm : E.2.2.2.1 = rm0) (hf : 8 ≤ rm0.frames) (hlo : 400 ≤ rm0.locals) (ho : kw_str a) (kk : kw_K E G nL cs sl Q (pc + 3) L (kw_i (kw_slen a) :: st) T n r i w) : kw_K E G nL cs sl Q pc L (kw_a a :: st) T n r i w := by
  sorry
theorem kn_schr (hE : kw_ok E G cc nL own) (hlk : Cond.methodLink own idx yJ0_charAt_5068e ∈ kw_tb) (hd : decode cc pc = .ok (.invokevirtual idx, 3)) (hRm : E.2.2.2.1 = rm0) (hf : 8 ≤ rm0.frames) (hlo : 400 ≤ rm0.locals) {x : Int32} (ho : kw_strj a x) (kk : kw_K E G nL cs sl Q (pc + 3) L (kw_i (kw_schr a x) :: st) T n r i w) : kw_K E G nL cs sl Q pc L (kw_i x :: kw_a a :: st) T n r i w := by
  sorry
end KW9
