def w_X2_colourIn_202 (a0 : Nat) (x1 : Int32) (x2 : Int32) (a3 : Nat) (a4 : Nat) (T : kw_T) (n : Nat) (r : kw_R) (Q : Int32 → kw_I → kw_L → Prop)  (l6 : Int64) (i : kw_I) (w : kw_L) : Prop :=
  kw_in T 1 (r a0 1) x1 ∧ (w_X2_nearest a0 (i (r a0 1) (x1).toNatClampNeg) l6 T n r i w (fun v211 => Q v211 i w))
def s_X2_colourIn_171 (a0 : Nat) (x1 : Int32) (x2 : Int32) (a3 : Nat) (a4 : Nat) (T : kw_T) (n : Nat) (r : kw_R) (Q : Int32 → kw_I → kw_L → Prop)  (k171 : Int64 → Int32 → kw_I → kw_L → Prop) (l6 : Int64) (x9 : Int32) (i : kw_I) (w : kw_L) : Prop :=
  (x9 < 0 → w_X2_colourIn_202 a0 x1 x2 a3 a4 T n r Q  l6 i w) ∧ (¬ x9 < 0 → w_X2_holds a0 x9 T n r i w (fun v179 w179 => (v179 = 0 → k171 l6 ((x9 + (-1 : Int32))) i w179) ∧ (¬ v179 = 0 → kw_in T 4 (r a0 3) (0 : Int32) ∧ (w_X2_colourIn_202 a0 x1 x2 a3 a4 T n r Q  ((w179 (r a0 3) ((0 : Int32)).toNatClampNeg)) i w179))))
def w_X2_colourIn_171 (a0 : Nat) (x1 : Int32) (x2 : Int32) (a3 : Nat) (a4 : Nat) (T : kw_T) (n : Nat) (r : kw_R) (Q : Int32 → kw_I → kw_L → Prop)  : Nat → Int64 → Int32 → kw_I → kw_L → Prop
  | 0 => fun _ _ _ _ => False
  | N + 1 => s_X2_colourIn_171 a0 x1 x2 a3 a4 T n r Q  (w_X2_colourIn_171 a0 x1 x2 a3 a4 T n r Q  N)
def w_X2_colourIn_146 (a0 : Nat) (x1 : Int32) (x2 : Int32) (a3 : Nat) (a4 : Nat) (T : kw_T) (n : Nat) (r : kw_R) (Q : Int32 → kw_I → kw_L → Prop)  (l6 : Int64) (s0 : Nat) (s1 : Int32) (s2 : Int32) (i : kw_I) (w : kw_L) : Prop :=
  kw_in T 1 s0 s1 ∧ (∀ i146 : kw_I, i146 = kw_st i s0 (s1).toNatClampNeg s2 → (kw_in T 1 (r a0 2) x1 ∧ (kw_in T 1 (r a0 4) (7 : Int32) ∧ (∀ i159 : kw_I, i159 = kw_st i146 (r a0 4) ((7 : Int32)).toNatClampNeg (i146 (r a0 2) (x1).toNatClampNeg) → (T ((r a0 7)) = (0, 1) ∧ (∃ N, w_X2_colourIn_171 a0 x1 x2 a3 a4 T n r Q  N l6 (((i159 (r a0 7) 0) - (1 : Int32))) i159 w))))))
def w_X2_colourIn_122 (a0 : Nat) (x1 : Int32) (x2 : Int32) (a3 : Nat) (a4 : Nat) (T : kw_T) (n : Nat) (r : kw_R) (Q : Int32 → kw_I → kw_L → Prop)  (l6 : Int64) (s0 : Nat) (s1 : Int32) (s2 : Int32) (i : kw_I) (w : kw_L) : Prop :=
  kw_in T 1 s0 s1 ∧ (∀ i122 : kw_I, i122 = kw_st i s0 (s1).toNatClampNeg s2 → ((x2 < (6 : Int32) → w_X2_colourIn_146 a0 x1 x2 a3 a4 T n r Q  l6 ((r a0 4)) ((6 : Int32)) ((-1 : Int32)) i122 w) ∧ (¬ x2 < (6 : Int32) → kw_in T 1 a4 (x2 - (6 : Int32)) ∧ (w_X2_colourIn_146 a0 x1 x2 a3 a4 T n r Q  l6 ((r a0 4)) ((6 : Int32)) ((i122 a4 ((x2 - (6 : Int32))).toNatClampNeg)) i122 w))))
def w_X2_colourIn_93 (a0 : Nat) (x1 : Int32) (x2 : Int32) (a3 : Nat) (a4 : Nat) (T : kw_T) (n : Nat) (r : kw_R) (Q : Int32 → kw_I → kw_L → Prop)  (x5 : Int32) (l6 : Int64) (x8 : Int32) (s0 : Nat) (s1 : Int32) (s2 : Int32) (i : kw_I) (w : kw_L) : Prop :=
  kw_in T 1 s0 s1 ∧ (∀ i93 : kw_I, i93 = kw_st i s0 (s1).toNatClampNeg s2 → (kw_in T 1 (r a0 4) (4 : Int32) ∧ (∀ i101 : kw_I, i101 = kw_st i93 (r a0 4) ((4 : Int32)).toNatClampNeg x5 → ((x8 ≤ 0 → w_X2_colourIn_122 a0 x1 x2 a3 a4 T n r Q  l6 ((r a0 4)) ((5 : Int32)) ((-1 : Int32)) i101 w) ∧ (¬ x8 ≤ 0 → kw_in T 1 a4 (x2 - (1 : Int32)) ∧ (w_X2_colourIn_122 a0 x1 x2 a3 a4 T n r Q  l6 ((r a0 4)) ((5 : Int32)) ((i101 a4 ((x2 - (1 : Int32))).toNatClampNeg)) i101 w))))))
def w_X2_colourIn_37 (a0 : Nat) (x1 : Int32) (x2 : Int32) (a3 : Nat) (a4 : Nat) (T : kw_T) (n : Nat) (r : kw_R) (Q : Int32 → kw_I → kw_L → Prop)  (x5 : Int32) (s0 : Int64) (i : kw_I) (w : kw_L) : Prop :=
  ((r a0 7) = 0 → w_X2_colourIn_202 a0 x1 x2 a3 a4 T n r Q  s0 i w) ∧ (¬ (r a0 7) = 0 → kw_in T 1 (r a0 4) (0 : Int32) ∧ (∀ i59 : kw_I, i59 = kw_st i (r a0 4) ((0 : Int32)).toNatClampNeg (x2 - x2 / (6 : Int32) * (6 : Int32)) → (kw_in T 1 (r a0 4) (1 : Int32) ∧ (∀ i69 : kw_I, i69 = kw_st i59 (r a0 4) ((1 : Int32)).toNatClampNeg (x2 / (6 : Int32)) → (kw_in T 1 (r a0 4) (2 : Int32) ∧ (∀ i76 : kw_I, i76 = kw_st i69 (r a0 4) ((2 : Int32)).toNatClampNeg x1 → ((¬ x5 = (-1 : Int32) → w_X2_colourIn_93 a0 x1 x2 a3 a4 T n r Q  x5 s0 ((x2 - x2 / (6 : Int32) * (6 : Int32))) ((r a0 4)) ((3 : Int32)) ((1 : Int32)) i76 w) ∧ (x5 = (-1 : Int32) → w_X2_colourIn_93 a0 x1 x2 a3 a4 T n r Q  x5 s0 ((x2 - x2 / (6 : Int32) * (6 : Int32))) ((r a0 4)) ((3 : Int32)) ((0 : Int32)) i76 w))))))))
def w_X2_colourIn_16 (a0 : Nat) (x1 : Int32) (x2 : Int32) (a3 : Nat) (a4 : Nat) (T : kw_T) (n : Nat) (r : kw_R) (Q : Int32 → kw_I → kw_L → Prop)  (s0 : Int32) (i : kw_I) (w : kw_L) : Prop :=
  (¬ s0 = (-1 : Int32) → w_X2_colourIn_37 a0 x1 x2 a3 a4 T n r Q  s0 (s0.toInt64) i w) ∧ (s0 = (-1 : Int32) → kw_in T 1 (r a0 2) x1 ∧ (w_X2_colourIn_37 a0 x1 x2 a3 a4 T n r Q  s0 (((i (r a0 2) (x1).toNatClampNeg).toInt64)) i w))
def w_X2_colourIn  (a0 : Nat) (x1 : Int32) (x2 : Int32) (a3 : Nat) (a4 : Nat) (T : kw_T) (n : Nat) (r : kw_R) (i : kw_I) (w : kw_L) (Q : Int32 → kw_I → kw_L → Prop) : Prop :=
  w_X2_sees a0 x1 x2 T n r i w (fun v3 => (v3 = 0 → w_X2_colourIn_16 a0 x1 x2 a3 a4 T n r Q  ((-1 : Int32)) i w) ∧ (¬ v3 = 0 → kw_in T 1 a3 x2 ∧ (w_X2_colourIn_16 a0 x1 x2 a3 a4 T n r Q  ((i a3 (x2).toNatClampNeg)) i w)))
abbrev rm_X2_colourIn : Room := { frames := 3, cells := 0, slots := 0, locals := 114 }
set_option maxHeartbeats 4000000 in
set_option maxRecDepth 100000 in
theorem q_X2_colourIn_202 {a0 : Nat} {x1 : Int32} {x2 : Int32} {a3 : Nat} {a4 : Nat} {T : kw_T} {n : Nat} {r : kw_R} {Q : Int32 → kw_I → kw_L → Prop} {E : kw_E} {G : kw_G} (hm : kw_m E G cX2_colourIn 10 RX2 (some .int) rm_X2_colourIn "colourIn")  (h0 : T a0 = (0, 2))    (l6 : Int64) (i : kw_I) (w : kw_L) (h : w_X2_colourIn_202 a0 x1 x2 a3 a4 T n r Q  l6 i w) : kw_K E G 10 0 0 (kw_Z E G 0 0 (kw_PI (fun v T' n' r' i' w' => T = T' ∧ n = n' ∧ r = r' ∧ Q v i' w'))) 202 [(0, kw_a a0), (1, kw_i x1), (2, kw_i x2), (3, kw_a a3), (4, kw_a a4), (6, kw_l l6)] [] T n r i w := by
  refine kk_aload_n hm.1 0 dX2_colourIn_202 rfl rfl ?_
  refine kk_aload_n hm.1 0 dX2_colourIn_203 rfl rfl ?_
  refine kk_getR hm.1 ff_X2_15 dX2_colourIn_204 h0 ?_
  refine kk_iload_n hm.1 1 dX2_colourIn_207 rfl rfl ?_
  obtain ⟨o208, h⟩ := h
  refine kk_iaload hm.1 dX2_colourIn_208 o208 ?_
  refine kk_lload hm.1 5 dX2_colourIn_209 rfl ?_
  refine kk_callVi (cs' := 0) (sl' := 0) (st := []) hm.1 cv_X2_70 (t_X2_nearest h0 h) dX2_colourIn_211 h0 rfl rfl hm.2.2.1 ⟨by decide, by decide⟩ ⟨by decide, by decide⟩ rfl rfl (Nat.le_of_ble_eq_true rfl) rfl ?_
  rintro v211 _ _ _ _ _ ⟨rfl, rfl, rfl, rfl, rfl, h⟩
  exact kk_iret hm.1 hm.2.1 dX2_colourIn_214 ⟨_, rfl, rfl, rfl, rfl, h⟩
set_option maxHeartbeats 4000000 in
set_option maxRecDepth 100000 in
theorem qs_X2_colourIn_171 {a0 : Nat} {x1 : Int32} {x2 : Int32} {a3 : Nat} {a4 : Nat} {T : kw_T} {n : Nat} {r : kw_R} {Q : Int32 → kw_I → kw_L → Prop} {E : kw_E} {G : kw_G} (hm : kw_m E G cX2_colourIn 10 RX2 (some .int) rm_X2_colourIn "colourIn")  (h0 : T a0 = (0, 2))    {k171 : Int64 → Int32 → kw_I → kw_L → Prop} (hk171 : ∀ (l6 : Int64) (x9 : Int32) (i : kw_I) (w : kw_L), k171 l6 x9 i w → kw_K E G 10 0 0 (kw_Z E G 0 0 (kw_PI (fun v T' n' r' i' w' => T = T' ∧ n = n' ∧ r = r' ∧ Q v i' w'))) 171 [(0, kw_a a0), (1, kw_i x1), (2, kw_i x2), (3, kw_a a3), (4, kw_a a4), (6, kw_l l6), (9, kw_i x9)] [] T n r i w) (l6 : Int64) (x9 : Int32) (i : kw_I) (w : kw_L) (h : s_X2_colourIn_171 a0 x1 x2 a3 a4 T n r Q  k171 l6 x9 i w) : kw_K E G 10 0 0 (kw_Z E G 0 0 (kw_PI (fun v T' n' r' i' w' => T = T' ∧ n = n' ∧ r = r' ∧ Q v i' w'))) 171 [(0, kw_a a0), (1, kw_i x1), (2, kw_i x2), (3, kw_a a3), (4, kw_a a4), (6, kw_l l6), (9, kw_i x9)] [] T n r i w := by
  refine kk_iload hm.1 6 dX2_colourIn_171 rfl ?_
  refine kk_if_lt (tgt := 202) hm.1 dX2_colourIn_173 (by decide) (fun c173 => ?_) (fun c173 => ?_)
  · have h := h.1 c173
    refine kk_loc (L' := [(0, kw_a a0), (1, kw_i x1), (2, kw_i x2), (3, kw_a a3), (4, kw_a a4), (6, kw_l l6)]) [0, 1, 2, 3, 4, 5] rfl ?_
    exact q_X2_colourIn_202 hm  h0   l6 i w h
  · have h := h.2 c173
    refine kk_aload_n hm.1 0 dX2_colourIn_176 rfl rfl ?_
    refine kk_iload hm.1 6 dX2_colourIn_177 rfl ?_
    refine kk_callVi (cs' := 0) (sl' := 0) (st := []) hm.1 cv_X2_66 (t_X2_holds h0 h) dX2_colourIn_179 h0 rfl rfl hm.2.2.1 ⟨by decide, by decide⟩ ⟨by decide, by decide⟩ rfl rfl (Nat.le_of_ble_eq_true rfl) rfl ?_
    rintro v179 _ _ _ _ w179 ⟨rfl, rfl, rfl, rfl, h⟩
    refine kk_if_eq (tgt := 196) hm.1 dX2_colourIn_182 (by decide) (fun c182 => ?_) (fun c182 => ?_)
    · have h := h.1 c182
      refine kk_iinc (v := (x9 + (-1 : Int32))) (L' := [(9, kw_i (x9 + (-1 : Int32))), (0, kw_a a0), (1, kw_i x1), (2, kw_i x2), (3, kw_a a3), (4, kw_a a4), (6, kw_l l6)]) hm.1 6 dX2_colourIn_196 rfl rfl (by decide) rfl ?_
      refine kk_goto (tgt := 171) hm.1 dX2_colourIn_199 (by decide) ?_
      refine kk_loc (L' := [(0, kw_a a0), (1, kw_i x1), (2, kw_i x2), (3, kw_a a3), (4, kw_a a4), (6, kw_l l6), (9, kw_i (x9 + (-1 : Int32)))]) [1, 2, 3, 4, 5, 6, 0] rfl ?_
      exact hk171 l6 ((x9 + (-1 : Int32))) i w179 h
    · have h := h.2 c182
      refine kk_aload_n hm.1 0 dX2_colourIn_185 rfl rfl ?_
      refine kk_getR hm.1 ff_X2_22 dX2_colourIn_186 h0 ?_
      refine kk_iconst (v := (0 : Int32)) hm.1 dX2_colourIn_189 (by decide) ?_
      obtain ⟨o190, h⟩ := h
      refine kk_laload hm.1 dX2_colourIn_190 o190 ?_
      refine kk_lstore (L' := [(6, kw_l (w179 (r a0 3) ((0 : Int32)).toNatClampNeg)), (0, kw_a a0), (1, kw_i x1), (2, kw_i x2), (3, kw_a a3), (4, kw_a a4), (9, kw_i x9)]) hm.1 dX2_colourIn_191 (by decide) rfl ?_
      refine kk_goto (tgt := 202) hm.1 dX2_colourIn_193 (by decide) ?_
      refine kk_loc (L' := [(0, kw_a a0), (1, kw_i x1), (2, kw_i x2), (3, kw_a a3), (4, kw_a a4), (6, kw_l (w179 (r a0 3) ((0 : Int32)).toNatClampNeg))]) [1, 2, 3, 4, 5, 0] rfl ?_
      exact q_X2_colourIn_202 hm  h0   ((w179 (r a0 3) ((0 : Int32)).toNatClampNeg)) i w179 h
set_option maxHeartbeats 4000000 in
set_option maxRecDepth 100000 in
theorem q_X2_colourIn_171 {a0 : Nat} {x1 : Int32} {x2 : Int32} {a3 : Nat} {a4 : Nat} {T : kw_T} {n : Nat} {r : kw_R} {Q : Int32 → kw_I → kw_L → Prop} {E : kw_E} {G : kw_G} (hm : kw_m E G cX2_colourIn 10 RX2 (some .int) rm_X2_colourIn "colourIn")  (h0 : T a0 = (0, 2))    : ∀ (N : Nat) (l6 : Int64) (x9 : Int32) (i : kw_I) (w : kw_L), w_X2_colourIn_171 a0 x1 x2 a3 a4 T n r Q  N l6 x9 i w → kw_K E G 10 0 0 (kw_Z E G 0 0 (kw_PI (fun v T' n' r' i' w' => T = T' ∧ n = n' ∧ r = r' ∧ Q v i' w'))) 171 [(0, kw_a a0), (1, kw_i x1), (2, kw_i x2), (3, kw_a a3), (4, kw_a a4), (6, kw_l l6), (9, kw_i x9)] [] T n r i w := by
  intro N
  induction N with
  | zero => intro l6 x9 i w h; exact h.elim
  | succ N ih => intro l6 x9 i w h; exact qs_X2_colourIn_171 hm  h0  ih l6 x9 i w h
set_option maxHeartbeats 4000000 in
set_option maxRecDepth 100000 in
theorem q_X2_colourIn_146 {a0 : Nat} {x1 : Int32} {x2 : Int32} {a3 : Nat} {a4 : Nat} {T : kw_T} {n : Nat} {r : kw_R} {Q : Int32 → kw_I → kw_L → Prop} {E : kw_E} {G : kw_G} (hm : kw_m E G cX2_colourIn 10 RX2 (some .int) rm_X2_colourIn "colourIn")  (h0 : T a0 = (0, 2))    (l6 : Int64) (s0 : Nat) (s1 : Int32) (s2 : Int32) (i : kw_I) (w : kw_L) (h : w_X2_colourIn_146 a0 x1 x2 a3 a4 T n r Q  l6 s0 s1 s2 i w) : kw_K E G 10 0 0 (kw_Z E G 0 0 (kw_PI (fun v T' n' r' i' w' => T = T' ∧ n = n' ∧ r = r' ∧ Q v i' w'))) 146 [(0, kw_a a0), (1, kw_i x1), (2, kw_i x2), (3, kw_a a3), (4, kw_a a4), (6, kw_l l6)] [kw_i s2, kw_i s1, kw_a s0] T n r i w := by
  obtain ⟨o146, h⟩ := h
  refine kn_iastore hm.1 dX2_colourIn_146 o146 (fun i146 e146 => ?_)
  have h := h i146 e146
  refine kk_aload_n hm.1 0 dX2_colourIn_147 rfl rfl ?_
  refine kk_getR hm.1 ff_X2_25 dX2_colourIn_148 h0 ?_
  refine kk_bipush (v := (7 : Int32)) hm.1 dX2_colourIn_151 (by decide) ?_
  refine kk_aload_n hm.1 0 dX2_colourIn_153 rfl rfl ?_
  refine kk_getR hm.1 ff_X2_19 dX2_colourIn_154 h0 ?_
  refine kk_iload_n hm.1 1 dX2_colourIn_157 rfl rfl ?_
  obtain ⟨o158, h⟩ := h
  refine kk_iaload hm.1 dX2_colourIn_158 o158 ?_
  obtain ⟨o159, h⟩ := h
  refine kn_iastore hm.1 dX2_colourIn_159 o159 (fun i159 e159 => ?_)
  have h := h i159 e159
  refine kk_aload_n hm.1 0 dX2_colourIn_160 rfl rfl ?_
  refine kk_getR hm.1 ff_X2_35 dX2_colourIn_161 h0 ?_
  obtain ⟨o164, h⟩ := h
  refine kk_getI hm.1 ff_X2_61 dX2_colourIn_164 o164 ?_
  refine kk_iconst (v := (1 : Int32)) hm.1 dX2_colourIn_167 (by decide) ?_
  refine kk_isub hm.1 dX2_colourIn_168 ?_
  refine kk_istore (L' := [(9, kw_i ((i159 (r a0 7) 0) - (1 : Int32))), (0, kw_a a0), (1, kw_i x1), (2, kw_i x2), (3, kw_a a3), (4, kw_a a4), (6, kw_l l6)]) hm.1 dX2_colourIn_169 (by decide) rfl ?_
  refine kk_loc (L' := [(0, kw_a a0), (1, kw_i x1), (2, kw_i x2), (3, kw_a a3), (4, kw_a a4), (6, kw_l l6), (9, kw_i ((i159 (r a0 7) 0) - (1 : Int32)))]) [1, 2, 3, 4, 5, 6, 0] rfl ?_
  obtain ⟨N, h⟩ := h
  exact q_X2_colourIn_171 hm  h0   N l6 (((i159 (r a0 7) 0) - (1 : Int32))) i159 w h
set_option maxHeartbeats 4000000 in
set_option maxRecDepth 100000 in
theorem q_X2_colourIn_122 {a0 : Nat} {x1 : Int32} {x2 : Int32} {a3 : Nat} {a4 : Nat} {T : kw_T} {n : Nat} {r : kw_R} {Q : Int32 → kw_I → kw_L → Prop} {E : kw_E} {G : kw_G} (hm : kw_m E G cX2_colourIn 10 RX2 (some .int) rm_X2_colourIn "colourIn")  (h0 : T a0 = (0, 2))    (l6 : Int64) (s0 : Nat) (s1 : Int32) (s2 : Int32) (i : kw_I) (w : kw_L) (h : w_X2_colourIn_122 a0 x1 x2 a3 a4 T n r Q  l6 s0 s1 s2 i w) : kw_K E G 10 0 0 (kw_Z E G 0 0 (kw_PI (fun v T' n' r' i' w' => T = T' ∧ n = n' ∧ r = r' ∧ Q v i' w'))) 122 [(0, kw_a a0), (1, kw_i x1), (2, kw_i x2), (3, kw_a a3), (4, kw_a a4), (6, kw_l l6)] [kw_i s2, kw_i s1, kw_a s0] T n r i w := by
  obtain ⟨o122, h⟩ := h
  refine kn_iastore hm.1 dX2_colourIn_122 o122 (fun i122 e122 => ?_)
  have h := h i122 e122
  refine kk_aload_n hm.1 0 dX2_colourIn_123 rfl rfl ?_
  refine kk_getR hm.1 ff_X2_25 dX2_colourIn_124 h0 ?_
  refine kk_bipush (v := (6 : Int32)) hm.1 dX2_colourIn_127 (by decide) ?_
  refine kk_iload_n hm.1 2 dX2_colourIn_129 rfl rfl ?_
  refine kk_bipush (v := (6 : Int32)) hm.1 dX2_colourIn_130 (by decide) ?_
  refine kk_icmp_lt (tgt := 145) hm.1 dX2_colourIn_132 (by decide) (fun c132 => ?_) (fun c132 => ?_)
  · have h := h.1 c132
    refine kk_iconst (v := (-1 : Int32)) hm.1 dX2_colourIn_145 (by decide) ?_
    exact q_X2_colourIn_146 hm  h0   l6 ((r a0 4)) ((6 : Int32)) ((-1 : Int32)) i122 w h
  · have h := h.2 c132
    refine kk_aload hm.1 4 dX2_colourIn_135 rfl ?_
    refine kk_iload_n hm.1 2 dX2_colourIn_137 rfl rfl ?_
    refine kk_bipush (v := (6 : Int32)) hm.1 dX2_colourIn_138 (by decide) ?_
    refine kk_isub hm.1 dX2_colourIn_140 ?_
    obtain ⟨o141, h⟩ := h
    refine kk_iaload hm.1 dX2_colourIn_141 o141 ?_
    refine kk_goto (tgt := 146) hm.1 dX2_colourIn_142 (by decide) ?_
    exact q_X2_colourIn_146 hm  h0   l6 ((r a0 4)) ((6 : Int32)) ((i122 a4 ((x2 - (6 : Int32))).toNatClampNeg)) i122 w h
set_option maxHeartbeats 4000000 in
set_option maxRecDepth 100000 in
theorem q_X2_colourIn_93 {a0 : Nat} {x1 : Int32} {x2 : Int32} {a3 : Nat} {a4 : Nat} {T : kw_T} {n : Nat} {r : kw_R} {Q : Int32 → kw_I → kw_L → Prop} {E : kw_E} {G : kw_G} (hm : kw_m E G cX2_colourIn 10 RX2 (some .int) rm_X2_colourIn "colourIn")  (h0 : T a0 = (0, 2))    (x5 : Int32) (l6 : Int64) (x8 : Int32) (s0 : Nat) (s1 : Int32) (s2 : Int32) (i : kw_I) (w : kw_L) (h : w_X2_colourIn_93 a0 x1 x2 a3 a4 T n r Q  x5 l6 x8 s0 s1 s2 i w) : kw_K E G 10 0 0 (kw_Z E G 0 0 (kw_PI (fun v T' n' r' i' w' => T = T' ∧ n = n' ∧ r = r' ∧ Q v i' w'))) 93 [(0, kw_a a0), (1, kw_i x1), (2, kw_i x2), (3, kw_a a3), (4, kw_a a4), (5, kw_i x5), (6, kw_l l6), (8, kw_i x8)] [kw_i s2, kw_i s1, kw_a s0] T n r i w := by
  obtain ⟨o93, h⟩ := h
  refine kn_iastore hm.1 dX2_colourIn_93 o93 (fun i93 e93 => ?_)
  have h := h i93 e93
  refine kk_aload_n hm.1 0 dX2_colourIn_94 rfl rfl ?_
  refine kk_getR hm.1 ff_X2_25 dX2_colourIn_95 h0 ?_
  refine kk_iconst (v := (4 : Int32)) hm.1 dX2_colourIn_98 (by decide) ?_
  refine kk_iload hm.1 5 dX2_colourIn_99 rfl ?_
  obtain ⟨o101, h⟩ := h
  refine kn_iastore hm.1 dX2_colourIn_101 o101 (fun i101 e101 => ?_)
  have h := h i101 e101
  refine kk_aload_n hm.1 0 dX2_colourIn_102 rfl rfl ?_
  refine kk_getR hm.1 ff_X2_25 dX2_colourIn_103 h0 ?_
  refine kk_iconst (v := (5 : Int32)) hm.1 dX2_colourIn_106 (by decide) ?_
  refine kk_iload hm.1 7 dX2_colourIn_107 rfl ?_
  refine kk_if_le (tgt := 121) hm.1 dX2_colourIn_109 (by decide) (fun c109 => ?_) (fun c109 => ?_)
  · have h := h.1 c109
    refine kk_iconst (v := (-1 : Int32)) hm.1 dX2_colourIn_121 (by decide) ?_
    refine kk_loc (L' := [(0, kw_a a0), (1, kw_i x1), (2, kw_i x2), (3, kw_a a3), (4, kw_a a4), (6, kw_l l6)]) [0, 1, 2, 3, 4, 6] rfl ?_
    exact q_X2_colourIn_122 hm  h0   l6 ((r a0 4)) ((5 : Int32)) ((-1 : Int32)) i101 w h
  · have h := h.2 c109
    refine kk_aload hm.1 4 dX2_colourIn_112 rfl ?_
    refine kk_iload_n hm.1 2 dX2_colourIn_114 rfl rfl ?_
    refine kk_iconst (v := (1 : Int32)) hm.1 dX2_colourIn_115 (by decide) ?_
    refine kk_isub hm.1 dX2_colourIn_116 ?_
    obtain ⟨o117, h⟩ := h
    refine kk_iaload hm.1 dX2_colourIn_117 o117 ?_
    refine kk_goto (tgt := 122) hm.1 dX2_colourIn_118 (by decide) ?_
    refine kk_loc (L' := [(0, kw_a a0), (1, kw_i x1), (2, kw_i x2), (3, kw_a a3), (4, kw_a a4), (6, kw_l l6)]) [0, 1, 2, 3, 4, 6] rfl ?_
    exact q_X2_colourIn_122 hm  h0   l6 ((r a0 4)) ((5 : Int32)) ((i101 a4 ((x2 - (1 : Int32))).toNatClampNeg)) i101 w h
set_option maxHeartbeats 4000000 in
set_option maxRecDepth 100000 in
theorem q_X2_colourIn_37 {a0 : Nat} {x1 : Int32} {x2 : Int32} {a3 : Nat} {a4 : Nat} {T : kw_T} {n : Nat} {r : kw_R} {Q : Int32 → kw_I → kw_L → Prop} {E : kw_E} {G : kw_G} (hm : kw_m E G cX2_colourIn 10 RX2 (some .int) rm_X2_colourIn "colourIn")  (h0 : T a0 = (0, 2))    (x5 : Int32) (s0 : Int64) (i : kw_I) (w : kw_L) (h : w_X2_colourIn_37 a0 x1 x2 a3 a4 T n r Q  x5 s0 i w) : kw_K E G 10 0 0 (kw_Z E G 0 0 (kw_PI (fun v T' n' r' i' w' => T = T' ∧ n = n' ∧ r = r' ∧ Q v i' w'))) 37 [(0, kw_a a0), (1, kw_i x1), (2, kw_i x2), (3, kw_a a3), (4, kw_a a4), (5, kw_i x5)] [kw_l s0] T n r i w := by
  refine kk_lstore (L' := [(6, kw_l s0), (0, kw_a a0), (1, kw_i x1), (2, kw_i x2), (3, kw_a a3), (4, kw_a a4), (5, kw_i x5)]) hm.1 dX2_colourIn_37 (by decide) rfl ?_
  refine kk_aload_n hm.1 1 dX2_colourIn_39 rfl rfl ?_
  refine kk_getR hm.1 ff_X2_35 dX2_colourIn_40 h0 ?_
  refine kk_ifnull (tgt := 202) hm.1 dX2_colourIn_43 (by decide) (fun c43 => ?_) (fun c43 => ?_)
  · have h := h.1 c43
    refine kk_loc (L' := [(0, kw_a a0), (1, kw_i x1), (2, kw_i x2), (3, kw_a a3), (4, kw_a a4), (6, kw_l s0)]) [1, 2, 3, 4, 5, 0] rfl ?_
    exact q_X2_colourIn_202 hm  h0   s0 i w h
  · have h := h.2 c43
    refine kk_iload_n hm.1 3 dX2_colourIn_46 rfl rfl ?_
    refine kk_bipush (v := (6 : Int32)) hm.1 dX2_colourIn_47 (by decide) ?_
    refine kk_irem hm.1 dX2_colourIn_49 (by decide) ?_
    refine kk_istore (L' := [(8, kw_i (x2 - x2 / (6 : Int32) * (6 : Int32))), (6, kw_l s0), (0, kw_a a0), (1, kw_i x1), (2, kw_i x2), (3, kw_a a3), (4, kw_a a4), (5, kw_i x5)]) hm.1 dX2_colourIn_50 (by decide) rfl ?_
    refine kk_aload_n hm.1 2 dX2_colourIn_52 rfl rfl ?_
    refine kk_getR hm.1 ff_X2_25 dX2_colourIn_53 h0 ?_
    refine kk_iconst (v := (0 : Int32)) hm.1 dX2_colourIn_56 (by decide) ?_
    refine kk_iload hm.1 0 dX2_colourIn_57 rfl ?_
    obtain ⟨o59, h⟩ := h
    refine kn_iastore hm.1 dX2_colourIn_59 o59 (fun i59 e59 => ?_)
    have h := h i59 e59
    refine kk_aload_n hm.1 2 dX2_colourIn_60 rfl rfl ?_
    refine kk_getR hm.1 ff_X2_25 dX2_colourIn_61 h0 ?_
    refine kk_iconst (v := (1 : Int32)) hm.1 dX2_colourIn_64 (by decide) ?_
    refine kk_iload_n hm.1 4 dX2_colourIn_65 rfl rfl ?_
    refine kk_bipush (v := (6 : Int32)) hm.1 dX2_colourIn_66 (by decide) ?_
    refine kk_idiv hm.1 dX2_colourIn_68 (by decide) ?_
    obtain ⟨o69, h⟩ := h
    refine kn_iastore hm.1 dX2_colourIn_69 o69 (fun i69 e69 => ?_)
    have h := h i69 e69
    refine kk_aload_n hm.1 2 dX2_colourIn_70 rfl rfl ?_
    refine kk_getR hm.1 ff_X2_25 dX2_colourIn_71 h0 ?_
    refine kk_iconst (v := (2 : Int32)) hm.1 dX2_colourIn_74 (by decide) ?_
    refine kk_iload_n hm.1 3 dX2_colourIn_75 rfl rfl ?_
    obtain ⟨o76, h⟩ := h
    refine kn_iastore hm.1 dX2_colourIn_76 o76 (fun i76 e76 => ?_)
    have h := h i76 e76
    refine kk_aload_n hm.1 2 dX2_colourIn_77 rfl rfl ?_
    refine kk_getR hm.1 ff_X2_25 dX2_colourIn_78 h0 ?_
    refine kk_iconst (v := (3 : Int32)) hm.1 dX2_colourIn_81 (by decide) ?_
    refine kk_iload hm.1 7 dX2_colourIn_82 rfl ?_
    refine kk_iconst (v := (-1 : Int32)) hm.1 dX2_colourIn_84 (by decide) ?_
    refine kk_icmp_ne (tgt := 92) hm.1 dX2_colourIn_85 (by decide) (fun c85 => ?_) (fun c85 => ?_)
    · have h := h.1 c85
      refine kk_iconst (v := (1 : Int32)) hm.1 dX2_colourIn_92 (by decide) ?_
      refine kk_loc (L' := [(0, kw_a a0), (1, kw_i x1), (2, kw_i x2), (3, kw_a a3), (4, kw_a a4), (5, kw_i x5), (6, kw_l s0), (8, kw_i (x2 - x2 / (6 : Int32) * (6 : Int32)))]) [2, 3, 4, 5, 6, 7, 1, 0] rfl ?_
      exact q_X2_colourIn_93 hm  h0   x5 s0 ((x2 - x2 / (6 : Int32) * (6 : Int32))) ((r a0 4)) ((3 : Int32)) ((1 : Int32)) i76 w h
    · have h := h.2 c85
      refine kk_iconst (v := (0 : Int32)) hm.1 dX2_colourIn_88 (by decide) ?_
      refine kk_goto (tgt := 93) hm.1 dX2_colourIn_89 (by decide) ?_
      refine kk_loc (L' := [(0, kw_a a0), (1, kw_i x1), (2, kw_i x2), (3, kw_a a3), (4, kw_a a4), (5, kw_i x5), (6, kw_l s0), (8, kw_i (x2 - x2 / (6 : Int32) * (6 : Int32)))]) [2, 3, 4, 5, 6, 7, 1, 0] rfl ?_
      exact q_X2_colourIn_93 hm  h0   x5 s0 ((x2 - x2 / (6 : Int32) * (6 : Int32))) ((r a0 4)) ((3 : Int32)) ((0 : Int32)) i76 w h
set_option maxHeartbeats 4000000 in
set_option maxRecDepth 100000 in
theorem q_X2_colourIn_16 {a0 : Nat} {x1 : Int32} {x2 : Int32} {a3 : Nat} {a4 : Nat} {T : kw_T} {n : Nat} {r : kw_R} {Q : Int32 → kw_I → kw_L → Prop} {E : kw_E} {G : kw_G} (hm : kw_m E G cX2_colourIn 10 RX2 (some .int) rm_X2_colourIn "colourIn")  (h0 : T a0 = (0, 2))    (s0 : Int32) (i : kw_I) (w : kw_L) (h : w_X2_colourIn_16 a0 x1 x2 a3 a4 T n r Q  s0 i w) : kw_K E G 10 0 0 (kw_Z E G 0 0 (kw_PI (fun v T' n' r' i' w' => T = T' ∧ n = n' ∧ r = r' ∧ Q v i' w'))) 16 [(0, kw_a a0), (1, kw_i x1), (2, kw_i x2), (3, kw_a a3), (4, kw_a a4)] [kw_i s0] T n r i w := by
  refine kk_istore (L' := [(5, kw_i s0), (0, kw_a a0), (1, kw_i x1), (2, kw_i x2), (3, kw_a a3), (4, kw_a a4)]) hm.1 dX2_colourIn_16 (by decide) rfl ?_
  refine kk_iload hm.1 0 dX2_colourIn_18 rfl ?_
  refine kk_iconst (v := (-1 : Int32)) hm.1 dX2_colourIn_20 (by decide) ?_
  refine kk_icmp_ne (tgt := 34) hm.1 dX2_colourIn_21 (by decide) (fun c21 => ?_) (fun c21 => ?_)
  · have h := h.1 c21
    refine kk_iload hm.1 0 dX2_colourIn_34 rfl ?_
    refine kk_i2l hm.1 dX2_colourIn_36 ?_
    refine kk_loc (L' := [(0, kw_a a0), (1, kw_i x1), (2, kw_i x2), (3, kw_a a3), (4, kw_a a4), (5, kw_i s0)]) [1, 2, 3, 4, 5, 0] rfl ?_
    exact q_X2_colourIn_37 hm  h0   s0 (s0.toInt64) i w h
  · have h := h.2 c21
    refine kk_aload_n hm.1 1 dX2_colourIn_24 rfl rfl ?_
    refine kk_getR hm.1 ff_X2_19 dX2_colourIn_25 h0 ?_
    refine kk_iload_n hm.1 2 dX2_colourIn_28 rfl rfl ?_
    obtain ⟨o29, h⟩ := h
    refine kk_iaload hm.1 dX2_colourIn_29 o29 ?_
    refine kk_i2l hm.1 dX2_colourIn_30 ?_
    refine kk_goto (tgt := 37) hm.1 dX2_colourIn_31 (by decide) ?_
    refine kk_loc (L' := [(0, kw_a a0), (1, kw_i x1), (2, kw_i x2), (3, kw_a a3), (4, kw_a a4), (5, kw_i s0)]) [1, 2, 3, 4, 5, 0] rfl ?_
    exact q_X2_colourIn_37 hm  h0   s0 (((i (r a0 2) (x1).toNatClampNeg).toInt64)) i w h
set_option maxHeartbeats 4000000 in
set_option maxRecDepth 100000 in
theorem t_X2_colourIn {l : Launch} {G : kw_G} {a0 : Nat} {x1 : Int32} {x2 : Int32} {a3 : Nat} {a4 : Nat} {T : kw_T} {n : Nat} {r : kw_R} {i : kw_I} {w : kw_L} {Q : Int32 → kw_I → kw_L → Prop} (h0 : T a0 = (0, 2)) (h : w_X2_colourIn a0 x1 x2 a3 a4 T n r i w Q) : kw_Met l G yX2_colourIn cX2_colourIn 10 (some .int) rm_X2_colourIn [kw_a a0, kw_i x1, kw_i x2, kw_a a3, kw_a a4] (T, n, r, i, w) (kw_PI (fun v T' n' r' i' w' => T = T' ∧ n = n' ∧ r = r' ∧ Q v i' w')) := by
  refine kw_Met.of (by decide) (Nat.le_of_ble_eq_true rfl) fun E hl hRm hE hT hnm => ?_
  have hm : kw_m E G cX2_colourIn 10 RX2 (some .int) rm_X2_colourIn "colourIn" := ⟨hE, hT, hRm, hnm⟩
  subst hl
  show kw_K E G 10 0 0 (kw_Z E G 0 0 (kw_PI (fun v T' n' r' i' w' => T = T' ∧ n = n' ∧ r = r' ∧ Q v i' w'))) 0 [(0, kw_a a0), (1, kw_i x1), (2, kw_i x2), (3, kw_a a3), (4, kw_a a4)] [] T n r i w
  refine kk_aload_n hm.1 0 dX2_colourIn_0 rfl rfl ?_
  refine kk_iload_n hm.1 1 dX2_colourIn_1 rfl rfl ?_
  refine kk_iload_n hm.1 2 dX2_colourIn_2 rfl rfl ?_
  refine kk_callVi (cs' := 0) (sl' := 0) (st := []) hm.1 cv_X2_57 (t_X2_sees h0 h) dX2_colourIn_3 h0 rfl rfl hm.2.2.1 ⟨by decide, by decide⟩ ⟨by decide, by decide⟩ rfl rfl (Nat.le_of_ble_eq_true rfl) rfl ?_
  rintro v3 _ _ _ _ _ ⟨rfl, rfl, rfl, rfl, rfl, h⟩
  refine kk_if_eq (tgt := 15) hm.1 dX2_colourIn_6 (by decide) (fun c6 => ?_) (fun c6 => ?_)
  · have h := h.1 c6
    refine kk_iconst (v := (-1 : Int32)) hm.1 dX2_colourIn_15 (by decide) ?_
    exact q_X2_colourIn_16 hm  h0   ((-1 : Int32)) i w h
  · have h := h.2 c6
    refine kk_aload_n hm.1 3 dX2_colourIn_9 rfl rfl ?_
    refine kk_iload_n hm.1 2 dX2_colourIn_10 rfl rfl ?_
    obtain ⟨o11, h⟩ := h
    refine kk_iaload hm.1 dX2_colourIn_11 o11 ?_
    refine kk_goto (tgt := 16) hm.1 dX2_colourIn_12 (by decide) ?_
    exact q_X2_colourIn_16 hm  h0   ((i a3 (x2).toNatClampNeg)) i w h
def w_X0_follow_207 (a0 : Nat) (x1 : Int32) (a2 : Nat) (a3 : Nat) (x4 : Int32) (x5 : Int32) (T : kw_T) (n : Nat) (r : kw_R) (Q : kw_I → kw_L → Prop) (k42 : Nat → Nat → Int32 → Int32 → kw_I → kw_L → Prop) (a6 : Nat) (a7 : Nat) (x8 : Int32) (x9 : Int32) (i : kw_I) (w : kw_L) : Prop :=
  k42 a6 a7 x8 ((x9 + (1 : Int32))) i w
def w_X0_follow_135 (a0 : Nat) (x1 : Int32) (a2 : Nat) (a3 : Nat) (x4 : Int32) (x5 : Int32) (T : kw_T) (n : Nat) (r : kw_R) (Q : kw_I → kw_L → Prop) (k42 : Nat → Nat → Int32 → Int32 → kw_I → kw_L → Prop) (a6 : Nat) (a7 : Nat) (x8 : Int32) (x9 : Int32) (s0 : Int32) (i : kw_I) (w : kw_L) : Prop :=
  (s0 = 0 → T ((r a0 1)) = (0, 2) ∧ (w_X2_colourIn (r a0 1) x1 x9 a2 a3 T n r i w (fun v157 i157 w157 => kw_in T 1 a3 x9 ∧ (∀ i160 : kw_I, i160 = kw_st i157 a3 (x9).toNatClampNeg v157 → (kw_in T 1 a3 x9 ∧ (kw_in T 1 a7 x9 ∧ ((¬ (i160 a3 (x9).toNatClampNeg) = (i160 a7 (x9).toNatClampNeg) → ∀ i186 : kw_I, i186 = kw_st i160 a0 3 (if x9 < (i160 a0 3) then x9 else (i160 a0 3)) → (∀ i192 : kw_I, i192 = kw_st i186 a0 4 x9 → (w_X0_follow_207 a0 x1 a2 a3 x4 x5 T n r Q k42 a6 a7 ((if x8 < (x9 + (6 : Int32)) then (x9 + (6 : Int32)) else x8)) x9 i192 w157))) ∧ ((i160 a3 (x9).toNatClampNeg) = (i160 a7 (x9).toNatClampNeg) → w_X0_follow_207 a0 x1 a2 a3 x4 x5 T n r Q k42 a6 a7 x8 x9 i160 w157)))))))) ∧ (¬ s0 = 0 → w_X0_follow_207 a0 x1 a2 a3 x4 x5 T n r Q k42 a6 a7 x8 x9 i w)
def w_X0_follow_130 (a0 : Nat) (x1 : Int32) (a2 : Nat) (a3 : Nat) (x4 : Int32) (x5 : Int32) (T : kw_T) (n : Nat) (r : kw_R) (Q : kw_I → kw_L → Prop) (k42 : Nat → Nat → Int32 → Int32 → kw_I → kw_L → Prop) (a6 : Nat) (a7 : Nat) (x8 : Int32) (x9 : Int32) (i : kw_I) (w : kw_L) : Prop :=
  w_X0_follow_135 a0 x1 a2 a3 x4 x5 T n r Q k42 a6 a7 x8 x9 ((1 : Int32)) i w
def w_X0_follow_134 (a0 : Nat) (x1 : Int32) (a2 : Nat) (a3 : Nat) (x4 : Int32) (x5 : Int32) (T : kw_T) (n : Nat) (r : kw_R) (Q : kw_I → kw_L → Prop) (k42 : Nat → Nat → Int32 → Int32 → kw_I → kw_L → Prop) (a6 : Nat) (a7 : Nat) (x8 : Int32) (x9 : Int32) (i : kw_I) (w : kw_L) : Prop :=
  w_X0_follow_135 a0 x1 a2 a3 x4 x5 T n r Q k42 a6 a7 x8 x9 ((0 : Int32)) i w
def w_X0_follow_105 (a0 : Nat) (x1 : Int32) (a2 : Nat) (a3 : Nat) (x4 : Int32) (x5 : Int32) (T : kw_T) (n : Nat) (r : kw_R) (Q : kw_I → kw_L → Prop) (k42 : Nat → Nat → Int32 → Int32 → kw_I → kw_L → Prop) (a6 : Nat) (a7 : Nat) (x8 : Int32) (x9 : Int32) (i : kw_I) (w : kw_L) : Prop :=
  (x9 < (6 : Int32) → w_X0_follow_130 a0 x1 a2 a3 x4 x5 T n r Q k42 a6 a7 x8 x9 i w) ∧ (¬ x9 < (6 : Int32) → kw_in T 1 a3 (x9 - (6 : Int32)) ∧ (kw_in T 1 a7 (x9 - (6 : Int32)) ∧ ((¬ (i a3 ((x9 - (6 : Int32))).toNatClampNeg) = (i a7 ((x9 - (6 : Int32))).toNatClampNeg) → w_X0_follow_134 a0 x1 a2 a3 x4 x5 T n r Q k42 a6 a7 x8 x9 i w) ∧ ((i a3 ((x9 - (6 : Int32))).toNatClampNeg) = (i a7 ((x9 - (6 : Int32))).toNatClampNeg) → w_X0_follow_130 a0 x1 a2 a3 x4 x5 T n r Q k42 a6 a7 x8 x9 i w))))
def w_X0_follow_81 (a0 : Nat) (x1 : Int32) (a2 : Nat) (a3 : Nat) (x4 : Int32) (x5 : Int32) (T : kw_T) (n : Nat) (r : kw_R) (Q : kw_I → kw_L → Prop) (k42 : Nat → Nat → Int32 → Int32 → kw_I → kw_L → Prop) (a6 : Nat) (a7 : Nat) (x8 : Int32) (x9 : Int32) (i : kw_I) (w : kw_L) : Prop :=
  ((x9 - x9 / (6 : Int32) * (6 : Int32)) = 0 → w_X0_follow_105 a0 x1 a2 a3 x4 x5 T n r Q k42 a6 a7 x8 x9 i w) ∧ (¬ (x9 - x9 / (6 : Int32) * (6 : Int32)) = 0 → kw_in T 1 a3 (x9 - (1 : Int32)) ∧ (kw_in T 1 a7 (x9 - (1 : Int32)) ∧ ((¬ (i a3 ((x9 - (1 : Int32))).toNatClampNeg) = (i a7 ((x9 - (1 : Int32))).toNatClampNeg) → w_X0_follow_134 a0 x1 a2 a3 x4 x5 T n r Q k42 a6 a7 x8 x9 i w) ∧ ((i a3 ((x9 - (1 : Int32))).toNatClampNeg) = (i a7 ((x9 - (1 : Int32))).toNatClampNeg) → w_X0_follow_105 a0 x1 a2 a3 x4 x5 T n r Q k42 a6 a7 x8 x9 i w))))
def s_X0_follow_42 (a0 : Nat) (x1 : Int32) (a2 : Nat) (a3 : Nat) (x4 : Int32) (x5 : Int32) (T : kw_T) (n : Nat) (r : kw_R) (Q : kw_I → kw_L → Prop)  (k42 : Nat → Nat → Int32 → Int32 → kw_I → kw_L → Prop) (a6 : Nat) (a7 : Nat) (x8 : Int32) (x9 : Int32) (i : kw_I) (w : kw_L) : Prop :=
  ((36 : Int32) ≤ x9 → Q i w) ∧ (¬ (36 : Int32) ≤ x9 → (x8 < x9 → Q i w) ∧ (¬ x8 < x9 → kw_in T 1 a2 x9 ∧ (kw_in T 1 a6 x9 ∧ (((i a2 (x9).toNatClampNeg) = (i a6 (x9).toNatClampNeg) → w_X0_follow_81 a0 x1 a2 a3 x4 x5 T n r Q k42 a6 a7 x8 x9 i w) ∧ (¬ (i a2 (x9).toNatClampNeg) = (i a6 (x9).toNatClampNeg) → T ((r a0 1)) = (0, 2) ∧ (w_X2_sees (r a0 1) x1 x9 T n r i w (fun v75 => (¬ v75 = 0 → w_X0_follow_134 a0 x1 a2 a3 x4 x5 T n r Q k42 a6 a7 x8 x9 i w) ∧ (v75 = 0 → w_X0_follow_81 a0 x1 a2 a3 x4 x5 T n r Q k42 a6 a7 x8 x9 i w))))))))
def w_X0_follow_42 (a0 : Nat) (x1 : Int32) (a2 : Nat) (a3 : Nat) (x4 : Int32) (x5 : Int32) (T : kw_T) (n : Nat) (r : kw_R) (Q : kw_I → kw_L → Prop)  : Nat → Nat → Nat → Int32 → Int32 → kw_I → kw_L → Prop
  | 0 => fun _ _ _ _ _ _ => False
  | N + 1 => s_X0_follow_42 a0 x1 a2 a3 x4 x5 T n r Q  (w_X0_follow_42 a0 x1 a2 a3 x4 x5 T n r Q  N)
def w_X0_follow  (a0 : Nat) (x1 : Int32) (a2 : Nat) (a3 : Nat) (x4 : Int32) (x5 : Int32) (T : kw_T) (n : Nat) (r : kw_R) (i : kw_I) (w : kw_L) (Q : kw_I → kw_L → Prop) : Prop :=
  T ((r a0 0)) = (0, 5) ∧ (w_X5_picture (r a0 0) (x1 - (1 : Int32)) T n r i w (fun v7 => kw_in T 5 (r (r a0 0) 1) x1 ∧ (∀ i30 : kw_I, i30 = kw_st i a0 3 (36 : Int32) → (∀ i35 : kw_I, i35 = kw_st i30 a0 4 (-1 : Int32) → (∃ N, w_X0_follow_42 a0 x1 a2 a3 x4 x5 T n r Q  N v7 ((r (r (r a0 0) 1) (x1).toNatClampNeg)) x5 x4 i35 w)))))
abbrev rm_X0_follow : Room := { frames := 4, cells := 0, slots := 0, locals := 143 }
set_option maxHeartbeats 4000000 in
set_option maxRecDepth 100000 in
theorem q_X0_follow_207 {a0 : Nat} {x1 : Int32} {a2 : Nat} {a3 : Nat} {x4 : Int32} {x5 : Int32} {T : kw_T} {n : Nat} {r : kw_R} {Q : kw_I → kw_L → Prop} {E : kw_E} {G : kw_G} (hm : kw_m E G cX0_follow 11 RX0 none rm_X0_follow "follow")  (h0 : T a0 = (0, 0))  {k42 : Nat → Nat → Int32 → Int32 → kw_I → kw_L → Prop} (hk42 : ∀ (a6 : Nat) (a7 : Nat) (x8 : Int32) (x9 : Int32) (i : kw_I) (w : kw_L), k42 a6 a7 x8 x9 i w → kw_K E G 11 0 0 (kw_Z E G 0 0 (kw_PV (fun T' n' r' i' w' => T = T' ∧ n = n' ∧ r = r' ∧ Q i' w'))) 42 [(0, kw_a a0), (1, kw_i x1), (2, kw_a a2), (3, kw_a a3), (4, kw_i x4), (5, kw_i x5), (6, kw_a a6), (7, kw_a a7), (8, kw_i x8), (9, kw_i x9)] [] T n r i w) (a6 : Nat) (a7 : Nat) (x8 : Int32) (x9 : Int32) (i : kw_I) (w : kw_L) (h : w_X0_follow_207 a0 x1 a2 a3 x4 x5 T n r Q k42 a6 a7 x8 x9 i w) : kw_K E G 11 0 0 (kw_Z E G 0 0 (kw_PV (fun T' n' r' i' w' => T = T' ∧ n = n' ∧ r = r' ∧ Q i' w'))) 207 [(0, kw_a a0), (1, kw_i x1), (2, kw_a a2), (3, kw_a a3), (4, kw_i x4), (5, kw_i x5), (6, kw_a a6), (7, kw_a a7), (8, kw_i x8), (9, kw_i x9)] [] T n r i w := by
  refine kk_iinc (v := (x9 + (1 : Int32))) (L' := [(9, kw_i (x9 + (1 : Int32))), (0, kw_a a0), (1, kw_i x1), (2, kw_a a2), (3, kw_a a3), (4, kw_i x4), (5, kw_i x5), (6, kw_a a6), (7, kw_a a7), (8, kw_i x8)]) hm.1 9 dX0_follow_207 rfl rfl (by decide) rfl ?_
  refine kk_goto (tgt := 42) hm.1 dX0_follow_210 (by decide) ?_
  refine kk_loc (L' := [(0, kw_a a0), (1, kw_i x1), (2, kw_a a2), (3, kw_a a3), (4, kw_i x4), (5, kw_i x5), (6, kw_a a6), (7, kw_a a7), (8, kw_i x8), (9, kw_i (x9 + (1 : Int32)))]) [1, 2, 3, 4, 5, 6, 7, 8, 9, 0] rfl ?_
  exact hk42 a6 a7 x8 ((x9 + (1 : Int32))) i w h
set_option maxHeartbeats 4000000 in
set_option maxRecDepth 100000 in
theorem q_X0_follow_135 {a0 : Nat} {x1 : Int32} {a2 : Nat} {a3 : Nat} {x4 : Int32} {x5 : Int32} {T : kw_T} {n : Nat} {r : kw_R} {Q : kw_I → kw_L → Prop} {E : kw_E} {G : kw_G} (hm : kw_m E G cX0_follow 11 RX0 none rm_X0_follow "follow")  (h0 : T a0 = (0, 0))  {k42 : Nat → Nat → Int32 → Int32 → kw_I → kw_L → Prop} (hk42 : ∀ (a6 : Nat) (a7 : Nat) (x8 : Int32) (x9 : Int32) (i : kw_I) (w : kw_L), k42 a6 a7 x8 x9 i w → kw_K E G 11 0 0 (kw_Z E G 0 0 (kw_PV (fun T' n' r' i' w' => T = T' ∧ n = n' ∧ r = r' ∧ Q i' w'))) 42 [(0, kw_a a0), (1, kw_i x1), (2, kw_a a2), (3, kw_a a3), (4, kw_i x4), (5, kw_i x5), (6, kw_a a6), (7, kw_a a7), (8, kw_i x8), (9, kw_i x9)] [] T n r i w) (a6 : Nat) (a7 : Nat) (x8 : Int32) (x9 : Int32) (s0 : Int32) (i : kw_I) (w : kw_L) (h : w_X0_follow_135 a0 x1 a2 a3 x4 x5 T n r Q k42 a6 a7 x8 x9 s0 i w) : kw_K E G 11 0 0 (kw_Z E G 0 0 (kw_PV (fun T' n' r' i' w' => T = T' ∧ n = n' ∧ r = r' ∧ Q i' w'))) 135 [(0, kw_a a0), (1, kw_i x1), (2, kw_a a2), (3, kw_a a3), (4, kw_i x4), (5, kw_i x5), (6, kw_a a6), (7, kw_a a7), (8, kw_i x8), (9, kw_i x9)] [kw_i s0] T n r i w := by
  refine kk_istore (L' := [(10, kw_i s0), (0, kw_a a0), (1, kw_i x1), (2, kw_a a2), (3, kw_a a3), (4, kw_i x4), (5, kw_i x5), (6, kw_a a6), (7, kw_a a7), (8, kw_i x8), (9, kw_i x9)]) hm.1 dX0_follow_135 (by decide) rfl ?_
  refine kk_iload hm.1 0 dX0_follow_137 rfl ?_
  refine kk_if_eq (tgt := 145) hm.1 dX0_follow_139 (by decide) (fun c139 => ?_) (fun c139 => ?_)
  · have h := h.1 c139
    refine kk_aload_n hm.1 4 dX0_follow_145 rfl rfl ?_
    refine kk_iload hm.1 10 dX0_follow_146 rfl ?_
    refine kk_aload_n hm.1 1 dX0_follow_148 rfl rfl ?_
    refine kk_getR hm.1 ff_X0_57 dX0_follow_149 h0 ?_
    refine kk_iload_n hm.1 2 dX0_follow_152 rfl rfl ?_
    refine kk_iload hm.1 10 dX0_follow_153 rfl ?_
    refine kk_aload_n hm.1 3 dX0_follow_155 rfl rfl ?_
    refine kk_aload_n hm.1 4 dX0_follow_156 rfl rfl ?_
    obtain ⟨o157, h⟩ := h
    refine kk_callVi (cs' := 0) (sl' := 0) (st := [kw_i x9, kw_a a3]) hm.1 cv_X0_134 (t_X2_colourIn o157 h) dX0_follow_157 o157 rfl rfl hm.2.2.1 ⟨by decide, by decide⟩ ⟨by decide, by decide⟩ rfl rfl (Nat.le_of_ble_eq_true rfl) rfl ?_
    rintro v157 _ _ _ i157 w157 ⟨rfl, rfl, rfl, h⟩
    obtain ⟨o160, h⟩ := h
    refine kn_iastore hm.1 dX0_follow_160 o160 (fun i160 e160 => ?_)
    have h := h i160 e160
    refine kk_aload_n hm.1 4 dX0_follow_161 rfl rfl ?_
    refine kk_iload hm.1 10 dX0_follow_162 rfl ?_
    obtain ⟨o164, h⟩ := h
    refine kk_iaload hm.1 dX0_follow_164 o164 ?_
    refine kk_aload hm.1 8 dX0_follow_165 rfl ?_
    refine kk_iload hm.1 10 dX0_follow_167 rfl ?_
    obtain ⟨o169, h⟩ := h
    refine kk_iaload hm.1 dX0_follow_169 o169 ?_
    refine kk_icmp_ne (tgt := 176) hm.1 dX0_follow_170 (by decide) (fun c170 => ?_) (fun c170 => ?_)
    · have h := h.1 c170
      refine kk_aload_n hm.1 1 dX0_follow_176 rfl rfl ?_
      refine kk_aload_n hm.1 1 dX0_follow_177 rfl rfl ?_
      refine kk_getI hm.1 ff_X0_16 dX0_follow_178 h0 ?_
      refine kk_iload hm.1 10 dX0_follow_181 rfl ?_
      refine kn_mmin (st := [kw_a a0]) hm.1 wm_X0_138 wmmin_s wo_m wmmin_c dX0_follow_183 hm.2.2.1 (by decide) (Nat.le_of_ble_eq_true rfl) (by decide) (by decide) ?_
      refine kn_putI hm.1 fp_X0_16 dX0_follow_186 h0 (fun i186 e186 => ?_)
      have h := h i186 e186
      refine kk_aload_n hm.1 1 dX0_follow_189 rfl rfl ?_
      refine kk_iload hm.1 10 dX0_follow_190 rfl ?_
      refine kn_putI hm.1 fp_X0_20 dX0_follow_192 h0 (fun i192 e192 => ?_)
      have h := h i192 e192
      refine kk_iload hm.1 9 dX0_follow_195 rfl ?_
      refine kk_iload hm.1 10 dX0_follow_197 rfl ?_
      refine kk_bipush (v := (6 : Int32)) hm.1 dX0_follow_199 (by decide) ?_
      refine kk_iadd hm.1 dX0_follow_201 ?_
      refine kn_mmax (st := []) hm.1 wm_X0_120 wmmax_s wo_m wmmax_c dX0_follow_202 hm.2.2.1 (by decide) (Nat.le_of_ble_eq_true rfl) (by decide) (by decide) ?_
      refine kk_istore (L' := [(8, kw_i (if x8 < (x9 + (6 : Int32)) then (x9 + (6 : Int32)) else x8)), (10, kw_i s0), (0, kw_a a0), (1, kw_i x1), (2, kw_a a2), (3, kw_a a3), (4, kw_i x4), (5, kw_i x5), (6, kw_a a6), (7, kw_a a7), (9, kw_i x9)]) hm.1 dX0_follow_205 (by decide) rfl ?_
      refine kk_loc (L' := [(0, kw_a a0), (1, kw_i x1), (2, kw_a a2), (3, kw_a a3), (4, kw_i x4), (5, kw_i x5), (6, kw_a a6), (7, kw_a a7), (8, kw_i (if x8 < (x9 + (6 : Int32)) then (x9 + (6 : Int32)) else x8)), (9, kw_i x9)]) [2, 3, 4, 5, 6, 7, 8, 9, 0, 10] rfl ?_
      exact q_X0_follow_207 hm  h0  hk42 a6 a7 ((if x8 < (x9 + (6 : Int32)) then (x9 + (6 : Int32)) else x8)) x9 i192 w157 h
    · have h := h.2 c170
      refine kk_goto (tgt := 207) hm.1 dX0_follow_173 (by decide) ?_
      refine kk_loc (L' := [(0, kw_a a0), (1, kw_i x1), (2, kw_a a2), (3, kw_a a3), (4, kw_i x4), (5, kw_i x5), (6, kw_a a6), (7, kw_a a7), (8, kw_i x8), (9, kw_i x9)]) [1, 2, 3, 4, 5, 6, 7, 8, 9, 10] rfl ?_
      exact q_X0_follow_207 hm  h0  hk42 a6 a7 x8 x9 i160 w157 h
  · have h := h.2 c139
    refine kk_goto (tgt := 207) hm.1 dX0_follow_142 (by decide) ?_
    refine kk_loc (L' := [(0, kw_a a0), (1, kw_i x1), (2, kw_a a2), (3, kw_a a3), (4, kw_i x4), (5, kw_i x5), (6, kw_a a6), (7, kw_a a7), (8, kw_i x8), (9, kw_i x9)]) [1, 2, 3, 4, 5, 6, 7, 8, 9, 10] rfl ?_
    exact q_X0_follow_207 hm  h0  hk42 a6 a7 x8 x9 i w h
set_option maxHeartbeats 4000000 in
set_option maxRecDepth 100000 in
theorem q_X0_follow_130 {a0 : Nat} {x1 : Int32} {a2 : Nat} {a3 : Nat} {x4 : Int32} {x5 : Int32} {T : kw_T} {n : Nat} {r : kw_R} {Q : kw_I → kw_L → Prop} {E : kw_E} {G : kw_G} (hm : kw_m E G cX0_follow 11 RX0 none rm_X0_follow "follow")  (h0 : T a0 = (0, 0))  {k42 : Nat → Nat → Int32 → Int32 → kw_I → kw_L → Prop} (hk42 : ∀ (a6 : Nat) (a7 : Nat) (x8 : Int32) (x9 : Int32) (i : kw_I) (w : kw_L), k42 a6 a7 x8 x9 i w → kw_K E G 11 0 0 (kw_Z E G 0 0 (kw_PV (fun T' n' r' i' w' => T = T' ∧ n = n' ∧ r = r' ∧ Q i' w'))) 42 [(0, kw_a a0), (1, kw_i x1), (2, kw_a a2), (3, kw_a a3), (4, kw_i x4), (5, kw_i x5), (6, kw_a a6), (7, kw_a a7), (8, kw_i x8), (9, kw_i x9)] [] T n r i w) (a6 : Nat) (a7 : Nat) (x8 : Int32) (x9 : Int32) (i : kw_I) (w : kw_L) (h : w_X0_follow_130 a0 x1 a2 a3 x4 x5 T n r Q k42 a6 a7 x8 x9 i w) : kw_K E G 11 0 0 (kw_Z E G 0 0 (kw_PV (fun T' n' r' i' w' => T = T' ∧ n = n' ∧ r = r' ∧ Q i' w'))) 130 [(0, kw_a a0), (1, kw_i x1), (2, kw_a a2), (3, kw_a a3), (4, kw_i x4), (5, kw_i x5), (6, kw_a a6), (7, kw_a a7), (8, kw_i x8), (9, kw_i x9)] [] T n r i w := by
  refine kk_iconst (v := (1 : Int32)) hm.1 dX0_follow_130 (by decide) ?_
  refine kk_goto (tgt := 135) hm.1 dX0_follow_131 (by decide) ?_
  exact q_X0_follow_135 hm  h0  hk42 a6 a7 x8 x9 ((1 : Int32)) i w h
set_option maxHeartbeats 4000000 in
set_option maxRecDepth 100000 in
theorem q_X0_follow_134 {a0 : Nat} {x1 : Int32} {a2 : Nat} {a3 : Nat} {x4 : Int32} {x5 : Int32} {T : kw_T} {n : Nat} {r : kw_R} {Q : kw_I → kw_L → Prop} {E : kw_E} {G : kw_G} (hm : kw_m E G cX0_follow 11 RX0 none rm_X0_follow "follow")  (h0 : T a0 = (0, 0))  {k42 : Nat → Nat → Int32 → Int32 → kw_I → kw_L → Prop} (hk42 : ∀ (a6 : Nat) (a7 : Nat) (x8 : Int32) (x9 : Int32) (i : kw_I) (w : kw_L), k42 a6 a7 x8 x9 i w → kw_K E G 11 0 0 (kw_Z E G 0 0 (kw_PV (fun T' n' r' i' w' => T = T' ∧ n = n' ∧ r = r' ∧ Q i' w'))) 42 [(0, kw_a a0), (1, kw_i x1), (2, kw_a a2), (3, kw_a a3), (4, kw_i x4), (5, kw_i x5), (6, kw_a a6), (7, kw_a a7), (8, kw_i x8), (9, kw_i x9)] [] T n r i w) (a6 : Nat) (a7 : Nat) (x8 : Int32) (x9 : Int32) (i : kw_I) (w : kw_L) (h : w_X0_follow_134 a0 x1 a2 a3 x4 x5 T n r Q k42 a6 a7 x8 x9 i w) : kw_K E G 11 0 0 (kw_Z E G 0 0 (kw_PV (fun T' n' r' i' w' => T = T' ∧ n = n' ∧ r = r' ∧ Q i' w'))) 134 [(0, kw_a a0), (1, kw_i x1), (2, kw_a a2), (3, kw_a a3), (4, kw_i x4), (5, kw_i x5), (6, kw_a a6), (7, kw_a a7), (8, kw_i x8), (9, kw_i x9)] [] T n r i w := by
  refine kk_iconst (v := (0 : Int32)) hm.1 dX0_follow_134 (by decide) ?_
  exact q_X0_follow_135 hm  h0  hk42 a6 a7 x8 x9 ((0 : Int32)) i w h
set_option maxHeartbeats 4000000 in
set_option maxRecDepth 100000 in
theorem q_X0_follow_105 {a0 : Nat} {x1 : Int32} {a2 : Nat} {a3 : Nat} {x4 : Int32} {x5 : Int32} {T : kw_T} {n : Nat} {r : kw_R} {Q : kw_I → kw_L → Prop} {E : kw_E} {G : kw_G} (hm : kw_m E G cX0_follow 11 RX0 none rm_X0_follow "follow")  (h0 : T a0 = (0, 0))  {k42 : Nat → Nat → Int32 → Int32 → kw_I → kw_L → Prop} (hk42 : ∀ (a6 : Nat) (a7 : Nat) (x8 : Int32) (x9 : Int32) (i : kw_I) (w : kw_L), k42 a6 a7 x8 x9 i w → kw_K E G 11 0 0 (kw_Z E G 0 0 (kw_PV (fun T' n' r' i' w' => T = T' ∧ n = n' ∧ r = r' ∧ Q i' w'))) 42 [(0, kw_a a0), (1, kw_i x1), (2, kw_a a2), (3, kw_a a3), (4, kw_i x4), (5, kw_i x5), (6, kw_a a6), (7, kw_a a7), (8, kw_i x8), (9, kw_i x9)] [] T n r i w) (a6 : Nat) (a7 : Nat) (x8 : Int32) (x9 : Int32) (i : kw_I) (w : kw_L) (h : w_X0_follow_105 a0 x1 a2 a3 x4 x5 T n r Q k42 a6 a7 x8 x9 i w) : kw_K E G 11 0 0 (kw_Z E G 0 0 (kw_PV (fun T' n' r' i' w' => T = T' ∧ n = n' ∧ r = r' ∧ Q i' w'))) 105 [(0, kw_a a0), (1, kw_i x1), (2, kw_a a2), (3, kw_a a3), (4, kw_i x4), (5, kw_i x5), (6, kw_a a6), (7, kw_a a7), (8, kw_i x8), (9, kw_i x9)] [] T n r i w := by
  refine kk_iload hm.1 9 dX0_follow_105 rfl ?_
  refine kk_bipush (v := (6 : Int32)) hm.1 dX0_follow_107 (by decide) ?_
  refine kk_icmp_lt (tgt := 130) hm.1 dX0_follow_109 (by decide) (fun c109 => ?_) (fun c109 => ?_)
  · have h := h.1 c109
    exact q_X0_follow_130 hm  h0  hk42 a6 a7 x8 x9 i w h
  · have h := h.2 c109
    refine kk_aload_n hm.1 3 dX0_follow_112 rfl rfl ?_
    refine kk_iload hm.1 9 dX0_follow_113 rfl ?_
    refine kk_bipush (v := (6 : Int32)) hm.1 dX0_follow_115 (by decide) ?_
    refine kk_isub hm.1 dX0_follow_117 ?_
    obtain ⟨o118, h⟩ := h
    refine kk_iaload hm.1 dX0_follow_118 o118 ?_
    refine kk_aload hm.1 7 dX0_follow_119 rfl ?_
    refine kk_iload hm.1 9 dX0_follow_121 rfl ?_
    refine kk_bipush (v := (6 : Int32)) hm.1 dX0_follow_123 (by decide) ?_
    refine kk_isub hm.1 dX0_follow_125 ?_
    obtain ⟨o126, h⟩ := h
    refine kk_iaload hm.1 dX0_follow_126 o126 ?_
    refine kk_icmp_ne (tgt := 134) hm.1 dX0_follow_127 (by decide) (fun c127 => ?_) (fun c127 => ?_)
    · have h := h.1 c127
      exact q_X0_follow_134 hm  h0  hk42 a6 a7 x8 x9 i w h
    · have h := h.2 c127
      exact q_X0_follow_130 hm  h0  hk42 a6 a7 x8 x9 i w h
set_option maxHeartbeats 4000000 in
set_option maxRecDepth 100000 in
theorem q_X0_follow_81 {a0 : Nat} {x1 : Int32} {a2 : Nat} {a3 : Nat} {x4 : Int32} {x5 : Int32} {T : kw_T} {n : Nat} {r : kw_R} {Q : kw_I → kw_L → Prop} {E : kw_E} {G : kw_G} (hm : kw_m E G cX0_follow 11 RX0 none rm_X0_follow "follow")  (h0 : T a0 = (0, 0))  {k42 : Nat → Nat → Int32 → Int32 → kw_I → kw_L → Prop} (hk42 : ∀ (a6 : Nat) (a7 : Nat) (x8 : Int32) (x9 : Int32) (i : kw_I) (w : kw_L), k42 a6 a7 x8 x9 i w → kw_K E G 11 0 0 (kw_Z E G 0 0 (kw_PV (fun T' n' r' i' w' => T = T' ∧ n = n' ∧ r = r' ∧ Q i' w'))) 42 [(0, kw_a a0), (1, kw_i x1), (2, kw_a a2), (3, kw_a a3), (4, kw_i x4), (5, kw_i x5), (6, kw_a a6), (7, kw_a a7), (8, kw_i x8), (9, kw_i x9)] [] T n r i w) (a6 : Nat) (a7 : Nat) (x8 : Int32) (x9 : Int32) (i : kw_I) (w : kw_L) (h : w_X0_follow_81 a0 x1 a2 a3 x4 x5 T n r Q k42 a6 a7 x8 x9 i w) : kw_K E G 11 0 0 (kw_Z E G 0 0 (kw_PV (fun T' n' r' i' w' => T = T' ∧ n = n' ∧ r = r' ∧ Q i' w'))) 81 [(0, kw_a a0), (1, kw_i x1), (2, kw_a a2), (3, kw_a a3), (4, kw_i x4), (5, kw_i x5), (6, kw_a a6), (7, kw_a a7), (8, kw_i x8), (9, kw_i x9)] [] T n r i w := by
  refine kk_iload hm.1 9 dX0_follow_81 rfl ?_
  refine kk_bipush (v := (6 : Int32)) hm.1 dX0_follow_83 (by decide) ?_
  refine kk_irem hm.1 dX0_follow_85 (by decide) ?_
  refine kk_if_eq (tgt := 105) hm.1 dX0_follow_86 (by decide) (fun c86 => ?_) (fun c86 => ?_)
  · have h := h.1 c86
    exact q_X0_follow_105 hm  h0  hk42 a6 a7 x8 x9 i w h
  · have h := h.2 c86
    refine kk_aload_n hm.1 3 dX0_follow_89 rfl rfl ?_
    refine kk_iload hm.1 9 dX0_follow_90 rfl ?_
    refine kk_iconst (v := (1 : Int32)) hm.1 dX0_follow_92 (by decide) ?_
    refine kk_isub hm.1 dX0_follow_93 ?_
    obtain ⟨o94, h⟩ := h
    refine kk_iaload hm.1 dX0_follow_94 o94 ?_
    refine kk_aload hm.1 7 dX0_follow_95 rfl ?_
    refine kk_iload hm.1 9 dX0_follow_97 rfl ?_
    refine kk_iconst (v := (1 : Int32)) hm.1 dX0_follow_99 (by decide) ?_
    refine kk_isub hm.1 dX0_follow_100 ?_
    obtain ⟨o101, h⟩ := h
    refine kk_iaload hm.1 dX0_follow_101 o101 ?_
    refine kk_icmp_ne (tgt := 134) hm.1 dX0_follow_102 (by decide) (fun c102 => ?_) (fun c102 => ?_)
    · have h := h.1 c102
      exact q_X0_follow_134 hm  h0  hk42 a6 a7 x8 x9 i w h
    · have h := h.2 c102
      exact q_X0_follow_105 hm  h0  hk42 a6 a7 x8 x9 i w h
set_option maxHeartbeats 4000000 in
set_option maxRecDepth 100000 in
theorem qs_X0_follow_42 {a0 : Nat} {x1 : Int32} {a2 : Nat} {a3 : Nat} {x4 : Int32} {x5 : Int32} {T : kw_T} {n : Nat} {r : kw_R} {Q : kw_I → kw_L → Prop} {E : kw_E} {G : kw_G} (hm : kw_m E G cX0_follow 11 RX0 none rm_X0_follow "follow")  (h0 : T a0 = (0, 0))    {k42 : Nat → Nat → Int32 → Int32 → kw_I → kw_L → Prop} (hk42 : ∀ (a6 : Nat) (a7 : Nat) (x8 : Int32) (x9 : Int32) (i : kw_I) (w : kw_L), k42 a6 a7 x8 x9 i w → kw_K E G 11 0 0 (kw_Z E G 0 0 (kw_PV (fun T' n' r' i' w' => T = T' ∧ n = n' ∧ r = r' ∧ Q i' w'))) 42 [(0, kw_a a0), (1, kw_i x1), (2, kw_a a2), (3, kw_a a3), (4, kw_i x4), (5, kw_i x5), (6, kw_a a6), (7, kw_a a7), (8, kw_i x8), (9, kw_i x9)] [] T n r i w) (a6 : Nat) (a7 : Nat) (x8 : Int32) (x9 : Int32) (i : kw_I) (w : kw_L) (h : s_X0_follow_42 a0 x1 a2 a3 x4 x5 T n r Q  k42 a6 a7 x8 x9 i w) : kw_K E G 11 0 0 (kw_Z E G 0 0 (kw_PV (fun T' n' r' i' w' => T = T' ∧ n = n' ∧ r = r' ∧ Q i' w'))) 42 [(0, kw_a a0), (1, kw_i x1), (2, kw_a a2), (3, kw_a a3), (4, kw_i x4), (5, kw_i x5), (6, kw_a a6), (7, kw_a a7), (8, kw_i x8), (9, kw_i x9)] [] T n r i w := by
  refine kk_iload hm.1 9 dX0_follow_42 rfl ?_
  refine kk_bipush (v := (36 : Int32)) hm.1 dX0_follow_44 (by decide) ?_
  refine kk_icmp_ge (tgt := 213) hm.1 dX0_follow_46 (by decide) (fun c46 => ?_) (fun c46 => ?_)
  · have h := h.1 c46
    exact kk_vret hm.1 hm.2.1 dX0_follow_213 ⟨rfl, rfl, rfl, rfl, h⟩
  · have h := h.2 c46
    refine kk_iload hm.1 9 dX0_follow_49 rfl ?_
    refine kk_iload hm.1 8 dX0_follow_51 rfl ?_
    refine kk_icmp_gt (tgt := 213) hm.1 dX0_follow_53 (by decide) (fun c53 => ?_) (fun c53 => ?_)
    · have h := h.1 c53
      exact kk_vret hm.1 hm.2.1 dX0_follow_213 ⟨rfl, rfl, rfl, rfl, h⟩
    · have h := h.2 c53
      refine kk_aload_n hm.1 2 dX0_follow_56 rfl rfl ?_
      refine kk_iload hm.1 9 dX0_follow_57 rfl ?_
      obtain ⟨o59, h⟩ := h
      refine kk_iaload hm.1 dX0_follow_59 o59 ?_
      refine kk_aload hm.1 6 dX0_follow_60 rfl ?_
      refine kk_iload hm.1 9 dX0_follow_62 rfl ?_
      obtain ⟨o64, h⟩ := h
      refine kk_iaload hm.1 dX0_follow_64 o64 ?_
      refine kk_icmp_eq (tgt := 81) hm.1 dX0_follow_65 (by decide) (fun c65 => ?_) (fun c65 => ?_)
      · have h := h.1 c65
        exact q_X0_follow_81 hm  h0  hk42 a6 a7 x8 x9 i w h
      · have h := h.2 c65
        refine kk_aload_n hm.1 0 dX0_follow_68 rfl rfl ?_
        refine kk_getR hm.1 ff_X0_57 dX0_follow_69 h0 ?_
        refine kk_iload_n hm.1 1 dX0_follow_72 rfl rfl ?_
        refine kk_iload hm.1 9 dX0_follow_73 rfl ?_
        obtain ⟨o75, h⟩ := h
        refine kk_callVi (cs' := 0) (sl' := 0) (st := []) hm.1 cv_X0_130 (t_X2_sees o75 h) dX0_follow_75 o75 rfl rfl hm.2.2.1 ⟨by decide, by decide⟩ ⟨by decide, by decide⟩ rfl rfl (Nat.le_of_ble_eq_true rfl) rfl ?_
        rintro v75 _ _ _ _ _ ⟨rfl, rfl, rfl, rfl, rfl, h⟩
        refine kk_if_ne (tgt := 134) hm.1 dX0_follow_78 (by decide) (fun c78 => ?_) (fun c78 => ?_)
        · have h := h.1 c78
          exact q_X0_follow_134 hm  h0  hk42 a6 a7 x8 x9 i w h
        · have h := h.2 c78
          exact q_X0_follow_81 hm  h0  hk42 a6 a7 x8 x9 i w h
set_option maxHeartbeats 4000000 in
set_option maxRecDepth 100000 in
theorem q_X0_follow_42 {a0 : Nat} {x1 : Int32} {a2 : Nat} {a3 : Nat} {x4 : Int32} {x5 : Int32} {T : kw_T} {n : Nat} {r : kw_R} {Q : kw_I → kw_L → Prop} {E : kw_E} {G : kw_G} (hm : kw_m E G cX0_follow 11 RX0 none rm_X0_follow "follow")  (h0 : T a0 = (0, 0))    : ∀ (N : Nat) (a6 : Nat) (a7 : Nat) (x8 : Int32) (x9 : Int32) (i : kw_I) (w : kw_L), w_X0_follow_42 a0 x1 a2 a3 x4 x5 T n r Q  N a6 a7 x8 x9 i w → kw_K E G 11 0 0 (kw_Z E G 0 0 (kw_PV (fun T' n' r' i' w' => T = T' ∧ n = n' ∧ r = r' ∧ Q i' w'))) 42 [(0, kw_a a0), (1, kw_i x1), (2, kw_a a2), (3, kw_a a3), (4, kw_i x4), (5, kw_i x5), (6, kw_a a6), (7, kw_a a7), (8, kw_i x8), (9, kw_i x9)] [] T n r i w := by
  intro N
  induction N with
  | zero => intro a6 a7 x8 x9 i w h; exact h.elim
  | succ N ih => intro a6 a7 x8 x9 i w h; exact qs_X0_follow_42 hm  h0  ih a6 a7 x8 x9 i w h
set_option maxHeartbeats 4000000 in
set_option maxRecDepth 100000 in
theorem t_X0_follow {l : Launch} {G : kw_G} {a0 : Nat} {x1 : Int32} {a2 : Nat} {a3 : Nat} {x4 : Int32} {x5 : Int32} {T : kw_T} {n : Nat} {r : kw_R} {i : kw_I} {w : kw_L} {Q : kw_I → kw_L → Prop} (h0 : T a0 = (0, 0)) (h : w_X0_follow a0 x1 a2 a3 x4 x5 T n r i w Q) : kw_Met l G yX0_follow cX0_follow 11 none rm_X0_follow [kw_a a0, kw_i x1, kw_a a2, kw_a a3, kw_i x4, kw_i x5] (T, n, r, i, w) (kw_PV (fun T' n' r' i' w' => T = T' ∧ n = n' ∧ r = r' ∧ Q i' w')) := by
  refine kw_Met.of (by decide) (Nat.le_of_ble_eq_true rfl) fun E hl hRm hE hT hnm => ?_
  have hm : kw_m E G cX0_follow 11 RX0 none rm_X0_follow "follow" := ⟨hE, hT, hRm, hnm⟩
  subst hl
  show kw_K E G 11 0 0 (kw_Z E G 0 0 (kw_PV (fun T' n' r' i' w' => T = T' ∧ n = n' ∧ r = r' ∧ Q i' w'))) 0 [(0, kw_a a0), (1, kw_i x1), (2, kw_a a2), (3, kw_a a3), (4, kw_i x4), (5, kw_i x5)] [] T n r i w
  refine kk_aload_n hm.1 0 dX0_follow_0 rfl rfl ?_
  refine kk_getR hm.1 ff_X0_47 dX0_follow_1 h0 ?_
  refine kk_iload_n hm.1 1 dX0_follow_4 rfl rfl ?_
  refine kk_iconst (v := (1 : Int32)) hm.1 dX0_follow_5 (by decide) ?_
  refine kk_isub hm.1 dX0_follow_6 ?_
  obtain ⟨o7, h⟩ := h
  refine kk_callVa (cs' := 0) (sl' := 0) (st := []) hm.1 cv_X0_58 (t_X5_picture o7 h) dX0_follow_7 o7 rfl rfl hm.2.2.1 ⟨by decide, by decide⟩ ⟨by decide, by decide⟩ rfl rfl (Nat.le_of_ble_eq_true rfl) rfl ?_
  rintro v7 _ _ _ _ _ ⟨rfl, rfl, rfl, rfl, rfl, h⟩
  refine kk_astore (L' := [(6, kw_a v7), (0, kw_a a0), (1, kw_i x1), (2, kw_a a2), (3, kw_a a3), (4, kw_i x4), (5, kw_i x5)]) hm.1 dX0_follow_10 (by decide) rfl ?_
  refine kk_aload_n hm.1 1 dX0_follow_12 rfl rfl ?_
  refine kk_getR hm.1 ff_X0_47 dX0_follow_13 h0 ?_
  refine kk_getR hm.1 ff_X0_102 dX0_follow_16 o7 ?_
  refine kk_iload_n hm.1 2 dX0_follow_19 rfl rfl ?_
  obtain ⟨o20, h⟩ := h
  refine kk_aaload hm.1 5 (by decide) (by decide) rfl rfl dX0_follow_20 o20 ?_
  refine kk_astore (L' := [(7, kw_a (r (r (r a0 0) 1) (x1).toNatClampNeg)), (6, kw_a v7), (0, kw_a a0), (1, kw_i x1), (2, kw_a a2), (3, kw_a a3), (4, kw_i x4), (5, kw_i x5)]) hm.1 dX0_follow_21 (by decide) rfl ?_
  refine kk_iload hm.1 7 dX0_follow_23 rfl ?_
  refine kk_istore (L' := [(8, kw_i x5), (7, kw_a (r (r (r a0 0) 1) (x1).toNatClampNeg)), (6, kw_a v7), (0, kw_a a0), (1, kw_i x1), (2, kw_a a2), (3, kw_a a3), (4, kw_i x4), (5, kw_i x5)]) hm.1 dX0_follow_25 (by decide) rfl ?_
  refine kk_aload_n hm.1 3 dX0_follow_27 rfl rfl ?_
  refine kk_bipush (v := (36 : Int32)) hm.1 dX0_follow_28 (by decide) ?_
  refine kn_putI hm.1 fp_X0_16 dX0_follow_30 h0 (fun i30 e30 => ?_)
  have h := h i30 e30
  refine kk_aload_n hm.1 3 dX0_follow_33 rfl rfl ?_
  refine kk_iconst (v := (-1 : Int32)) hm.1 dX0_follow_34 (by decide) ?_
  refine kn_putI hm.1 fp_X0_20 dX0_follow_35 h0 (fun i35 e35 => ?_)
  have h := h i35 e35
  refine kk_iload hm.1 7 dX0_follow_38 rfl ?_
  refine kk_istore (L' := [(9, kw_i x4), (8, kw_i x5), (7, kw_a (r (r (r a0 0) 1) (x1).toNatClampNeg)), (6, kw_a v7), (0, kw_a a0), (1, kw_i x1), (2, kw_a a2), (3, kw_a a3), (4, kw_i x4), (5, kw_i x5)]) hm.1 dX0_follow_40 (by decide) rfl ?_
  refine kk_loc (L' := [(0, kw_a a0), (1, kw_i x1), (2, kw_a a2), (3, kw_a a3), (4, kw_i x4), (5, kw_i x5), (6, kw_a v7), (7, kw_a (r (r (r a0 0) 1) (x1).toNatClampNeg)), (8, kw_i x5), (9, kw_i x4)]) [4, 5, 6, 7, 8, 9, 3, 2, 1, 0] rfl ?_
  obtain ⟨N, h⟩ := h
  exact q_X0_follow_42 hm  h0   N v7 ((r (r (r a0 0) 1) (x1).toNatClampNeg)) x5 x4 i35 w h
def s_X2_weave_3 (a0 : Nat) (x1 : Int32) (a2 : Nat) (a3 : Nat) (T : kw_T) (n : Nat) (r : kw_R) (Q : kw_I → kw_L → Prop)  (k3 : Int32 → kw_I → kw_L → Prop) (x4 : Int32) (i : kw_I) (w : kw_L) : Prop :=
  ((36 : Int32) ≤ x4 → Q i w) ∧ (¬ (36 : Int32) ≤ x4 → w_X2_colourIn a0 x1 x4 a2 a3 T n r i w (fun v19 i19 w19 => kw_in T 1 a3 x4 ∧ (∀ i22 : kw_I, i22 = kw_st i19 a3 (x4).toNatClampNeg v19 → (k3 ((x4 + (1 : Int32))) i22 w19))))
def w_X2_weave_3 (a0 : Nat) (x1 : Int32) (a2 : Nat) (a3 : Nat) (T : kw_T) (n : Nat) (r : kw_R) (Q : kw_I → kw_L → Prop)  : Nat → Int32 → kw_I → kw_L → Prop
  | 0 => fun _ _ _ => False
  | N + 1 => s_X2_weave_3 a0 x1 a2 a3 T n r Q  (w_X2_weave_3 a0 x1 a2 a3 T n r Q  N)
def w_X2_weave  (a0 : Nat) (x1 : Int32) (a2 : Nat) (a3 : Nat) (T : kw_T) (n : Nat) (r : kw_R) (i : kw_I) (w : kw_L) (Q : kw_I → kw_L → Prop) : Prop :=
  ∃ N, w_X2_weave_3 a0 x1 a2 a3 T n r Q  N ((0 : Int32)) i w
abbrev rm_X2_weave : Room := { frames := 4, cells := 0, slots := 0, locals := 143 }
set_option maxHeartbeats 4000000 in
set_option maxRecDepth 100000 in
theorem qs_X2_weave_3 {a0 : Nat} {x1 : Int32} {a2 : Nat} {a3 : Nat} {T : kw_T} {n : Nat} {r : kw_R} {Q : kw_I → kw_L → Prop} {E : kw_E} {G : kw_G} (hm : kw_m E G cX2_weave 5 RX2 none rm_X2_weave "weave")  (h0 : T a0 = (0, 2))    {k3 : Int32 → kw_I → kw_L → Prop} (hk3 : ∀ (x4 : Int32) (i : kw_I) (w : kw_L), k3 x4 i w → kw_K E G 5 0 0 (kw_Z E G 0 0 (kw_PV (fun T' n' r' i' w' => T = T' ∧ n = n' ∧ r = r' ∧ Q i' w'))) 3 [(0, kw_a a0), (1, kw_i x1), (2, kw_a a2), (3, kw_a a3), (4, kw_i x4)] [] T n r i w) (x4 : Int32) (i : kw_I) (w : kw_L) (h : s_X2_weave_3 a0 x1 a2 a3 T n r Q  k3 x4 i w) : kw_K E G 5 0 0 (kw_Z E G 0 0 (kw_PV (fun T' n' r' i' w' => T = T' ∧ n = n' ∧ r = r' ∧ Q i' w'))) 3 [(0, kw_a a0), (1, kw_i x1), (2, kw_a a2), (3, kw_a a3), (4, kw_i x4)] [] T n r i w := by
  refine kk_iload hm.1 4 dX2_weave_3 rfl ?_
  refine kk_bipush (v := (36 : Int32)) hm.1 dX2_weave_5 (by decide) ?_
  refine kk_icmp_ge (tgt := 29) hm.1 dX2_weave_7 (by decide) (fun c7 => ?_) (fun c7 => ?_)
  · have h := h.1 c7
    exact kk_vret hm.1 hm.2.1 dX2_weave_29 ⟨rfl, rfl, rfl, rfl, h⟩
  · have h := h.2 c7
    refine kk_aload_n hm.1 3 dX2_weave_10 rfl rfl ?_
    refine kk_iload hm.1 4 dX2_weave_11 rfl ?_
    refine kk_aload_n hm.1 0 dX2_weave_13 rfl rfl ?_
    refine kk_iload_n hm.1 1 dX2_weave_14 rfl rfl ?_
    refine kk_iload hm.1 4 dX2_weave_15 rfl ?_
    refine kk_aload_n hm.1 2 dX2_weave_17 rfl rfl ?_
    refine kk_aload_n hm.1 3 dX2_weave_18 rfl rfl ?_
    refine kk_callVi (cs' := 0) (sl' := 0) (st := [kw_i x4, kw_a a3]) hm.1 cv_X2_53 (t_X2_colourIn h0 h) dX2_weave_19 h0 rfl rfl hm.2.2.1 ⟨by decide, by decide⟩ ⟨by decide, by decide⟩ rfl rfl (Nat.le_of_ble_eq_true rfl) rfl ?_
    rintro v19 _ _ _ i19 w19 ⟨rfl, rfl, rfl, h⟩
    obtain ⟨o22, h⟩ := h
    refine kn_iastore hm.1 dX2_weave_22 o22 (fun i22 e22 => ?_)
    have h := h i22 e22
    refine kk_iinc (v := (x4 + (1 : Int32))) (L' := [(4, kw_i (x4 + (1 : Int32))), (0, kw_a a0), (1, kw_i x1), (2, kw_a a2), (3, kw_a a3)]) hm.1 4 dX2_weave_23 rfl rfl (by decide) rfl ?_
    refine kk_goto (tgt := 3) hm.1 dX2_weave_26 (by decide) ?_
    refine kk_loc (L' := [(0, kw_a a0), (1, kw_i x1), (2, kw_a a2), (3, kw_a a3), (4, kw_i (x4 + (1 : Int32)))]) [1, 2, 3, 4, 0] rfl ?_
    exact hk3 ((x4 + (1 : Int32))) i22 w19 h
set_option maxHeartbeats 4000000 in
set_option maxRecDepth 100000 in
theorem q_X2_weave_3 {a0 : Nat} {x1 : Int32} {a2 : Nat} {a3 : Nat} {T : kw_T} {n : Nat} {r : kw_R} {Q : kw_I → kw_L → Prop} {E : kw_E} {G : kw_G} (hm : kw_m E G cX2_weave 5 RX2 none rm_X2_weave "weave")  (h0 : T a0 = (0, 2))    : ∀ (N : Nat) (x4 : Int32) (i : kw_I) (w : kw_L), w_X2_weave_3 a0 x1 a2 a3 T n r Q  N x4 i w → kw_K E G 5 0 0 (kw_Z E G 0 0 (kw_PV (fun T' n' r' i' w' => T = T' ∧ n = n' ∧ r = r' ∧ Q i' w'))) 3 [(0, kw_a a0), (1, kw_i x1), (2, kw_a a2), (3, kw_a a3), (4, kw_i x4)] [] T n r i w := by
  intro N
  induction N with
  | zero => intro x4 i w h; exact h.elim
  | succ N ih => intro x4 i w h; exact qs_X2_weave_3 hm  h0  ih x4 i w h
set_option maxHeartbeats 4000000 in
set_option maxRecDepth 100000 in
theorem t_X2_weave {l : Launch} {G : kw_G} {a0 : Nat} {x1 : Int32} {a2 : Nat} {a3 : Nat} {T : kw_T} {n : Nat} {r : kw_R} {i : kw_I} {w : kw_L} {Q : kw_I → kw_L → Prop} (h0 : T a0 = (0, 2)) (h : w_X2_weave a0 x1 a2 a3 T n r i w Q) : kw_Met l G yX2_weave cX2_weave 5 none rm_X2_weave [kw_a a0, kw_i x1, kw_a a2, kw_a a3] (T, n, r, i, w) (kw_PV (fun T' n' r' i' w' => T = T' ∧ n = n' ∧ r = r' ∧ Q i' w')) := by
  refine kw_Met.of (by decide) (Nat.le_of_ble_eq_true rfl) fun E hl hRm hE hT hnm => ?_
  have hm : kw_m E G cX2_weave 5 RX2 none rm_X2_weave "weave" := ⟨hE, hT, hRm, hnm⟩
  subst hl
  show kw_K E G 5 0 0 (kw_Z E G 0 0 (kw_PV (fun T' n' r' i' w' => T = T' ∧ n = n' ∧ r = r' ∧ Q i' w'))) 0 [(0, kw_a a0), (1, kw_i x1), (2, kw_a a2), (3, kw_a a3)] [] T n r i w
  refine kk_iconst (v := (0 : Int32)) hm.1 dX2_weave_0 (by decide) ?_
  refine kk_istore (L' := [(4, kw_i (0 : Int32)), (0, kw_a a0), (1, kw_i x1), (2, kw_a a2), (3, kw_a a3)]) hm.1 dX2_weave_1 (by decide) rfl ?_
  refine kk_loc (L' := [(0, kw_a a0), (1, kw_i x1), (2, kw_a a2), (3, kw_a a3), (4, kw_i (0 : Int32))]) [1, 2, 3, 4, 0] rfl ?_
  obtain ⟨N, h⟩ := h
  exact q_X2_weave_3 hm  h0   N ((0 : Int32)) i w h
def w_X0_endFrom_136 (a0 : Nat) (x1 : Int32) (a2 : Nat) (x3 : Int32) (T : kw_T) (n : Nat) (r : kw_R) (Q : Nat → kw_I → kw_L → Prop) (k6 : Nat → Int32 → kw_I → kw_L → Prop) (a4 : Nat) (x5 : Int32) (i : kw_I) (w : kw_L) : Prop :=
  k6 a4 ((x5 + (1 : Int32))) i w
def s_X0_endFrom_6 (a0 : Nat) (x1 : Int32) (a2 : Nat) (x3 : Int32) (T : kw_T) (n : Nat) (r : kw_R) (Q : Nat → kw_I → kw_L → Prop)  (k6 : Nat → Int32 → kw_I → kw_L → Prop) (a4 : Nat) (x5 : Int32) (i : kw_I) (w : kw_L) : Prop :=
  T ((r a0 1)) = (0, 2) ∧ (((i (r a0 1) 5) ≤ x5 → Q a4 i w) ∧ (¬ (i (r a0 1) 5) ≤ x5 → kw_in T 5 (r a0 2) (x5 &&& (1 : Int32)) ∧ ((((x3 >>> (x5 &&& 31)) &&& (1 : Int32)) = 0 → ((i a0 3) ≤ (i a0 4) → T ((r a0 0)) = (0, 5) ∧ (kw_in T 5 (r (r a0 0) 1) x5 ∧ (kw_cpo T (r (r (r a0 0) 1) (x5).toNatClampNeg) (r (r a0 2) ((x5 &&& (1 : Int32))).toNatClampNeg) (0 : Int32) (0 : Int32) (36 : Int32) ∧ (∀ i111 : kw_I, i111 = kw_cpy i (r (r (r a0 0) 1) (x5).toNatClampNeg) (r (r a0 2) ((x5 &&& (1 : Int32))).toNatClampNeg) ((0 : Int32)).toNatClampNeg ((0 : Int32)).toNatClampNeg ((36 : Int32)).toNatClampNeg → (w_X0_follow a0 x5 a4 (r (r a0 2) ((x5 &&& (1 : Int32))).toNatClampNeg) (i111 a0 3) (i111 a0 4) T n r i111 w (fun i129 w129 => w_X0_endFrom_136 a0 x1 a2 x3 T n r Q k6 ((r (r a0 2) ((x5 &&& (1 : Int32))).toNatClampNeg)) x5 i129 w129)))))) ∧ (¬ (i a0 3) ≤ (i a0 4) → T ((r a0 0)) = (0, 5) ∧ (kw_in T 5 (r (r a0 0) 1) x5 ∧ (w_X0_endFrom_136 a0 x1 a2 x3 T n r Q k6 ((r (r (r a0 0) 1) (x5).toNatClampNeg)) x5 i w)))) ∧ (¬ ((x3 >>> (x5 &&& 31)) &&& (1 : Int32)) = 0 → w_X2_weave (r a0 1) x5 a4 (r (r a0 2) ((x5 &&& (1 : Int32))).toNatClampNeg) T n r i w (fun i48 w48 => ∀ i53 : kw_I, i53 = kw_st i48 a0 3 (0 : Int32) → (∀ i59 : kw_I, i59 = kw_st i53 a0 4 (35 : Int32) → (w_X0_endFrom_136 a0 x1 a2 x3 T n r Q k6 ((r (r a0 2) ((x5 &&& (1 : Int32))).toNatClampNeg)) x5 i59 w48)))))))
def w_X0_endFrom_6 (a0 : Nat) (x1 : Int32) (a2 : Nat) (x3 : Int32) (T : kw_T) (n : Nat) (r : kw_R) (Q : Nat → kw_I → kw_L → Prop)  : Nat → Nat → Int32 → kw_I → kw_L → Prop
  | 0 => fun _ _ _ _ => False
  | N + 1 => s_X0_endFrom_6 a0 x1 a2 x3 T n r Q  (w_X0_endFrom_6 a0 x1 a2 x3 T n r Q  N)
def w_X0_endFrom  (a0 : Nat) (x1 : Int32) (a2 : Nat) (x3 : Int32) (T : kw_T) (n : Nat) (r : kw_R) (i : kw_I) (w : kw_L) (Q : Nat → kw_I → kw_L → Prop) : Prop :=
  ∃ N, w_X0_endFrom_6 a0 x1 a2 x3 T n r Q  N a2 x1 i w
abbrev rm_X0_endFrom : Room := { frames := 5, cells := 0, slots := 0, locals := 173 }
set_option maxHeartbeats 4000000 in
set_option maxRecDepth 100000 in
theorem q_X0_endFrom_136 {a0 : Nat} {x1 : Int32} {a2 : Nat} {x3 : Int32} {T : kw_T} {n : Nat} {r : kw_R} {Q : Nat → kw_I → kw_L → Prop} {E : kw_E} {G : kw_G} (hm : kw_m E G cX0_endFrom 7 RX0 (some (.array .int)) rm_X0_endFrom "endFrom")  (h0 : T a0 = (0, 0))  {k6 : Nat → Int32 → kw_I → kw_L → Prop} (hk6 : ∀ (a4 : Nat) (x5 : Int32) (i : kw_I) (w : kw_L), k6 a4 x5 i w → kw_K E G 7 0 0 (kw_Z E G 0 0 (kw_PA (fun v T' n' r' i' w' => T = T' ∧ n = n' ∧ r = r' ∧ Q v i' w'))) 6 [(0, kw_a a0), (1, kw_i x1), (2, kw_a a2), (3, kw_i x3), (4, kw_a a4), (5, kw_i x5)] [] T n r i w) (a4 : Nat) (x5 : Int32) (i : kw_I) (w : kw_L) (h : w_X0_endFrom_136 a0 x1 a2 x3 T n r Q k6 a4 x5 i w) : kw_K E G 7 0 0 (kw_Z E G 0 0 (kw_PA (fun v T' n' r' i' w' => T = T' ∧ n = n' ∧ r = r' ∧ Q v i' w'))) 136 [(0, kw_a a0), (1, kw_i x1), (2, kw_a a2), (3, kw_i x3), (4, kw_a a4), (5, kw_i x5)] [] T n r i w := by
  refine kk_iinc (v := (x5 + (1 : Int32))) (L' := [(5, kw_i (x5 + (1 : Int32))), (0, kw_a a0), (1, kw_i x1), (2, kw_a a2), (3, kw_i x3), (4, kw_a a4)]) hm.1 5 dX0_endFrom_136 rfl rfl (by decide) rfl ?_
  refine kk_goto (tgt := 6) hm.1 dX0_endFrom_139 (by decide) ?_
  refine kk_loc (L' := [(0, kw_a a0), (1, kw_i x1), (2, kw_a a2), (3, kw_i x3), (4, kw_a a4), (5, kw_i (x5 + (1 : Int32)))]) [1, 2, 3, 4, 5, 0] rfl ?_
  exact hk6 a4 ((x5 + (1 : Int32))) i w h
set_option maxHeartbeats 4000000 in
set_option maxRecDepth 100000 in
theorem qs_X0_endFrom_6 {a0 : Nat} {x1 : Int32} {a2 : Nat} {x3 : Int32} {T : kw_T} {n : Nat} {r : kw_R} {Q : Nat → kw_I → kw_L → Prop} {E : kw_E} {G : kw_G} (hm : kw_m E G cX0_endFrom 7 RX0 (some (.array .int)) rm_X0_endFrom "endFrom")  (h0 : T a0 = (0, 0))    {k6 : Nat → Int32 → kw_I → kw_L → Prop} (hk6 : ∀ (a4 : Nat) (x5 : Int32) (i : kw_I) (w : kw_L), k6 a4 x5 i w → kw_K E G 7 0 0 (kw_Z E G 0 0 (kw_PA (fun v T' n' r' i' w' => T = T' ∧ n = n' ∧ r = r' ∧ Q v i' w'))) 6 [(0, kw_a a0), (1, kw_i x1), (2, kw_a a2), (3, kw_i x3), (4, kw_a a4), (5, kw_i x5)] [] T n r i w) (a4 : Nat) (x5 : Int32) (i : kw_I) (w : kw_L) (h : s_X0_endFrom_6 a0 x1 a2 x3 T n r Q  k6 a4 x5 i w) : kw_K E G 7 0 0 (kw_Z E G 0 0 (kw_PA (fun v T' n' r' i' w' => T = T' ∧ n = n' ∧ r = r' ∧ Q v i' w'))) 6 [(0, kw_a a0), (1, kw_i x1), (2, kw_a a2), (3, kw_i x3), (4, kw_a a4), (5, kw_i x5)] [] T n r i w := by
  refine kk_iload hm.1 5 dX0_endFrom_6 rfl ?_
  refine kk_aload_n hm.1 0 dX0_endFrom_8 rfl rfl ?_
  refine kk_getR hm.1 ff_X0_57 dX0_endFrom_9 h0 ?_
  obtain ⟨o12, h⟩ := h
  refine kk_getI hm.1 ff_X0_76 dX0_endFrom_12 o12 ?_
  refine kk_icmp_ge (tgt := 142) hm.1 dX0_endFrom_15 (by decide) (fun c15 => ?_) (fun c15 => ?_)
  · have h := h.1 c15
    refine kk_aload hm.1 4 dX0_endFrom_142 rfl ?_
    exact kk_aret hm.1 hm.2.1 (by first | exact Or.inl ⟨_, rfl⟩ | exact Or.inr ⟨_, rfl⟩) dX0_endFrom_144 ⟨_, rfl, rfl, rfl, rfl, h⟩
  · have h := h.2 c15
    refine kk_aload_n hm.1 0 dX0_endFrom_18 rfl rfl ?_
    refine kk_getR hm.1 ff_X0_11 dX0_endFrom_19 h0 ?_
    refine kk_iload hm.1 5 dX0_endFrom_22 rfl ?_
    refine kk_iconst (v := (1 : Int32)) hm.1 dX0_endFrom_24 (by decide) ?_
    refine kk_iand hm.1 dX0_endFrom_25 ?_
    obtain ⟨o26, h⟩ := h
    refine kk_aaload hm.1 5 (by decide) (by decide) rfl rfl dX0_endFrom_26 o26 ?_
    refine kk_astore (L' := [(6, kw_a (r (r a0 2) ((x5 &&& (1 : Int32))).toNatClampNeg)), (0, kw_a a0), (1, kw_i x1), (2, kw_a a2), (3, kw_i x3), (4, kw_a a4), (5, kw_i x5)]) hm.1 dX0_endFrom_27 (by decide) rfl ?_
    refine kk_iload_n hm.1 4 dX0_endFrom_29 rfl rfl ?_
    refine kk_iload hm.1 6 dX0_endFrom_30 rfl ?_
    refine kk_ishr hm.1 dX0_endFrom_32 ?_
    refine kk_iconst (v := (1 : Int32)) hm.1 dX0_endFrom_33 (by decide) ?_
    refine kk_iand hm.1 dX0_endFrom_34 ?_
    refine kk_if_eq (tgt := 69) hm.1 dX0_endFrom_35 (by decide) (fun c35 => ?_) (fun c35 => ?_)
    · have h := h.1 c35
      refine kk_aload_n hm.1 1 dX0_endFrom_69 rfl rfl ?_
      refine kk_getI hm.1 ff_X0_20 dX0_endFrom_70 h0 ?_
      refine kk_aload_n hm.1 1 dX0_endFrom_73 rfl rfl ?_
      refine kk_getI hm.1 ff_X0_16 dX0_endFrom_74 h0 ?_
      refine kk_icmp_ge (tgt := 95) hm.1 dX0_endFrom_77 (by decide) (fun c77 => ?_) (fun c77 => ?_)
      · have h := h.1 c77
        refine kk_aload_n hm.1 1 dX0_endFrom_95 rfl rfl ?_
        refine kk_getR hm.1 ff_X0_47 dX0_endFrom_96 h0 ?_
        obtain ⟨o99, h⟩ := h
        refine kk_getR hm.1 ff_X0_102 dX0_endFrom_99 o99 ?_
        refine kk_iload hm.1 6 dX0_endFrom_102 rfl ?_
        obtain ⟨o104, h⟩ := h
        refine kk_aaload hm.1 5 (by decide) (by decide) rfl rfl dX0_endFrom_104 o104 ?_
        refine kk_iconst (v := (0 : Int32)) hm.1 dX0_endFrom_105 (by decide) ?_
        refine kk_aload hm.1 0 dX0_endFrom_106 rfl ?_
        refine kk_iconst (v := (0 : Int32)) hm.1 dX0_endFrom_108 (by decide) ?_
        refine kk_bipush (v := (36 : Int32)) hm.1 dX0_endFrom_109 (by decide) ?_
        obtain ⟨o111, h⟩ := h
        refine kn_copy (st := []) hm.1 wm_X0_62 wcp_n wcp_s wcp_i dX0_endFrom_111 hm.2.2.1 (by decide) (by show _ + (_ + 11) ≤ _; exact Nat.le_of_ble_eq_true rfl) o111 (fun i111 e111 => ?_)
        have h := h i111 e111
        refine kk_aload_n hm.1 1 dX0_endFrom_114 rfl rfl ?_
        refine kk_iload hm.1 6 dX0_endFrom_115 rfl ?_
        refine kk_aload hm.1 5 dX0_endFrom_117 rfl ?_
        refine kk_aload hm.1 0 dX0_endFrom_119 rfl ?_
        refine kk_aload_n hm.1 1 dX0_endFrom_121 rfl rfl ?_
        refine kk_getI hm.1 ff_X0_16 dX0_endFrom_122 h0 ?_
        refine kk_aload_n hm.1 1 dX0_endFrom_125 rfl rfl ?_
        refine kk_getI hm.1 ff_X0_20 dX0_endFrom_126 h0 ?_
        refine kk_callVv (cs' := 0) (sl' := 0) (st := []) hm.1 cv_X0_116 (t_X0_follow h0 h) dX0_endFrom_129 h0 rfl rfl hm.2.2.1 ⟨by decide, by decide⟩ ⟨by decide, by decide⟩ rfl rfl (Nat.le_of_ble_eq_true rfl) rfl ?_
        rintro _ _ _ i129 w129 ⟨rfl, rfl, rfl, h⟩
        refine kk_aload hm.1 0 dX0_endFrom_132 rfl ?_
        refine kk_astore (L' := [(4, kw_a (r (r a0 2) ((x5 &&& (1 : Int32))).toNatClampNeg)), (6, kw_a (r (r a0 2) ((x5 &&& (1 : Int32))).toNatClampNeg)), (0, kw_a a0), (1, kw_i x1), (2, kw_a a2), (3, kw_i x3), (5, kw_i x5)]) hm.1 dX0_endFrom_134 (by decide) rfl ?_
        refine kk_loc (L' := [(0, kw_a a0), (1, kw_i x1), (2, kw_a a2), (3, kw_i x3), (4, kw_a (r (r a0 2) ((x5 &&& (1 : Int32))).toNatClampNeg)), (5, kw_i x5)]) [2, 3, 4, 5, 0, 6] rfl ?_
        exact q_X0_endFrom_136 hm  h0  hk6 ((r (r a0 2) ((x5 &&& (1 : Int32))).toNatClampNeg)) x5 i129 w129 h
      · have h := h.2 c77
        refine kk_aload_n hm.1 1 dX0_endFrom_80 rfl rfl ?_
        refine kk_getR hm.1 ff_X0_47 dX0_endFrom_81 h0 ?_
        obtain ⟨o84, h⟩ := h
        refine kk_getR hm.1 ff_X0_102 dX0_endFrom_84 o84 ?_
        refine kk_iload hm.1 6 dX0_endFrom_87 rfl ?_
        obtain ⟨o89, h⟩ := h
        refine kk_aaload hm.1 5 (by decide) (by decide) rfl rfl dX0_endFrom_89 o89 ?_
        refine kk_astore (L' := [(4, kw_a (r (r (r a0 0) 1) (x5).toNatClampNeg)), (6, kw_a (r (r a0 2) ((x5 &&& (1 : Int32))).toNatClampNeg)), (0, kw_a a0), (1, kw_i x1), (2, kw_a a2), (3, kw_i x3), (5, kw_i x5)]) hm.1 dX0_endFrom_90 (by decide) rfl ?_
        refine kk_goto (tgt := 136) hm.1 dX0_endFrom_92 (by decide) ?_
        refine kk_loc (L' := [(0, kw_a a0), (1, kw_i x1), (2, kw_a a2), (3, kw_i x3), (4, kw_a (r (r (r a0 0) 1) (x5).toNatClampNeg)), (5, kw_i x5)]) [2, 3, 4, 5, 0, 6] rfl ?_
        exact q_X0_endFrom_136 hm  h0  hk6 ((r (r (r a0 0) 1) (x5).toNatClampNeg)) x5 i w h
    · have h := h.2 c35
      refine kk_aload_n hm.1 1 dX0_endFrom_38 rfl rfl ?_
      refine kk_getR hm.1 ff_X0_57 dX0_endFrom_39 h0 ?_
      refine kk_iload hm.1 6 dX0_endFrom_42 rfl ?_
      refine kk_aload hm.1 5 dX0_endFrom_44 rfl ?_
      refine kk_aload hm.1 0 dX0_endFrom_46 rfl ?_
      refine kk_callVv (cs' := 0) (sl' := 0) (st := []) hm.1 cv_X0_126 (t_X2_weave o12 h) dX0_endFrom_48 o12 rfl rfl hm.2.2.1 ⟨by decide, by decide⟩ ⟨by decide, by decide⟩ rfl rfl (Nat.le_of_ble_eq_true rfl) rfl ?_
      rintro _ _ _ i48 w48 ⟨rfl, rfl, rfl, h⟩
      refine kk_aload_n hm.1 1 dX0_endFrom_51 rfl rfl ?_
      refine kk_iconst (v := (0 : Int32)) hm.1 dX0_endFrom_52 (by decide) ?_
      refine kn_putI hm.1 fp_X0_16 dX0_endFrom_53 h0 (fun i53 e53 => ?_)
      have h := h i53 e53
      refine kk_aload_n hm.1 1 dX0_endFrom_56 rfl rfl ?_
      refine kk_bipush (v := (35 : Int32)) hm.1 dX0_endFrom_57 (by decide) ?_
      refine kn_putI hm.1 fp_X0_20 dX0_endFrom_59 h0 (fun i59 e59 => ?_)
      have h := h i59 e59
      refine kk_aload hm.1 0 dX0_endFrom_62 rfl ?_
      refine kk_astore (L' := [(4, kw_a (r (r a0 2) ((x5 &&& (1 : Int32))).toNatClampNeg)), (6, kw_a (r (r a0 2) ((x5 &&& (1 : Int32))).toNatClampNeg)), (0, kw_a a0), (1, kw_i x1), (2, kw_a a2), (3, kw_i x3), (5, kw_i x5)]) hm.1 dX0_endFrom_64 (by decide) rfl ?_
      refine kk_goto (tgt := 136) hm.1 dX0_endFrom_66 (by decide) ?_
      refine kk_loc (L' := [(0, kw_a a0), (1, kw_i x1), (2, kw_a a2), (3, kw_i x3), (4, kw_a (r (r a0 2) ((x5 &&& (1 : Int32))).toNatClampNeg)), (5, kw_i x5)]) [2, 3, 4, 5, 0, 6] rfl ?_
      exact q_X0_endFrom_136 hm  h0  hk6 ((r (r a0 2) ((x5 &&& (1 : Int32))).toNatClampNeg)) x5 i59 w48 h
set_option maxHeartbeats 4000000 in
set_option maxRecDepth 100000 in
theorem q_X0_endFrom_6 {a0 : Nat} {x1 : Int32} {a2 : Nat} {x3 : Int32} {T : kw_T} {n : Nat} {r : kw_R} {Q : Nat → kw_I → kw_L → Prop} {E : kw_E} {G : kw_G} (hm : kw_m E G cX0_endFrom 7 RX0 (some (.array .int)) rm_X0_endFrom "endFrom")  (h0 : T a0 = (0, 0))    : ∀ (N : Nat) (a4 : Nat) (x5 : Int32) (i : kw_I) (w : kw_L), w_X0_endFrom_6 a0 x1 a2 x3 T n r Q  N a4 x5 i w → kw_K E G 7 0 0 (kw_Z E G 0 0 (kw_PA (fun v T' n' r' i' w' => T = T' ∧ n = n' ∧ r = r' ∧ Q v i' w'))) 6 [(0, kw_a a0), (1, kw_i x1), (2, kw_a a2), (3, kw_i x3), (4, kw_a a4), (5, kw_i x5)] [] T n r i w := by
  intro N
  induction N with
  | zero => intro a4 x5 i w h; exact h.elim
  | succ N ih => intro a4 x5 i w h; exact qs_X0_endFrom_6 hm  h0  ih a4 x5 i w h
set_option maxHeartbeats 4000000 in
set_option maxRecDepth 100000 in
theorem t_X0_endFrom {l : Launch} {G : kw_G} {a0 : Nat} {x1 : Int32} {a2 : Nat} {x3 : Int32} {T : kw_T} {n : Nat} {r : kw_R} {i : kw_I} {w : kw_L} {Q : Nat → kw_I → kw_L → Prop} (h0 : T a0 = (0, 0)) (h : w_X0_endFrom a0 x1 a2 x3 T n r i w Q) : kw_Met l G yX0_endFrom cX0_endFrom 7 (some (.array .int)) rm_X0_endFrom [kw_a a0, kw_i x1, kw_a a2, kw_i x3] (T, n, r, i, w) (kw_PA (fun v T' n' r' i' w' => T = T' ∧ n = n' ∧ r = r' ∧ Q v i' w')) := by
  refine kw_Met.of (by decide) (Nat.le_of_ble_eq_true rfl) fun E hl hRm hE hT hnm => ?_
  have hm : kw_m E G cX0_endFrom 7 RX0 (some (.array .int)) rm_X0_endFrom "endFrom" := ⟨hE, hT, hRm, hnm⟩
  subst hl
  show kw_K E G 7 0 0 (kw_Z E G 0 0 (kw_PA (fun v T' n' r' i' w' => T = T' ∧ n = n' ∧ r = r' ∧ Q v i' w'))) 0 [(0, kw_a a0), (1, kw_i x1), (2, kw_a a2), (3, kw_i x3)] [] T n r i w
  refine kk_aload_n hm.1 2 dX0_endFrom_0 rfl rfl ?_
  refine kk_astore (L' := [(4, kw_a a2), (0, kw_a a0), (1, kw_i x1), (2, kw_a a2), (3, kw_i x3)]) hm.1 dX0_endFrom_1 (by decide) rfl ?_
  refine kk_iload_n hm.1 2 dX0_endFrom_3 rfl rfl ?_
  refine kk_istore (L' := [(5, kw_i x1), (4, kw_a a2), (0, kw_a a0), (1, kw_i x1), (2, kw_a a2), (3, kw_i x3)]) hm.1 dX0_endFrom_4 (by decide) rfl ?_
  refine kk_loc (L' := [(0, kw_a a0), (1, kw_i x1), (2, kw_a a2), (3, kw_i x3), (4, kw_a a2), (5, kw_i x1)]) [2, 3, 4, 5, 1, 0] rfl ?_
  obtain ⟨N, h⟩ := h
  exact q_X0_endFrom_6 hm  h0   N a2 x1 i w h
def s_X9_same_2 (a0 : Nat) (a1 : Nat) (T : kw_T) (n : Nat) (r : kw_R) (i : kw_I) (w : kw_L) (Q : Int32 → Prop)  (k2 : Int32 → Prop) (x2 : Int32) : Prop :=
  ((36 : Int32) ≤ x2 → Q (1 : Int32)) ∧ (¬ (36 : Int32) ≤ x2 → kw_in T 1 a0 x2 ∧ (kw_in T 1 a1 x2 ∧ (((i a0 (x2).toNatClampNeg) = (i a1 (x2).toNatClampNeg) → k2 ((x2 + (1 : Int32)))) ∧ (¬ (i a0 (x2).toNatClampNeg) = (i a1 (x2).toNatClampNeg) → Q (0 : Int32)))))
def w_X9_same_2 (a0 : Nat) (a1 : Nat) (T : kw_T) (n : Nat) (r : kw_R) (i : kw_I) (w : kw_L) (Q : Int32 → Prop)  : Nat → Int32 → Prop
  | 0 => fun _ => False
  | N + 1 => s_X9_same_2 a0 a1 T n r i w Q  (w_X9_same_2 a0 a1 T n r i w Q  N)
def w_X9_same  (a0 : Nat) (a1 : Nat) (T : kw_T) (n : Nat) (r : kw_R) (i : kw_I) (w : kw_L) (Q : Int32 → Prop) : Prop :=
  ∃ N, w_X9_same_2 a0 a1 T n r i w Q  N ((0 : Int32))
abbrev rm_X9_same : Room := { frames := 1, cells := 0, slots := 0, locals := 60 }
set_option maxHeartbeats 4000000 in
set_option maxRecDepth 100000 in
theorem qs_X9_same_2 {a0 : Nat} {a1 : Nat} {T : kw_T} {n : Nat} {r : kw_R} {i : kw_I} {w : kw_L} {Q : Int32 → Prop} {E : kw_E} {G : kw_G} (hm : kw_m E G cX9_same 3 RX9 (some .boolean) rm_X9_same "same")     {k2 : Int32 → Prop} (hk2 : ∀ (x2 : Int32), k2 x2 → kw_K E G 3 0 0 (kw_Z E G 0 0 (kw_PI (fun v T' n' r' i' w' => T = T' ∧ n = n' ∧ r = r' ∧ i = i' ∧ w = w' ∧ Q v))) 2 [(0, kw_a a0), (1, kw_a a1), (2, kw_i x2)] [] T n r i w) (x2 : Int32) (h : s_X9_same_2 a0 a1 T n r i w Q  k2 x2) : kw_K E G 3 0 0 (kw_Z E G 0 0 (kw_PI (fun v T' n' r' i' w' => T = T' ∧ n = n' ∧ r = r' ∧ i = i' ∧ w = w' ∧ Q v))) 2 [(0, kw_a a0), (1, kw_a a1), (2, kw_i x2)] [] T n r i w := by
  refine kk_iload_n hm.1 2 dX9_same_2 rfl rfl ?_
  refine kk_bipush (v := (36 : Int32)) hm.1 dX9_same_3 (by decide) ?_
  refine kk_icmp_ge (tgt := 25) hm.1 dX9_same_5 (by decide) (fun c5 => ?_) (fun c5 => ?_)
  · have h := h.1 c5
    refine kk_iconst (v := (1 : Int32)) hm.1 dX9_same_25 (by decide) ?_
    exact kk_zret hm.1 hm.2.1 dX9_same_26 (Or.inr rfl) ⟨_, rfl, rfl, rfl, rfl, rfl, rfl, h⟩
  · have h := h.2 c5
    refine kk_aload_n hm.1 0 dX9_same_8 rfl rfl ?_
    refine kk_iload_n hm.1 2 dX9_same_9 rfl rfl ?_
    obtain ⟨o10, h⟩ := h
    refine kk_iaload hm.1 dX9_same_10 o10 ?_
    refine kk_aload_n hm.1 1 dX9_same_11 rfl rfl ?_
    refine kk_iload_n hm.1 2 dX9_same_12 rfl rfl ?_
    obtain ⟨o13, h⟩ := h
    refine kk_iaload hm.1 dX9_same_13 o13 ?_
    refine kk_icmp_eq (tgt := 19) hm.1 dX9_same_14 (by decide) (fun c14 => ?_) (fun c14 => ?_)
    · have h := h.1 c14
      refine kk_iinc (v := (x2 + (1 : Int32))) (L' := [(2, kw_i (x2 + (1 : Int32))), (0, kw_a a0), (1, kw_a a1)]) hm.1 2 dX9_same_19 rfl rfl (by decide) rfl ?_
      refine kk_goto (tgt := 2) hm.1 dX9_same_22 (by decide) ?_
      refine kk_loc (L' := [(0, kw_a a0), (1, kw_a a1), (2, kw_i (x2 + (1 : Int32)))]) [1, 2, 0] rfl ?_
      exact hk2 ((x2 + (1 : Int32))) h
    · have h := h.2 c14
      refine kk_iconst (v := (0 : Int32)) hm.1 dX9_same_17 (by decide) ?_
      exact kk_zret hm.1 hm.2.1 dX9_same_18 (Or.inl rfl) ⟨_, rfl, rfl, rfl, rfl, rfl, rfl, h⟩
set_option maxHeartbeats 4000000 in
set_option maxRecDepth 100000 in
theorem q_X9_same_2 {a0 : Nat} {a1 : Nat} {T : kw_T} {n : Nat} {r : kw_R} {i : kw_I} {w : kw_L} {Q : Int32 → Prop} {E : kw_E} {G : kw_G} (hm : kw_m E G cX9_same 3 RX9 (some .boolean) rm_X9_same "same")     : ∀ (N : Nat) (x2 : Int32), w_X9_same_2 a0 a1 T n r i w Q  N x2 → kw_K E G 3 0 0 (kw_Z E G 0 0 (kw_PI (fun v T' n' r' i' w' => T = T' ∧ n = n' ∧ r = r' ∧ i = i' ∧ w = w' ∧ Q v))) 2 [(0, kw_a a0), (1, kw_a a1), (2, kw_i x2)] [] T n r i w := by
  intro N
  induction N with
  | zero => intro x2 h; exact h.elim
  | succ N ih => intro x2 h; exact qs_X9_same_2 hm    ih x2 h
set_option maxHeartbeats 4000000 in
set_option maxRecDepth 100000 in
theorem t_X9_same {l : Launch} {G : kw_G} {a0 : Nat} {a1 : Nat} {T : kw_T} {n : Nat} {r : kw_R} {i : kw_I} {w : kw_L} {Q : Int32 → Prop} (h : w_X9_same a0 a1 T n r i w Q) : kw_Met l G yX9_same cX9_same 3 (some .boolean) rm_X9_same [kw_a a0, kw_a a1] (T, n, r, i, w) (kw_PI (fun v T' n' r' i' w' => T = T' ∧ n = n' ∧ r = r' ∧ i = i' ∧ w = w' ∧ Q v)) := by
  refine kw_Met.of (by decide) (Nat.le_of_ble_eq_true rfl) fun E hl hRm hE hT hnm => ?_
  have hm : kw_m E G cX9_same 3 RX9 (some .boolean) rm_X9_same "same" := ⟨hE, hT, hRm, hnm⟩
  subst hl
  show kw_K E G 3 0 0 (kw_Z E G 0 0 (kw_PI (fun v T' n' r' i' w' => T = T' ∧ n = n' ∧ r = r' ∧ i = i' ∧ w = w' ∧ Q v))) 0 [(0, kw_a a0), (1, kw_a a1)] [] T n r i w
  refine kk_iconst (v := (0 : Int32)) hm.1 dX9_same_0 (by decide) ?_
  refine kk_istore_n (L' := [(2, kw_i (0 : Int32)), (0, kw_a a0), (1, kw_a a1)]) hm.1 dX9_same_1 rfl (by decide) rfl ?_
  refine kk_loc (L' := [(0, kw_a a0), (1, kw_a a1), (2, kw_i (0 : Int32))]) [1, 2, 0] rfl ?_
  obtain ⟨N, h⟩ := h
  exact q_X9_same_2 hm    N ((0 : Int32)) h
def w_X0_coloursFor_75 (a0 : Nat) (x1 : Int32) (a2 : Nat) (T : kw_T) (n : Nat) (r : kw_R) (Q : Int32 → kw_I → kw_L → Prop) (k13 : Int32 → Nat → Int32 → kw_I → kw_L → Prop) (x3 : Int32) (a4 : Nat) (x5 : Int32) (i : kw_I) (w : kw_L) : Prop :=
  k13 x3 a4 ((x5 + (1 : Int32))) i w
def s_X0_coloursFor_13 (a0 : Nat) (x1 : Int32) (a2 : Nat) (T : kw_T) (n : Nat) (r : kw_R) (Q : Int32 → kw_I → kw_L → Prop)  (k13 : Int32 → Nat → Int32 → kw_I → kw_L → Prop) (x3 : Int32) (a4 : Nat) (x5 : Int32) (i : kw_I) (w : kw_L) : Prop :=
  ((8 : Int32) ≤ x5 → Q x3 i w) ∧ (¬ (8 : Int32) ≤ x5 → T ((r a0 0)) = (0, 5) ∧ (w_X5_picture (r a0 0) (-1 : Int32) T n r i w (fun v25 => kw_cpo T v25 a4 (0 : Int32) (0 : Int32) (36 : Int32) ∧ (∀ i34 : kw_I, i34 = kw_cpy i v25 a4 ((0 : Int32)).toNatClampNeg ((0 : Int32)).toNatClampNeg ((36 : Int32)).toNatClampNeg → (kw_in T 1 a4 x1 ∧ (∀ i42 : kw_I, i42 = kw_st i34 a4 (x1).toNatClampNeg x5 → (∀ i45 : kw_I, i45 = kw_st i42 a0 3 x1 → (∀ i50 : kw_I, i50 = kw_st i45 a0 4 x1 → (w_X0_endFrom a0 (0 : Int32) a4 (0 : Int32) T n r i50 w (fun v58 i58 w58 => w_X9_same v58 a2 T n r i58 w58 (fun v62 => (v62 = 0 → w_X0_coloursFor_75 a0 x1 a2 T n r Q k13 x3 a4 x5 i58 w58) ∧ (¬ v62 = 0 → w_X0_coloursFor_75 a0 x1 a2 T n r Q k13 ((x3 ||| ((1 : Int32) <<< (x5 &&& 31)))) a4 x5 i58 w58))))))))))))
def w_X0_coloursFor_13 (a0 : Nat) (x1 : Int32) (a2 : Nat) (T : kw_T) (n : Nat) (r : kw_R) (Q : Int32 → kw_I → kw_L → Prop)  : Nat → Int32 → Nat → Int32 → kw_I → kw_L → Prop
  | 0 => fun _ _ _ _ _ => False
  | N + 1 => s_X0_coloursFor_13 a0 x1 a2 T n r Q  (w_X0_coloursFor_13 a0 x1 a2 T n r Q  N)
def w_X0_coloursFor  (a0 : Nat) (x1 : Int32) (a2 : Nat) (T : kw_T) (n : Nat) (r : kw_R) (i : kw_I) (w : kw_L) (Q : Int32 → kw_I → kw_L → Prop) : Prop :=
  kw_in T 5 (r a0 2) (1 : Int32) ∧ (∃ N, w_X0_coloursFor_13 a0 x1 a2 T n r Q  N ((0 : Int32)) ((r (r a0 2) ((1 : Int32)).toNatClampNeg)) ((0 : Int32)) i w)
abbrev rm_X0_coloursFor : Room := { frames := 6, cells := 0, slots := 0, locals := 199 }
set_option maxHeartbeats 4000000 in
set_option maxRecDepth 100000 in
theorem q_X0_coloursFor_75 {a0 : Nat} {x1 : Int32} {a2 : Nat} {T : kw_T} {n : Nat} {r : kw_R} {Q : Int32 → kw_I → kw_L → Prop} {E : kw_E} {G : kw_G} (hm : kw_m E G cX0_coloursFor 6 RX0 (some .int) rm_X0_coloursFor "coloursFor")  (h0 : T a0 = (0, 0))  {k13 : Int32 → Nat → Int32 → kw_I → kw_L → Prop} (hk13 : ∀ (x3 : Int32) (a4 : Nat) (x5 : Int32) (i : kw_I) (w : kw_L), k13 x3 a4 x5 i w → kw_K E G 6 0 0 (kw_Z E G 0 0 (kw_PI (fun v T' n' r' i' w' => T = T' ∧ n = n' ∧ r = r' ∧ Q v i' w'))) 13 [(0, kw_a a0), (1, kw_i x1), (2, kw_a a2), (3, kw_i x3), (4, kw_a a4), (5, kw_i x5)] [] T n r i w) (x3 : Int32) (a4 : Nat) (x5 : Int32) (i : kw_I) (w : kw_L) (h : w_X0_coloursFor_75 a0 x1 a2 T n r Q k13 x3 a4 x5 i w) : kw_K E G 6 0 0 (kw_Z E G 0 0 (kw_PI (fun v T' n' r' i' w' => T = T' ∧ n = n' ∧ r = r' ∧ Q v i' w'))) 75 [(0, kw_a a0), (1, kw_i x1), (2, kw_a a2), (3, kw_i x3), (4, kw_a a4), (5, kw_i x5)] [] T n r i w := by
  refine kk_iinc (v := (x5 + (1 : Int32))) (L' := [(5, kw_i (x5 + (1 : Int32))), (0, kw_a a0), (1, kw_i x1), (2, kw_a a2), (3, kw_i x3), (4, kw_a a4)]) hm.1 5 dX0_coloursFor_75 rfl rfl (by decide) rfl ?_
  refine kk_goto (tgt := 13) hm.1 dX0_coloursFor_78 (by decide) ?_
  refine kk_loc (L' := [(0, kw_a a0), (1, kw_i x1), (2, kw_a a2), (3, kw_i x3), (4, kw_a a4), (5, kw_i (x5 + (1 : Int32)))]) [1, 2, 3, 4, 5, 0] rfl ?_
  exact hk13 x3 a4 ((x5 + (1 : Int32))) i w h
set_option maxHeartbeats 4000000 in
set_option maxRecDepth 100000 in
theorem qs_X0_coloursFor_13 {a0 : Nat} {x1 : Int32} {a2 : Nat} {T : kw_T} {n : Nat} {r : kw_R} {Q : Int32 → kw_I → kw_L → Prop} {E : kw_E} {G : kw_G} (hm : kw_m E G cX0_coloursFor 6 RX0 (some .int) rm_X0_coloursFor "coloursFor")  (h0 : T a0 = (0, 0))    {k13 : Int32 → Nat → Int32 → kw_I → kw_L → Prop} (hk13 : ∀ (x3 : Int32) (a4 : Nat) (x5 : Int32) (i : kw_I) (w : kw_L), k13 x3 a4 x5 i w → kw_K E G 6 0 0 (kw_Z E G 0 0 (kw_PI (fun v T' n' r' i' w' => T = T' ∧ n = n' ∧ r = r' ∧ Q v i' w'))) 13 [(0, kw_a a0), (1, kw_i x1), (2, kw_a a2), (3, kw_i x3), (4, kw_a a4), (5, kw_i x5)] [] T n r i w) (x3 : Int32) (a4 : Nat) (x5 : Int32) (i : kw_I) (w : kw_L) (h : s_X0_coloursFor_13 a0 x1 a2 T n r Q  k13 x3 a4 x5 i w) : kw_K E G 6 0 0 (kw_Z E G 0 0 (kw_PI (fun v T' n' r' i' w' => T = T' ∧ n = n' ∧ r = r' ∧ Q v i' w'))) 13 [(0, kw_a a0), (1, kw_i x1), (2, kw_a a2), (3, kw_i x3), (4, kw_a a4), (5, kw_i x5)] [] T n r i w := by
  refine kk_iload hm.1 5 dX0_coloursFor_13 rfl ?_
  refine kk_bipush (v := (8 : Int32)) hm.1 dX0_coloursFor_15 (by decide) ?_
  refine kk_icmp_ge (tgt := 81) hm.1 dX0_coloursFor_17 (by decide) (fun c17 => ?_) (fun c17 => ?_)
  · have h := h.1 c17
    refine kk_iload_n hm.1 3 dX0_coloursFor_81 rfl rfl ?_
    exact kk_iret hm.1 hm.2.1 dX0_coloursFor_82 ⟨_, rfl, rfl, rfl, rfl, h⟩
  · have h := h.2 c17
    refine kk_aload_n hm.1 0 dX0_coloursFor_20 rfl rfl ?_
    refine kk_getR hm.1 ff_X0_47 dX0_coloursFor_21 h0 ?_
    refine kk_iconst (v := (-1 : Int32)) hm.1 dX0_coloursFor_24 (by decide) ?_
    obtain ⟨o25, h⟩ := h
    refine kk_callVa (cs' := 0) (sl' := 0) (st := []) hm.1 cv_X0_58 (t_X5_picture o25 h) dX0_coloursFor_25 o25 rfl rfl hm.2.2.1 ⟨by decide, by decide⟩ ⟨by decide, by decide⟩ rfl rfl (Nat.le_of_ble_eq_true rfl) rfl ?_
    rintro v25 _ _ _ _ _ ⟨rfl, rfl, rfl, rfl, rfl, h⟩
    refine kk_iconst (v := (0 : Int32)) hm.1 dX0_coloursFor_28 (by decide) ?_
    refine kk_aload hm.1 4 dX0_coloursFor_29 rfl ?_
    refine kk_iconst (v := (0 : Int32)) hm.1 dX0_coloursFor_31 (by decide) ?_
    refine kk_bipush (v := (36 : Int32)) hm.1 dX0_coloursFor_32 (by decide) ?_
    obtain ⟨o34, h⟩ := h
    refine kn_copy (st := []) hm.1 wm_X0_62 wcp_n wcp_s wcp_i dX0_coloursFor_34 hm.2.2.1 (by decide) (by show _ + (_ + 11) ≤ _; exact Nat.le_of_ble_eq_true rfl) o34 (fun i34 e34 => ?_)
    have h := h i34 e34
    refine kk_aload hm.1 4 dX0_coloursFor_37 rfl ?_
    refine kk_iload_n hm.1 1 dX0_coloursFor_39 rfl rfl ?_
    refine kk_iload hm.1 5 dX0_coloursFor_40 rfl ?_
    obtain ⟨o42, h⟩ := h
    refine kn_iastore hm.1 dX0_coloursFor_42 o42 (fun i42 e42 => ?_)
    have h := h i42 e42
    refine kk_aload_n hm.1 0 dX0_coloursFor_43 rfl rfl ?_
    refine kk_iload_n hm.1 1 dX0_coloursFor_44 rfl rfl ?_
    refine kn_putI hm.1 fp_X0_16 dX0_coloursFor_45 h0 (fun i45 e45 => ?_)
    have h := h i45 e45
    refine kk_aload_n hm.1 0 dX0_coloursFor_48 rfl rfl ?_
    refine kk_iload_n hm.1 1 dX0_coloursFor_49 rfl rfl ?_
    refine kn_putI hm.1 fp_X0_20 dX0_coloursFor_50 h0 (fun i50 e50 => ?_)
    have h := h i50 e50
    refine kk_aload_n hm.1 0 dX0_coloursFor_53 rfl rfl ?_
    refine kk_iconst (v := (0 : Int32)) hm.1 dX0_coloursFor_54 (by decide) ?_
    refine kk_aload hm.1 4 dX0_coloursFor_55 rfl ?_
    refine kk_iconst (v := (0 : Int32)) hm.1 dX0_coloursFor_57 (by decide) ?_
    refine kk_callVa (cs' := 0) (sl' := 0) (st := []) hm.1 cv_X0_68 (t_X0_endFrom h0 h) dX0_coloursFor_58 h0 rfl rfl hm.2.2.1 ⟨by decide, by decide⟩ ⟨by decide, by decide⟩ rfl rfl (Nat.le_of_ble_eq_true rfl) rfl ?_
    rintro v58 _ _ _ i58 w58 ⟨rfl, rfl, rfl, h⟩
    refine kk_aload_n hm.1 2 dX0_coloursFor_61 rfl rfl ?_
    refine kk_callSi (cs' := 0) (sl' := 0) (st := []) hm.1 cs_X0_72 (t_X9_same h) dX0_coloursFor_62 rfl hm.2.2.1 ⟨by decide, by decide⟩ ⟨by decide, by decide⟩ rfl rfl (Nat.le_of_ble_eq_true rfl) rfl ?_
    rintro v62 _ _ _ _ _ ⟨rfl, rfl, rfl, rfl, rfl, h⟩
    refine kk_if_eq (tgt := 75) hm.1 dX0_coloursFor_65 (by decide) (fun c65 => ?_) (fun c65 => ?_)
    · have h := h.1 c65
      exact q_X0_coloursFor_75 hm  h0  hk13 x3 a4 x5 i58 w58 h
    · have h := h.2 c65
      refine kk_iload_n hm.1 3 dX0_coloursFor_68 rfl rfl ?_
      refine kk_iconst (v := (1 : Int32)) hm.1 dX0_coloursFor_69 (by decide) ?_
      refine kk_iload hm.1 5 dX0_coloursFor_70 rfl ?_
      refine kk_ishl hm.1 dX0_coloursFor_72 ?_
      refine kk_ior hm.1 dX0_coloursFor_73 ?_
      refine kk_istore_n (L' := [(3, kw_i (x3 ||| ((1 : Int32) <<< (x5 &&& 31)))), (0, kw_a a0), (1, kw_i x1), (2, kw_a a2), (4, kw_a a4), (5, kw_i x5)]) hm.1 dX0_coloursFor_74 rfl (by decide) rfl ?_
      refine kk_loc (L' := [(0, kw_a a0), (1, kw_i x1), (2, kw_a a2), (3, kw_i (x3 ||| ((1 : Int32) <<< (x5 &&& 31)))), (4, kw_a a4), (5, kw_i x5)]) [1, 2, 3, 0, 4, 5] rfl ?_
      exact q_X0_coloursFor_75 hm  h0  hk13 ((x3 ||| ((1 : Int32) <<< (x5 &&& 31)))) a4 x5 i58 w58 h
set_option maxHeartbeats 4000000 in
set_option maxRecDepth 100000 in
theorem q_X0_coloursFor_13 {a0 : Nat} {x1 : Int32} {a2 : Nat} {T : kw_T} {n : Nat} {r : kw_R} {Q : Int32 → kw_I → kw_L → Prop} {E : kw_E} {G : kw_G} (hm : kw_m E G cX0_coloursFor 6 RX0 (some .int) rm_X0_coloursFor "coloursFor")  (h0 : T a0 = (0, 0))    : ∀ (N : Nat) (x3 : Int32) (a4 : Nat) (x5 : Int32) (i : kw_I) (w : kw_L), w_X0_coloursFor_13 a0 x1 a2 T n r Q  N x3 a4 x5 i w → kw_K E G 6 0 0 (kw_Z E G 0 0 (kw_PI (fun v T' n' r' i' w' => T = T' ∧ n = n' ∧ r = r' ∧ Q v i' w'))) 13 [(0, kw_a a0), (1, kw_i x1), (2, kw_a a2), (3, kw_i x3), (4, kw_a a4), (5, kw_i x5)] [] T n r i w := by
  intro N
  induction N with
  | zero => intro x3 a4 x5 i w h; exact h.elim
  | succ N ih => intro x3 a4 x5 i w h; exact qs_X0_coloursFor_13 hm  h0  ih x3 a4 x5 i w h
set_option maxHeartbeats 4000000 in
set_option maxRecDepth 100000 in
theorem t_X0_coloursFor {l : Launch} {G : kw_G} {a0 : Nat} {x1 : Int32} {a2 : Nat} {T : kw_T} {n : Nat} {r : kw_R} {i : kw_I} {w : kw_L} {Q : Int32 → kw_I → kw_L → Prop} (h0 : T a0 = (0, 0)) (h : w_X0_coloursFor a0 x1 a2 T n r i w Q) : kw_Met l G yX0_coloursFor cX0_coloursFor 6 (some .int) rm_X0_coloursFor [kw_a a0, kw_i x1, kw_a a2] (T, n, r, i, w) (kw_PI (fun v T' n' r' i' w' => T = T' ∧ n = n' ∧ r = r' ∧ Q v i' w')) := by
  refine kw_Met.of (by decide) (Nat.le_of_ble_eq_true rfl) fun E hl hRm hE hT hnm => ?_
  have hm : kw_m E G cX0_coloursFor 6 RX0 (some .int) rm_X0_coloursFor "coloursFor" := ⟨hE, hT, hRm, hnm⟩
  subst hl
  show kw_K E G 6 0 0 (kw_Z E G 0 0 (kw_PI (fun v T' n' r' i' w' => T = T' ∧ n = n' ∧ r = r' ∧ Q v i' w'))) 0 [(0, kw_a a0), (1, kw_i x1), (2, kw_a a2)] [] T n r i w
  refine kk_iconst (v := (0 : Int32)) hm.1 dX0_coloursFor_0 (by decide) ?_
  refine kk_istore_n (L' := [(3, kw_i (0 : Int32)), (0, kw_a a0), (1, kw_i x1), (2, kw_a a2)]) hm.1 dX0_coloursFor_1 rfl (by decide) rfl ?_
  refine kk_aload_n hm.1 1 dX0_coloursFor_2 rfl rfl ?_
  refine kk_getR hm.1 ff_X0_11 dX0_coloursFor_3 h0 ?_
  refine kk_iconst (v := (1 : Int32)) hm.1 dX0_coloursFor_6 (by decide) ?_
  obtain ⟨o7, h⟩ := h
  refine kk_aaload hm.1 5 (by decide) (by decide) rfl rfl dX0_coloursFor_7 o7 ?_
  refine kk_astore (L' := [(4, kw_a (r (r a0 2) ((1 : Int32)).toNatClampNeg)), (3, kw_i (0 : Int32)), (0, kw_a a0), (1, kw_i x1), (2, kw_a a2)]) hm.1 dX0_coloursFor_8 (by decide) rfl ?_
  refine kk_iconst (v := (0 : Int32)) hm.1 dX0_coloursFor_10 (by decide) ?_
  refine kk_istore (L' := [(5, kw_i (0 : Int32)), (4, kw_a (r (r a0 2) ((1 : Int32)).toNatClampNeg)), (3, kw_i (0 : Int32)), (0, kw_a a0), (1, kw_i x1), (2, kw_a a2)]) hm.1 dX0_coloursFor_11 (by decide) rfl ?_
  refine kk_loc (L' := [(0, kw_a a0), (1, kw_i x1), (2, kw_a a2), (3, kw_i (0 : Int32)), (4, kw_a (r (r a0 2) ((1 : Int32)).toNatClampNeg)), (5, kw_i (0 : Int32))]) [3, 4, 5, 2, 1, 0] rfl ?_
  obtain ⟨N, h⟩ := h
  exact q_X0_coloursFor_13 hm  h0   N ((0 : Int32)) ((r (r a0 2) ((1 : Int32)).toNatClampNeg)) ((0 : Int32)) i w h
