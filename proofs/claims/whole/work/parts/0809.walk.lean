def w_X9_row_35 (a0 : Nat) (T : kw_T) (n : Nat) (r : kw_R) (w : kw_L) (Q : Int32 → kw_I → Prop)  (i : kw_I) : Prop :=
  w_X9_refuse a0 (-6 : Int32) T n r i w (fun v38 i38 => Q v38 i38)
def w_X9_row_111 (a0 : Nat) (T : kw_T) (n : Nat) (r : kw_R) (w : kw_L) (Q : Int32 → kw_I → Prop) (k65 : Int32 → Nat → Int32 → Int32 → kw_I → Prop) (x1 : Int32) (a2 : Nat) (x3 : Int32) (x4 : Int32) (i : kw_I) : Prop :=
  k65 x1 a2 x3 ((x4 + (1 : Int32))) i
def w_X9_row_117 (a0 : Nat) (T : kw_T) (n : Nat) (r : kw_R) (w : kw_L) (Q : Int32 → kw_I → Prop)  (x1 : Int32) (x3 : Int32) (i : kw_I) : Prop :=
  ∀ i128 : kw_I, i128 = kw_st i a0 10 (if (0 : Int32) < ((x1 - (1 : Int32)) - (36 : Int32)) then ((x1 - (1 : Int32)) - (36 : Int32)) else (0 : Int32)) → (w_X9_changed a0 x3 T n r i128 w (fun v133 i133 => Q v133 i133))
def s_X9_row_65 (a0 : Nat) (T : kw_T) (n : Nat) (r : kw_R) (w : kw_L) (Q : Int32 → kw_I → Prop)  (k65 : Int32 → Nat → Int32 → Int32 → kw_I → Prop) (x1 : Int32) (a2 : Nat) (x3 : Int32) (x4 : Int32) (i : kw_I) : Prop :=
  ((36 : Int32) ≤ x4 → w_X9_row_117 a0 T n r w Q  x1 x3 i) ∧ (¬ (36 : Int32) ≤ x4 → (x1 ≤ (x4 + (1 : Int32)) → w_X9_row_117 a0 T n r w Q  x1 x3 i) ∧ (¬ x1 ≤ (x4 + (1 : Int32)) → T ((r a0 2)) = (0, 7) ∧ (kw_in T 1 (r (r a0 2) 0) (x4 + (1 : Int32)) ∧ (w_X9_isColour (i (r (r a0 2) 0) ((x4 + (1 : Int32))).toNatClampNeg) T n r i w (fun v96 => (v96 = 0 → w_X9_row_111 a0 T n r w Q k65 x1 a2 x3 x4 i) ∧ (¬ v96 = 0 → kw_in T 1 a2 x4 ∧ (∀ i107 : kw_I, i107 = kw_st i a2 (x4).toNatClampNeg (i (r (r a0 2) 0) ((x4 + (1 : Int32))).toNatClampNeg) → (w_X9_row_111 a0 T n r w Q k65 x1 a2 ((x3 + (1 : Int32))) x4 i107))))))))
def w_X9_row_65 (a0 : Nat) (T : kw_T) (n : Nat) (r : kw_R) (w : kw_L) (Q : Int32 → kw_I → Prop)  : Nat → Int32 → Nat → Int32 → Int32 → kw_I → Prop
  | 0 => fun _ _ _ _ _ => False
  | N + 1 => s_X9_row_65 a0 T n r w Q  (w_X9_row_65 a0 T n r w Q  N)
def w_X9_row  (a0 : Nat) (T : kw_T) (n : Nat) (r : kw_R) (i : kw_I) (w : kw_L) (Q : Int32 → kw_I → Prop) : Prop :=
  T ((r a0 2)) = (0, 7) ∧ (∀ i13 : kw_I, i13 = kw_st i (r a0 2) 1 (0 : Int32) → (((i (r a0 2) 1) = 0 → w_X9_row_35 a0 T n r w Q  i13) ∧ (¬ (i (r a0 2) 1) = 0 → kw_in T 1 (r (r a0 2) 0) (0 : Int32) ∧ (w_X9_isPicture (i13 (r (r a0 2) 0) ((0 : Int32)).toNatClampNeg) T n r i13 w (fun v29 => (¬ v29 = 0 → T ((r a0 0)) = (0, 6) ∧ (kw_in T 1 (r (r a0 2) 0) (0 : Int32) ∧ (kw_in T 5 (r (r a0 0) 1) (i13 (r (r a0 2) 0) ((0 : Int32)).toNatClampNeg) ∧ (∃ N, w_X9_row_65 a0 T n r w Q  N ((i (r a0 2) 1)) ((r (r (r a0 0) 1) ((i13 (r (r a0 2) 0) ((0 : Int32)).toNatClampNeg)).toNatClampNeg)) ((0 : Int32)) ((0 : Int32)) i13)))) ∧ (v29 = 0 → w_X9_row_35 a0 T n r w Q  i13))))))
abbrev rm_X9_row : Room := { frames := 3, cells := 0, slots := 0, locals := 102 }
set_option maxHeartbeats 4000000 in
set_option maxRecDepth 100000 in
theorem q_X9_row_35 {a0 : Nat} {T : kw_T} {n : Nat} {r : kw_R} {w : kw_L} {Q : Int32 → kw_I → Prop} {E : kw_E} {G : kw_G} (hm : kw_m E G cX9_row 6 RX9 (some .int) rm_X9_row "row")  (h0 : T a0 = (0, 9))    (i : kw_I) (h : w_X9_row_35 a0 T n r w Q  i) : kw_K E G 6 0 0 (kw_Z E G 0 0 (kw_PI (fun v T' n' r' i' w' => T = T' ∧ n = n' ∧ r = r' ∧ w = w' ∧ Q v i'))) 35 [(0, kw_a a0)] [] T n r i w := by
  refine kk_aload_n hm.1 0 dX9_row_35 rfl rfl ?_
  refine kk_bipush (v := (-6 : Int32)) hm.1 dX9_row_36 (by decide) ?_
  refine kk_callVi (cs' := 0) (sl' := 0) (st := []) hm.1 cv_X9_86 (t_X9_refuse h0 h) dX9_row_38 h0 rfl rfl hm.2.2.1 ⟨by decide, by decide⟩ ⟨by decide, by decide⟩ rfl rfl (Nat.le_of_ble_eq_true rfl) rfl ?_
  rintro v38 _ _ _ i38 _ ⟨rfl, rfl, rfl, rfl, h⟩
  exact kk_iret hm.1 hm.2.1 dX9_row_41 ⟨_, rfl, rfl, rfl, rfl, rfl, h⟩
set_option maxHeartbeats 4000000 in
set_option maxRecDepth 100000 in
theorem q_X9_row_111 {a0 : Nat} {T : kw_T} {n : Nat} {r : kw_R} {w : kw_L} {Q : Int32 → kw_I → Prop} {E : kw_E} {G : kw_G} (hm : kw_m E G cX9_row 6 RX9 (some .int) rm_X9_row "row")  (h0 : T a0 = (0, 9))  {k65 : Int32 → Nat → Int32 → Int32 → kw_I → Prop} (hk65 : ∀ (x1 : Int32) (a2 : Nat) (x3 : Int32) (x4 : Int32) (i : kw_I), k65 x1 a2 x3 x4 i → kw_K E G 6 0 0 (kw_Z E G 0 0 (kw_PI (fun v T' n' r' i' w' => T = T' ∧ n = n' ∧ r = r' ∧ w = w' ∧ Q v i'))) 65 [(0, kw_a a0), (1, kw_i x1), (2, kw_a a2), (3, kw_i x3), (4, kw_i x4)] [] T n r i w) (x1 : Int32) (a2 : Nat) (x3 : Int32) (x4 : Int32) (i : kw_I) (h : w_X9_row_111 a0 T n r w Q k65 x1 a2 x3 x4 i) : kw_K E G 6 0 0 (kw_Z E G 0 0 (kw_PI (fun v T' n' r' i' w' => T = T' ∧ n = n' ∧ r = r' ∧ w = w' ∧ Q v i'))) 111 [(0, kw_a a0), (1, kw_i x1), (2, kw_a a2), (3, kw_i x3), (4, kw_i x4)] [] T n r i w := by
  refine kk_iinc (v := (x4 + (1 : Int32))) (L' := [(4, kw_i (x4 + (1 : Int32))), (0, kw_a a0), (1, kw_i x1), (2, kw_a a2), (3, kw_i x3)]) hm.1 4 dX9_row_111 rfl rfl (by decide) rfl ?_
  refine kk_goto (tgt := 65) hm.1 dX9_row_114 (by decide) ?_
  refine kk_loc (L' := [(0, kw_a a0), (1, kw_i x1), (2, kw_a a2), (3, kw_i x3), (4, kw_i (x4 + (1 : Int32)))]) [1, 2, 3, 4, 0] rfl ?_
  exact hk65 x1 a2 x3 ((x4 + (1 : Int32))) i h
set_option maxHeartbeats 4000000 in
set_option maxRecDepth 100000 in
theorem q_X9_row_117 {a0 : Nat} {T : kw_T} {n : Nat} {r : kw_R} {w : kw_L} {Q : Int32 → kw_I → Prop} {E : kw_E} {G : kw_G} (hm : kw_m E G cX9_row 6 RX9 (some .int) rm_X9_row "row")  (h0 : T a0 = (0, 9))    (x1 : Int32) (x3 : Int32) (i : kw_I) (h : w_X9_row_117 a0 T n r w Q  x1 x3 i) : kw_K E G 6 0 0 (kw_Z E G 0 0 (kw_PI (fun v T' n' r' i' w' => T = T' ∧ n = n' ∧ r = r' ∧ w = w' ∧ Q v i'))) 117 [(0, kw_a a0), (1, kw_i x1), (3, kw_i x3)] [] T n r i w := by
  refine kk_aload_n hm.1 0 dX9_row_117 rfl rfl ?_
  refine kk_iconst (v := (0 : Int32)) hm.1 dX9_row_118 (by decide) ?_
  refine kk_iload_n hm.1 1 dX9_row_119 rfl rfl ?_
  refine kk_iconst (v := (1 : Int32)) hm.1 dX9_row_120 (by decide) ?_
  refine kk_isub hm.1 dX9_row_121 ?_
  refine kk_bipush (v := (36 : Int32)) hm.1 dX9_row_122 (by decide) ?_
  refine kk_isub hm.1 dX9_row_124 ?_
  refine kn_mmax (st := [kw_a a0]) hm.1 wm_X9_139 wmmax_s wo_m wmmax_c dX9_row_125 hm.2.2.1 (by decide) (Nat.le_of_ble_eq_true rfl) (by decide) (by decide) ?_
  refine kn_putI hm.1 fp_X9_72 dX9_row_128 h0 (fun i128 e128 => ?_)
  have h := h i128 e128
  refine kk_aload_n hm.1 0 dX9_row_131 rfl rfl ?_
  refine kk_iload_n hm.1 2 dX9_row_132 rfl rfl ?_
  refine kk_callVi (cs' := 0) (sl' := 0) (st := []) hm.1 cv_X9_101 (t_X9_changed h0 h) dX9_row_133 h0 rfl rfl hm.2.2.1 ⟨by decide, by decide⟩ ⟨by decide, by decide⟩ rfl rfl (Nat.le_of_ble_eq_true rfl) rfl ?_
  rintro v133 _ _ _ i133 _ ⟨rfl, rfl, rfl, rfl, h⟩
  exact kk_iret hm.1 hm.2.1 dX9_row_136 ⟨_, rfl, rfl, rfl, rfl, rfl, h⟩
set_option maxHeartbeats 4000000 in
set_option maxRecDepth 100000 in
theorem qs_X9_row_65 {a0 : Nat} {T : kw_T} {n : Nat} {r : kw_R} {w : kw_L} {Q : Int32 → kw_I → Prop} {E : kw_E} {G : kw_G} (hm : kw_m E G cX9_row 6 RX9 (some .int) rm_X9_row "row")  (h0 : T a0 = (0, 9))    {k65 : Int32 → Nat → Int32 → Int32 → kw_I → Prop} (hk65 : ∀ (x1 : Int32) (a2 : Nat) (x3 : Int32) (x4 : Int32) (i : kw_I), k65 x1 a2 x3 x4 i → kw_K E G 6 0 0 (kw_Z E G 0 0 (kw_PI (fun v T' n' r' i' w' => T = T' ∧ n = n' ∧ r = r' ∧ w = w' ∧ Q v i'))) 65 [(0, kw_a a0), (1, kw_i x1), (2, kw_a a2), (3, kw_i x3), (4, kw_i x4)] [] T n r i w) (x1 : Int32) (a2 : Nat) (x3 : Int32) (x4 : Int32) (i : kw_I) (h : s_X9_row_65 a0 T n r w Q  k65 x1 a2 x3 x4 i) : kw_K E G 6 0 0 (kw_Z E G 0 0 (kw_PI (fun v T' n' r' i' w' => T = T' ∧ n = n' ∧ r = r' ∧ w = w' ∧ Q v i'))) 65 [(0, kw_a a0), (1, kw_i x1), (2, kw_a a2), (3, kw_i x3), (4, kw_i x4)] [] T n r i w := by
  refine kk_iload hm.1 4 dX9_row_65 rfl ?_
  refine kk_bipush (v := (36 : Int32)) hm.1 dX9_row_67 (by decide) ?_
  refine kk_icmp_ge (tgt := 117) hm.1 dX9_row_69 (by decide) (fun c69 => ?_) (fun c69 => ?_)
  · have h := h.1 c69
    refine kk_loc (L' := [(0, kw_a a0), (1, kw_i x1), (3, kw_i x3)]) [0, 1, 3] rfl ?_
    exact q_X9_row_117 hm  h0   x1 x3 i h
  · have h := h.2 c69
    refine kk_iload hm.1 4 dX9_row_72 rfl ?_
    refine kk_iconst (v := (1 : Int32)) hm.1 dX9_row_74 (by decide) ?_
    refine kk_iadd hm.1 dX9_row_75 ?_
    refine kk_iload_n hm.1 1 dX9_row_76 rfl rfl ?_
    refine kk_icmp_ge (tgt := 117) hm.1 dX9_row_77 (by decide) (fun c77 => ?_) (fun c77 => ?_)
    · have h := h.1 c77
      refine kk_loc (L' := [(0, kw_a a0), (1, kw_i x1), (3, kw_i x3)]) [0, 1, 3] rfl ?_
      exact q_X9_row_117 hm  h0   x1 x3 i h
    · have h := h.2 c77
      refine kk_aload_n hm.1 0 dX9_row_80 rfl rfl ?_
      refine kk_getR hm.1 ff_X9_23 dX9_row_81 h0 ?_
      obtain ⟨o84, h⟩ := h
      refine kk_getR hm.1 ff_X9_136 dX9_row_84 o84 ?_
      refine kk_iload hm.1 4 dX9_row_87 rfl ?_
      refine kk_iconst (v := (1 : Int32)) hm.1 dX9_row_89 (by decide) ?_
      refine kk_iadd hm.1 dX9_row_90 ?_
      obtain ⟨o91, h⟩ := h
      refine kk_iaload hm.1 dX9_row_91 o91 ?_
      refine kk_istore (L' := [(5, kw_i (i (r (r a0 2) 0) ((x4 + (1 : Int32))).toNatClampNeg)), (0, kw_a a0), (1, kw_i x1), (2, kw_a a2), (3, kw_i x3), (4, kw_i x4)]) hm.1 dX9_row_92 (by decide) rfl ?_
      refine kk_iload hm.1 0 dX9_row_94 rfl ?_
      refine kk_callSi (cs' := 0) (sl' := 0) (st := []) hm.1 cs_X9_104 (t_X9_isColour h) dX9_row_96 rfl hm.2.2.1 ⟨by decide, by decide⟩ ⟨by decide, by decide⟩ rfl rfl (Nat.le_of_ble_eq_true rfl) rfl ?_
      rintro v96 _ _ _ _ _ ⟨rfl, rfl, rfl, rfl, rfl, h⟩
      refine kk_if_eq (tgt := 111) hm.1 dX9_row_99 (by decide) (fun c99 => ?_) (fun c99 => ?_)
      · have h := h.1 c99
        refine kk_loc (L' := [(0, kw_a a0), (1, kw_i x1), (2, kw_a a2), (3, kw_i x3), (4, kw_i x4)]) [1, 2, 3, 4, 5] rfl ?_
        exact q_X9_row_111 hm  h0  hk65 x1 a2 x3 x4 i h
      · have h := h.2 c99
        refine kk_aload_n hm.1 3 dX9_row_102 rfl rfl ?_
        refine kk_iload hm.1 5 dX9_row_103 rfl ?_
        refine kk_iload hm.1 0 dX9_row_105 rfl ?_
        obtain ⟨o107, h⟩ := h
        refine kn_iastore hm.1 dX9_row_107 o107 (fun i107 e107 => ?_)
        have h := h i107 e107
        refine kk_iinc (v := (x3 + (1 : Int32))) (L' := [(3, kw_i (x3 + (1 : Int32))), (5, kw_i (i (r (r a0 2) 0) ((x4 + (1 : Int32))).toNatClampNeg)), (0, kw_a a0), (1, kw_i x1), (2, kw_a a2), (4, kw_i x4)]) hm.1 4 dX9_row_108 rfl rfl (by decide) rfl ?_
        refine kk_loc (L' := [(0, kw_a a0), (1, kw_i x1), (2, kw_a a2), (3, kw_i (x3 + (1 : Int32))), (4, kw_i x4)]) [2, 3, 4, 0, 5] rfl ?_
        exact q_X9_row_111 hm  h0  hk65 x1 a2 ((x3 + (1 : Int32))) x4 i107 h
set_option maxHeartbeats 4000000 in
set_option maxRecDepth 100000 in
theorem q_X9_row_65 {a0 : Nat} {T : kw_T} {n : Nat} {r : kw_R} {w : kw_L} {Q : Int32 → kw_I → Prop} {E : kw_E} {G : kw_G} (hm : kw_m E G cX9_row 6 RX9 (some .int) rm_X9_row "row")  (h0 : T a0 = (0, 9))    : ∀ (N : Nat) (x1 : Int32) (a2 : Nat) (x3 : Int32) (x4 : Int32) (i : kw_I), w_X9_row_65 a0 T n r w Q  N x1 a2 x3 x4 i → kw_K E G 6 0 0 (kw_Z E G 0 0 (kw_PI (fun v T' n' r' i' w' => T = T' ∧ n = n' ∧ r = r' ∧ w = w' ∧ Q v i'))) 65 [(0, kw_a a0), (1, kw_i x1), (2, kw_a a2), (3, kw_i x3), (4, kw_i x4)] [] T n r i w := by
  intro N
  induction N with
  | zero => intro x1 a2 x3 x4 i h; exact h.elim
  | succ N ih => intro x1 a2 x3 x4 i h; exact qs_X9_row_65 hm  h0  ih x1 a2 x3 x4 i h
set_option maxHeartbeats 4000000 in
set_option maxRecDepth 100000 in
theorem t_X9_row {l : Launch} {G : kw_G} {a0 : Nat} {T : kw_T} {n : Nat} {r : kw_R} {i : kw_I} {w : kw_L} {Q : Int32 → kw_I → Prop} (h0 : T a0 = (0, 9)) (h : w_X9_row a0 T n r i w Q) : kw_Met l G yX9_row cX9_row 6 (some .int) rm_X9_row [kw_a a0] (T, n, r, i, w) (kw_PI (fun v T' n' r' i' w' => T = T' ∧ n = n' ∧ r = r' ∧ w = w' ∧ Q v i')) := by
  refine kw_Met.of (by decide) (Nat.le_of_ble_eq_true rfl) fun E hl hRm hE hT hnm => ?_
  have hm : kw_m E G cX9_row 6 RX9 (some .int) rm_X9_row "row" := ⟨hE, hT, hRm, hnm⟩
  subst hl
  show kw_K E G 6 0 0 (kw_Z E G 0 0 (kw_PI (fun v T' n' r' i' w' => T = T' ∧ n = n' ∧ r = r' ∧ w = w' ∧ Q v i'))) 0 [(0, kw_a a0)] [] T n r i w
  refine kk_aload_n hm.1 0 dX9_row_0 rfl rfl ?_
  refine kk_getR hm.1 ff_X9_23 dX9_row_1 h0 ?_
  obtain ⟨o4, h⟩ := h
  refine kk_getI hm.1 ff_X9_129 dX9_row_4 o4 ?_
  refine kk_istore_n (L' := [(1, kw_i (i (r a0 2) 1)), (0, kw_a a0)]) hm.1 dX9_row_7 rfl (by decide) rfl ?_
  refine kk_aload_n hm.1 1 dX9_row_8 rfl rfl ?_
  refine kk_getR hm.1 ff_X9_23 dX9_row_9 h0 ?_
  refine kk_iconst (v := (0 : Int32)) hm.1 dX9_row_12 (by decide) ?_
  refine kn_putI hm.1 fp_X9_129 dX9_row_13 o4 (fun i13 e13 => ?_)
  have h := h i13 e13
  refine kk_iload_n hm.1 0 dX9_row_16 rfl rfl ?_
  refine kk_if_eq (tgt := 35) hm.1 dX9_row_17 (by decide) (fun c17 => ?_) (fun c17 => ?_)
  · have h := h.1 c17
    refine kk_loc (L' := [(0, kw_a a0)]) [1] rfl ?_
    exact q_X9_row_35 hm  h0   i13 h
  · have h := h.2 c17
    refine kk_aload_n hm.1 1 dX9_row_20 rfl rfl ?_
    refine kk_getR hm.1 ff_X9_23 dX9_row_21 h0 ?_
    refine kk_getR hm.1 ff_X9_136 dX9_row_24 o4 ?_
    refine kk_iconst (v := (0 : Int32)) hm.1 dX9_row_27 (by decide) ?_
    obtain ⟨o28, h⟩ := h
    refine kk_iaload hm.1 dX9_row_28 o28 ?_
    refine kk_callSi (cs' := 0) (sl' := 0) (st := []) hm.1 cs_X9_111 (t_X9_isPicture h) dX9_row_29 rfl hm.2.2.1 ⟨by decide, by decide⟩ ⟨by decide, by decide⟩ rfl rfl (Nat.le_of_ble_eq_true rfl) rfl ?_
    rintro v29 _ _ _ _ _ ⟨rfl, rfl, rfl, rfl, rfl, h⟩
    refine kk_if_ne (tgt := 42) hm.1 dX9_row_32 (by decide) (fun c32 => ?_) (fun c32 => ?_)
    · have h := h.1 c32
      refine kk_aload_n hm.1 1 dX9_row_42 rfl rfl ?_
      refine kk_getR hm.1 ff_X9_10 dX9_row_43 h0 ?_
      obtain ⟨o46, h⟩ := h
      refine kk_getR hm.1 ff_X9_117 dX9_row_46 o46 ?_
      refine kk_aload_n hm.1 1 dX9_row_49 rfl rfl ?_
      refine kk_getR hm.1 ff_X9_23 dX9_row_50 h0 ?_
      refine kk_getR hm.1 ff_X9_136 dX9_row_53 o4 ?_
      refine kk_iconst (v := (0 : Int32)) hm.1 dX9_row_56 (by decide) ?_
      obtain ⟨o57, h⟩ := h
      refine kk_iaload hm.1 dX9_row_57 o57 ?_
      obtain ⟨o58, h⟩ := h
      refine kk_aaload hm.1 5 (by decide) (by decide) rfl rfl dX9_row_58 o58 ?_
      refine kk_astore_n (L' := [(2, kw_a (r (r (r a0 0) 1) ((i13 (r (r a0 2) 0) ((0 : Int32)).toNatClampNeg)).toNatClampNeg)), (1, kw_i (i (r a0 2) 1)), (0, kw_a a0)]) hm.1 dX9_row_59 rfl (by decide) rfl ?_
      refine kk_iconst (v := (0 : Int32)) hm.1 dX9_row_60 (by decide) ?_
      refine kk_istore_n (L' := [(3, kw_i (0 : Int32)), (2, kw_a (r (r (r a0 0) 1) ((i13 (r (r a0 2) 0) ((0 : Int32)).toNatClampNeg)).toNatClampNeg)), (1, kw_i (i (r a0 2) 1)), (0, kw_a a0)]) hm.1 dX9_row_61 rfl (by decide) rfl ?_
      refine kk_iconst (v := (0 : Int32)) hm.1 dX9_row_62 (by decide) ?_
      refine kk_istore (L' := [(4, kw_i (0 : Int32)), (3, kw_i (0 : Int32)), (2, kw_a (r (r (r a0 0) 1) ((i13 (r (r a0 2) 0) ((0 : Int32)).toNatClampNeg)).toNatClampNeg)), (1, kw_i (i (r a0 2) 1)), (0, kw_a a0)]) hm.1 dX9_row_63 (by decide) rfl ?_
      refine kk_loc (L' := [(0, kw_a a0), (1, kw_i (i (r a0 2) 1)), (2, kw_a (r (r (r a0 0) 1) ((i13 (r (r a0 2) 0) ((0 : Int32)).toNatClampNeg)).toNatClampNeg)), (3, kw_i (0 : Int32)), (4, kw_i (0 : Int32))]) [4, 3, 2, 1, 0] rfl ?_
      obtain ⟨N, h⟩ := h
      exact q_X9_row_65 hm  h0   N ((i (r a0 2) 1)) ((r (r (r a0 0) 1) ((i13 (r (r a0 2) 0) ((0 : Int32)).toNatClampNeg)).toNatClampNeg)) ((0 : Int32)) ((0 : Int32)) i13 h
    · have h := h.2 c32
      refine kk_loc (L' := [(0, kw_a a0)]) [1] rfl ?_
      exact q_X9_row_35 hm  h0   i13 h
def w_X9_lint  (a0 : Nat) (T : kw_T) (n : Nat) (r : kw_R) (i : kw_I) (w : kw_L) (Q : Int32 → Prop) : Prop :=
  Q (i a0 10)
abbrev rm_X9_lint : Room := { frames := 1, cells := 0, slots := 0, locals := 60 }
set_option maxHeartbeats 4000000 in
set_option maxRecDepth 100000 in
theorem t_X9_lint {l : Launch} {G : kw_G} {a0 : Nat} {T : kw_T} {n : Nat} {r : kw_R} {i : kw_I} {w : kw_L} {Q : Int32 → Prop} (h0 : T a0 = (0, 9)) (h : w_X9_lint a0 T n r i w Q) : kw_Met l G yX9_lint cX9_lint 1 (some .int) rm_X9_lint [kw_a a0] (T, n, r, i, w) (kw_PI (fun v T' n' r' i' w' => T = T' ∧ n = n' ∧ r = r' ∧ i = i' ∧ w = w' ∧ Q v)) := by
  refine kw_Met.of (by decide) (Nat.le_of_ble_eq_true rfl) fun E hl hRm hE hT hnm => ?_
  have hm : kw_m E G cX9_lint 1 RX9 (some .int) rm_X9_lint "lint" := ⟨hE, hT, hRm, hnm⟩
  subst hl
  show kw_K E G 1 0 0 (kw_Z E G 0 0 (kw_PI (fun v T' n' r' i' w' => T = T' ∧ n = n' ∧ r = r' ∧ i = i' ∧ w = w' ∧ Q v))) 0 [(0, kw_a a0)] [] T n r i w
  refine kk_aload_n hm.1 0 dX9_lint_0 rfl rfl ?_
  refine kk_getI hm.1 ff_X9_72 dX9_lint_1 h0 ?_
  exact kk_iret hm.1 hm.2.1 dX9_lint_4 ⟨_, rfl, rfl, rfl, rfl, rfl, rfl, h⟩
def w_X9_law  (a0 : Nat) (T : kw_T) (n : Nat) (r : kw_R) (i : kw_I) (w : kw_L) (Q : Int32 → kw_T → Nat → kw_R → kw_I → Prop) : Prop :=
  T ((r a0 2)) = (0, 7) ∧ (∀ i13 : kw_I, i13 = kw_st i (r a0 2) 1 (0 : Int32) → (T ((r a0 0)) = (0, 6) ∧ (((i13 (r a0 0) 6) < (6 : Int32) → T ((r a0 3)) = (0, 4) ∧ (w_X4_readLaw (r a0 3) (r (r a0 2) 0) (i (r a0 2) 1) T n r i13 w (fun v47 T47 n47 r47 i47 => T47 a0 = (0, 9) ∧ (T47 ((r47 a0 3)) = (0, 4) ∧ (∀ i59 : kw_I, i59 = kw_st i47 a0 11 (i47 (r47 a0 3) 9) → ((v47 = 0 → w_X9_refuse a0 (-6 : Int32) T47 n47 r47 i59 w (fun v69 i69 => Q v69 T47 n47 r47 i69)) ∧ (¬ v47 = 0 → T47 ((r47 a0 0)) = (0, 6) ∧ (kw_in T47 7 (r47 (r47 a0 0) 4) (i59 (r47 a0 0) 6) ∧ (kw_el T47 1 v47 ∧ (∀ r88 : kw_R, r88 = kw_st r47 (r47 (r47 a0 0) 4) ((i59 (r47 a0 0) 6)).toNatClampNeg v47 → (T47 ((r88 a0 0)) = (0, 6) ∧ (∀ i99 : kw_I, i99 = kw_st i59 (r88 a0 0) 6 ((i59 (r88 a0 0) 6) + (1 : Int32)) → (w_X9_allow a0 ((i99 (r88 a0 0) 6) - (1 : Int32)) T47 n47 r88 i99 w (fun v112 i112 => Q v112 T47 n47 r88 i112)))))))))))))) ∧ (¬ (i13 (r a0 0) 6) < (6 : Int32) → w_X9_refuse a0 (-5 : Int32) T n r i13 w (fun v31 i31 => Q v31 T n r i31)))))
abbrev rm_X9_law : Room := { frames := 133, cells := 3, slots := 803, locals := 6513 }
set_option maxHeartbeats 4000000 in
set_option maxRecDepth 100000 in
theorem t_X9_law {l : Launch} {G : kw_G} {a0 : Nat} {T : kw_T} {n : Nat} {r : kw_R} {i : kw_I} {w : kw_L} {Q : Int32 → kw_T → Nat → kw_R → kw_I → Prop} (h0 : T a0 = (0, 9)) (h : w_X9_law a0 T n r i w Q) : kw_Met l G yX9_law cX9_law 3 (some .int) rm_X9_law [kw_a a0] (T, n, r, i, w) (kw_PI (fun v T' n' r' i' w' => w = w' ∧ Q v T' n' r' i')) := by
  refine kw_Met.of (by decide) (Nat.le_of_ble_eq_true rfl) fun E hl hRm hE hT hnm => ?_
  have hm : kw_m E G cX9_law 3 RX9 (some .int) rm_X9_law "law" := ⟨hE, hT, hRm, hnm⟩
  subst hl
  show kw_K E G 3 0 0 (kw_Z E G 3 803 (kw_PI (fun v T' n' r' i' w' => w = w' ∧ Q v T' n' r' i'))) 0 [(0, kw_a a0)] [] T n r i w
  refine kk_aload_n hm.1 0 dX9_law_0 rfl rfl ?_
  refine kk_getR hm.1 ff_X9_23 dX9_law_1 h0 ?_
  obtain ⟨o4, h⟩ := h
  refine kk_getI hm.1 ff_X9_129 dX9_law_4 o4 ?_
  refine kk_istore_n (L' := [(1, kw_i (i (r a0 2) 1)), (0, kw_a a0)]) hm.1 dX9_law_7 rfl (by decide) rfl ?_
  refine kk_aload_n hm.1 1 dX9_law_8 rfl rfl ?_
  refine kk_getR hm.1 ff_X9_23 dX9_law_9 h0 ?_
  refine kk_iconst (v := (0 : Int32)) hm.1 dX9_law_12 (by decide) ?_
  refine kn_putI hm.1 fp_X9_129 dX9_law_13 o4 (fun i13 e13 => ?_)
  have h := h i13 e13
  refine kk_aload_n hm.1 1 dX9_law_16 rfl rfl ?_
  refine kk_getR hm.1 ff_X9_10 dX9_law_17 h0 ?_
  obtain ⟨o20, h⟩ := h
  refine kk_getI hm.1 ff_X9_145 dX9_law_20 o20 ?_
  refine kk_bipush (v := (6 : Int32)) hm.1 dX9_law_23 (by decide) ?_
  refine kk_icmp_lt (tgt := 35) hm.1 dX9_law_25 (by decide) (fun c25 => ?_) (fun c25 => ?_)
  · have h := h.1 c25
    refine kk_aload_n hm.1 1 dX9_law_35 rfl rfl ?_
    refine kk_getR hm.1 ff_X9_30 dX9_law_36 h0 ?_
    refine kk_aload_n hm.1 1 dX9_law_39 rfl rfl ?_
    refine kk_getR hm.1 ff_X9_23 dX9_law_40 h0 ?_
    refine kk_getR hm.1 ff_X9_136 dX9_law_43 o4 ?_
    refine kk_iload_n hm.1 0 dX9_law_46 rfl rfl ?_
    obtain ⟨o47, h⟩ := h
    refine kk_callVa (cs' := 3) (sl' := 803) (st := []) hm.1 cv_X9_148 (t_X4_readLaw o47 h) dX9_law_47 o47 rfl rfl hm.2.2.1 ⟨by decide, by decide⟩ ⟨by decide, by decide⟩ rfl rfl (Nat.le_of_ble_eq_true rfl) rfl ?_
    rintro v47 T47 n47 r47 i47 _ ⟨rfl, h⟩
    refine kk_astore_n (L' := [(2, kw_a v47), (1, kw_i (i (r a0 2) 1)), (0, kw_a a0)]) hm.1 dX9_law_50 rfl (by decide) rfl ?_
    refine kk_aload_n hm.1 2 dX9_law_51 rfl rfl ?_
    refine kk_aload_n hm.1 2 dX9_law_52 rfl rfl ?_
    obtain ⟨o53, h⟩ := h
    refine kk_getR hm.1 ff_X9_30 dX9_law_53 o53 ?_
    obtain ⟨o56, h⟩ := h
    refine kk_getI hm.1 ff_X9_152 dX9_law_56 o56 ?_
    refine kn_putI hm.1 fp_X9_75 dX9_law_59 o53 (fun i59 e59 => ?_)
    have h := h i59 e59
    refine kk_aload_n hm.1 0 dX9_law_62 rfl rfl ?_
    refine kk_ifnonnull (tgt := 73) hm.1 dX9_law_63 (by decide) (fun c63 => ?_) (fun c63 => ?_)
    · have h := h.1 c63
      refine kk_aload_n hm.1 2 dX9_law_66 rfl rfl ?_
      refine kk_bipush (v := (-6 : Int32)) hm.1 dX9_law_67 (by decide) ?_
      refine kk_callVi (cs' := 3) (sl' := 803) (st := []) hm.1 cv_X9_86 (t_X9_refuse o53 h) dX9_law_69 o53 rfl rfl hm.2.2.1 ⟨by decide, by decide⟩ ⟨by decide, by decide⟩ rfl rfl (Nat.le_of_ble_eq_true rfl) rfl ?_
      rintro v69 _ _ _ i69 _ ⟨rfl, rfl, rfl, rfl, h⟩
      exact kk_iret hm.1 hm.2.1 dX9_law_72 ⟨_, rfl, rfl, h⟩
    · have h := h.2 c63
      refine kk_aload_n hm.1 2 dX9_law_73 rfl rfl ?_
      refine kk_getR hm.1 ff_X9_10 dX9_law_74 o53 ?_
      obtain ⟨o77, h⟩ := h
      refine kk_getR hm.1 ff_X9_155 dX9_law_77 o77 ?_
      refine kk_aload_n hm.1 2 dX9_law_80 rfl rfl ?_
      refine kk_getR hm.1 ff_X9_10 dX9_law_81 o53 ?_
      refine kk_getI hm.1 ff_X9_145 dX9_law_84 o77 ?_
      refine kk_aload_n hm.1 0 dX9_law_87 rfl rfl ?_
      obtain ⟨o88, h⟩ := h
      obtain ⟨b88, h⟩ := h
      refine kn_aastore hm.1 7 (by decide) dX9_law_88 o88 b88 (fun r88 e88 => ?_)
      have h := h r88 e88
      refine kk_aload_n hm.1 2 dX9_law_89 rfl rfl ?_
      refine kk_getR hm.1 ff_X9_10 dX9_law_90 o53 ?_
      refine kk_dup hm.1 dX9_law_93 rfl ?_
      obtain ⟨o94, h⟩ := h
      refine kk_getI hm.1 ff_X9_145 dX9_law_94 o94 ?_
      refine kk_iconst (v := (1 : Int32)) hm.1 dX9_law_97 (by decide) ?_
      refine kk_iadd hm.1 dX9_law_98 ?_
      refine kn_putI hm.1 fp_X9_145 dX9_law_99 o94 (fun i99 e99 => ?_)
      have h := h i99 e99
      refine kk_aload_n hm.1 2 dX9_law_102 rfl rfl ?_
      refine kk_aload_n hm.1 2 dX9_law_103 rfl rfl ?_
      refine kk_getR hm.1 ff_X9_10 dX9_law_104 o53 ?_
      refine kk_getI hm.1 ff_X9_145 dX9_law_107 o94 ?_
      refine kk_iconst (v := (1 : Int32)) hm.1 dX9_law_110 (by decide) ?_
      refine kk_isub hm.1 dX9_law_111 ?_
      refine kk_callVi (cs' := 3) (sl' := 803) (st := []) hm.1 cv_X9_123 (t_X9_allow o53 h) dX9_law_112 o53 rfl rfl hm.2.2.1 ⟨by decide, by decide⟩ ⟨by decide, by decide⟩ rfl rfl (Nat.le_of_ble_eq_true rfl) rfl ?_
      rintro v112 _ _ _ i112 _ ⟨rfl, rfl, rfl, rfl, h⟩
      exact kk_iret hm.1 hm.2.1 dX9_law_115 ⟨_, rfl, rfl, h⟩
  · have h := h.2 c25
    refine kk_aload_n hm.1 1 dX9_law_28 rfl rfl ?_
    refine kk_bipush (v := (-5 : Int32)) hm.1 dX9_law_29 (by decide) ?_
    refine kk_callVi (cs' := 0) (sl' := 0) (st := []) hm.1 cv_X9_86 (t_X9_refuse h0 h) dX9_law_31 h0 rfl rfl hm.2.2.1 ⟨by decide, by decide⟩ ⟨by decide, by decide⟩ rfl rfl (Nat.le_of_ble_eq_true rfl) rfl ?_
    rintro v31 _ _ _ i31 _ ⟨rfl, rfl, rfl, rfl, h⟩
    refine kk_widen (cs' := 3) (sl' := 803) (by decide) (by decide) ?_
    exact kk_iret hm.1 hm.2.1 dX9_law_34 ⟨_, rfl, rfl, h⟩
def w_X9_fault  (a0 : Nat) (T : kw_T) (n : Nat) (r : kw_R) (i : kw_I) (w : kw_L) (Q : Int32 → Prop) : Prop :=
  Q (i a0 11)
abbrev rm_X9_fault : Room := { frames := 1, cells := 0, slots := 0, locals := 60 }
set_option maxHeartbeats 4000000 in
set_option maxRecDepth 100000 in
theorem t_X9_fault {l : Launch} {G : kw_G} {a0 : Nat} {T : kw_T} {n : Nat} {r : kw_R} {i : kw_I} {w : kw_L} {Q : Int32 → Prop} (h0 : T a0 = (0, 9)) (h : w_X9_fault a0 T n r i w Q) : kw_Met l G yX9_fault cX9_fault 1 (some .int) rm_X9_fault [kw_a a0] (T, n, r, i, w) (kw_PI (fun v T' n' r' i' w' => T = T' ∧ n = n' ∧ r = r' ∧ i = i' ∧ w = w' ∧ Q v)) := by
  refine kw_Met.of (by decide) (Nat.le_of_ble_eq_true rfl) fun E hl hRm hE hT hnm => ?_
  have hm : kw_m E G cX9_fault 1 RX9 (some .int) rm_X9_fault "fault" := ⟨hE, hT, hRm, hnm⟩
  subst hl
  show kw_K E G 1 0 0 (kw_Z E G 0 0 (kw_PI (fun v T' n' r' i' w' => T = T' ∧ n = n' ∧ r = r' ∧ i = i' ∧ w = w' ∧ Q v))) 0 [(0, kw_a a0)] [] T n r i w
  refine kk_aload_n hm.1 0 dX9_fault_0 rfl rfl ?_
  refine kk_getI hm.1 ff_X9_75 dX9_fault_1 h0 ?_
  exact kk_iret hm.1 hm.2.1 dX9_fault_4 ⟨_, rfl, rfl, rfl, rfl, rfl, rfl, h⟩
def w_X9_force_20 (a0 : Nat) (x1 : Int32) (T : kw_T) (n : Nat) (r : kw_R) (w : kw_L) (Q : Int32 → kw_I → Prop)  (i : kw_I) : Prop :=
  w_X9_refuse a0 (-2 : Int32) T n r i w (fun v23 i23 => Q v23 i23)
def w_X9_force_27 (a0 : Nat) (x1 : Int32) (T : kw_T) (n : Nat) (r : kw_R) (w : kw_L) (Q : Int32 → kw_I → Prop)  (i : kw_I) : Prop :=
  T ((r a0 0)) = (0, 6) ∧ (∀ i40 : kw_I, i40 = kw_st i (r a0 0) 7 x1 → (w_X9_changed a0 (i (r a0 0) 7) T n r i40 w (fun v45 i45 => Q v45 i45)))
def w_X9_force  (a0 : Nat) (x1 : Int32) (T : kw_T) (n : Nat) (r : kw_R) (i : kw_I) (w : kw_L) (Q : Int32 → kw_I → Prop) : Prop :=
  (x1 = (-1 : Int32) → w_X9_force_27 a0 x1 T n r w Q  i) ∧ (¬ x1 = (-1 : Int32) → (x1 < 0 → w_X9_force_20 a0 x1 T n r w Q  i) ∧ (¬ x1 < 0 → T ((r a0 0)) = (0, 6) ∧ ((x1 < (i (r a0 0) 6) → w_X9_force_27 a0 x1 T n r w Q  i) ∧ (¬ x1 < (i (r a0 0) 6) → w_X9_force_20 a0 x1 T n r w Q  i))))
abbrev rm_X9_force : Room := { frames := 3, cells := 0, slots := 0, locals := 102 }
set_option maxHeartbeats 4000000 in
set_option maxRecDepth 100000 in
theorem q_X9_force_20 {a0 : Nat} {x1 : Int32} {T : kw_T} {n : Nat} {r : kw_R} {w : kw_L} {Q : Int32 → kw_I → Prop} {E : kw_E} {G : kw_G} (hm : kw_m E G cX9_force 3 RX9 (some .int) rm_X9_force "force")  (h0 : T a0 = (0, 9))    (i : kw_I) (h : w_X9_force_20 a0 x1 T n r w Q  i) : kw_K E G 3 0 0 (kw_Z E G 0 0 (kw_PI (fun v T' n' r' i' w' => T = T' ∧ n = n' ∧ r = r' ∧ w = w' ∧ Q v i'))) 20 [(0, kw_a a0), (1, kw_i x1)] [] T n r i w := by
  refine kk_aload_n hm.1 0 dX9_force_20 rfl rfl ?_
  refine kk_bipush (v := (-2 : Int32)) hm.1 dX9_force_21 (by decide) ?_
  refine kk_callVi (cs' := 0) (sl' := 0) (st := []) hm.1 cv_X9_86 (t_X9_refuse h0 h) dX9_force_23 h0 rfl rfl hm.2.2.1 ⟨by decide, by decide⟩ ⟨by decide, by decide⟩ rfl rfl (Nat.le_of_ble_eq_true rfl) rfl ?_
  rintro v23 _ _ _ i23 _ ⟨rfl, rfl, rfl, rfl, h⟩
  exact kk_iret hm.1 hm.2.1 dX9_force_26 ⟨_, rfl, rfl, rfl, rfl, rfl, h⟩
set_option maxHeartbeats 4000000 in
set_option maxRecDepth 100000 in
theorem q_X9_force_27 {a0 : Nat} {x1 : Int32} {T : kw_T} {n : Nat} {r : kw_R} {w : kw_L} {Q : Int32 → kw_I → Prop} {E : kw_E} {G : kw_G} (hm : kw_m E G cX9_force 3 RX9 (some .int) rm_X9_force "force")  (h0 : T a0 = (0, 9))    (i : kw_I) (h : w_X9_force_27 a0 x1 T n r w Q  i) : kw_K E G 3 0 0 (kw_Z E G 0 0 (kw_PI (fun v T' n' r' i' w' => T = T' ∧ n = n' ∧ r = r' ∧ w = w' ∧ Q v i'))) 27 [(0, kw_a a0), (1, kw_i x1)] [] T n r i w := by
  refine kk_aload_n hm.1 0 dX9_force_27 rfl rfl ?_
  refine kk_getR hm.1 ff_X9_10 dX9_force_28 h0 ?_
  obtain ⟨o31, h⟩ := h
  refine kk_getI hm.1 ff_X9_159 dX9_force_31 o31 ?_
  refine kk_istore_n (L' := [(2, kw_i (i (r a0 0) 7)), (0, kw_a a0), (1, kw_i x1)]) hm.1 dX9_force_34 rfl (by decide) rfl ?_
  refine kk_aload_n hm.1 1 dX9_force_35 rfl rfl ?_
  refine kk_getR hm.1 ff_X9_10 dX9_force_36 h0 ?_
  refine kk_iload_n hm.1 2 dX9_force_39 rfl rfl ?_
  refine kn_putI hm.1 fp_X9_159 dX9_force_40 o31 (fun i40 e40 => ?_)
  have h := h i40 e40
  refine kk_aload_n hm.1 1 dX9_force_43 rfl rfl ?_
  refine kk_iload_n hm.1 0 dX9_force_44 rfl rfl ?_
  refine kk_callVi (cs' := 0) (sl' := 0) (st := []) hm.1 cv_X9_101 (t_X9_changed h0 h) dX9_force_45 h0 rfl rfl hm.2.2.1 ⟨by decide, by decide⟩ ⟨by decide, by decide⟩ rfl rfl (Nat.le_of_ble_eq_true rfl) rfl ?_
  rintro v45 _ _ _ i45 _ ⟨rfl, rfl, rfl, rfl, h⟩
  exact kk_iret hm.1 hm.2.1 dX9_force_48 ⟨_, rfl, rfl, rfl, rfl, rfl, h⟩
set_option maxHeartbeats 4000000 in
set_option maxRecDepth 100000 in
theorem t_X9_force {l : Launch} {G : kw_G} {a0 : Nat} {x1 : Int32} {T : kw_T} {n : Nat} {r : kw_R} {i : kw_I} {w : kw_L} {Q : Int32 → kw_I → Prop} (h0 : T a0 = (0, 9)) (h : w_X9_force a0 x1 T n r i w Q) : kw_Met l G yX9_force cX9_force 3 (some .int) rm_X9_force [kw_a a0, kw_i x1] (T, n, r, i, w) (kw_PI (fun v T' n' r' i' w' => T = T' ∧ n = n' ∧ r = r' ∧ w = w' ∧ Q v i')) := by
  refine kw_Met.of (by decide) (Nat.le_of_ble_eq_true rfl) fun E hl hRm hE hT hnm => ?_
  have hm : kw_m E G cX9_force 3 RX9 (some .int) rm_X9_force "force" := ⟨hE, hT, hRm, hnm⟩
  subst hl
  show kw_K E G 3 0 0 (kw_Z E G 0 0 (kw_PI (fun v T' n' r' i' w' => T = T' ∧ n = n' ∧ r = r' ∧ w = w' ∧ Q v i'))) 0 [(0, kw_a a0), (1, kw_i x1)] [] T n r i w
  refine kk_iload_n hm.1 1 dX9_force_0 rfl rfl ?_
  refine kk_iconst (v := (-1 : Int32)) hm.1 dX9_force_1 (by decide) ?_
  refine kk_icmp_eq (tgt := 27) hm.1 dX9_force_2 (by decide) (fun c2 => ?_) (fun c2 => ?_)
  · have h := h.1 c2
    exact q_X9_force_27 hm  h0   i h
  · have h := h.2 c2
    refine kk_iload_n hm.1 1 dX9_force_5 rfl rfl ?_
    refine kk_if_lt (tgt := 20) hm.1 dX9_force_6 (by decide) (fun c6 => ?_) (fun c6 => ?_)
    · have h := h.1 c6
      exact q_X9_force_20 hm  h0   i h
    · have h := h.2 c6
      refine kk_iload_n hm.1 1 dX9_force_9 rfl rfl ?_
      refine kk_aload_n hm.1 0 dX9_force_10 rfl rfl ?_
      refine kk_getR hm.1 ff_X9_10 dX9_force_11 h0 ?_
      obtain ⟨o14, h⟩ := h
      refine kk_getI hm.1 ff_X9_145 dX9_force_14 o14 ?_
      refine kk_icmp_lt (tgt := 27) hm.1 dX9_force_17 (by decide) (fun c17 => ?_) (fun c17 => ?_)
      · have h := h.1 c17
        exact q_X9_force_27 hm  h0   i h
      · have h := h.2 c17
        exact q_X9_force_20 hm  h0   i h
def w_X9_weaveIfStale  (a0 : Nat) (T : kw_T) (n : Nat) (r : kw_R) (i : kw_I) (w : kw_L) (Q : kw_R → kw_I → kw_L → Prop) : Prop :=
  (¬ (i a0 12) = 0 → T ((r a0 4)) = (0, 5) ∧ (w_X5_weaveAll (r a0 4) (r a0 0) T n r i w (fun r16 i16 w16 => T ((r16 a0 5)) = (0, 0) ∧ (w_X0_forget (r16 a0 5) T n r16 i16 w16 (fun i23 => ∀ i28 : kw_I, i28 = kw_st i23 a0 12 (0 : Int32) → (Q r16 i28 w16)))))) ∧ ((i a0 12) = 0 → Q r i w)
abbrev rm_X9_weaveIfStale : Room := { frames := 6, cells := 0, slots := 0, locals := 190 }
set_option maxHeartbeats 4000000 in
set_option maxRecDepth 100000 in
theorem t_X9_weaveIfStale {l : Launch} {G : kw_G} {a0 : Nat} {T : kw_T} {n : Nat} {r : kw_R} {i : kw_I} {w : kw_L} {Q : kw_R → kw_I → kw_L → Prop} (h0 : T a0 = (0, 9)) (h : w_X9_weaveIfStale a0 T n r i w Q) : kw_Met l G yX9_weaveIfStale cX9_weaveIfStale 1 none rm_X9_weaveIfStale [kw_a a0] (T, n, r, i, w) (kw_PV (fun T' n' r' i' w' => T = T' ∧ n = n' ∧ Q r' i' w')) := by
  refine kw_Met.of (by decide) (Nat.le_of_ble_eq_true rfl) fun E hl hRm hE hT hnm => ?_
  have hm : kw_m E G cX9_weaveIfStale 1 RX9 none rm_X9_weaveIfStale "weaveIfStale" := ⟨hE, hT, hRm, hnm⟩
  subst hl
  show kw_K E G 1 0 0 (kw_Z E G 0 0 (kw_PV (fun T' n' r' i' w' => T = T' ∧ n = n' ∧ Q r' i' w'))) 0 [(0, kw_a a0)] [] T n r i w
  refine kk_aload_n hm.1 0 dX9_weaveIfStale_0 rfl rfl ?_
  refine kk_getI hm.1 ff_X9_78 dX9_weaveIfStale_1 h0 ?_
  refine kk_if_ne (tgt := 8) hm.1 dX9_weaveIfStale_4 (by decide) (fun c4 => ?_) (fun c4 => ?_)
  · have h := h.1 c4
    refine kk_aload_n hm.1 0 dX9_weaveIfStale_8 rfl rfl ?_
    refine kk_getR hm.1 ff_X9_37 dX9_weaveIfStale_9 h0 ?_
    refine kk_aload_n hm.1 0 dX9_weaveIfStale_12 rfl rfl ?_
    refine kk_getR hm.1 ff_X9_10 dX9_weaveIfStale_13 h0 ?_
    obtain ⟨o16, h⟩ := h
    refine kk_callVv (cs' := 0) (sl' := 0) (st := []) hm.1 cv_X9_260 (t_X5_weaveAll o16 h) dX9_weaveIfStale_16 o16 rfl rfl hm.2.2.1 ⟨by decide, by decide⟩ ⟨by decide, by decide⟩ rfl rfl (Nat.le_of_ble_eq_true rfl) rfl ?_
    rintro _ _ r16 i16 w16 ⟨rfl, rfl, h⟩
    refine kk_aload_n hm.1 0 dX9_weaveIfStale_19 rfl rfl ?_
    refine kk_getR hm.1 ff_X9_46 dX9_weaveIfStale_20 h0 ?_
    obtain ⟨o23, h⟩ := h
    refine kk_callVv (cs' := 0) (sl' := 0) (st := []) hm.1 cv_X9_262 (t_X0_forget o23 h) dX9_weaveIfStale_23 o23 rfl rfl hm.2.2.1 ⟨by decide, by decide⟩ ⟨by decide, by decide⟩ rfl rfl (Nat.le_of_ble_eq_true rfl) rfl ?_
    rintro _ _ _ i23 _ ⟨rfl, rfl, rfl, rfl, h⟩
    refine kk_aload_n hm.1 0 dX9_weaveIfStale_26 rfl rfl ?_
    refine kk_iconst (v := (0 : Int32)) hm.1 dX9_weaveIfStale_27 (by decide) ?_
    refine kn_putZ hm.1 fp_X9_78 dX9_weaveIfStale_28 h0 (Or.inl rfl) (fun i28 e28 => ?_)
    have h := h i28 e28
    exact kk_vret hm.1 hm.2.1 dX9_weaveIfStale_31 ⟨rfl, rfl, rfl, h⟩
  · have h := h.2 c4
    exact kk_vret hm.1 hm.2.1 dX9_weaveIfStale_7 ⟨rfl, rfl, rfl, h⟩
def w_X9_woven  (a0 : Nat) (x1 : Int32) (x2 : Int32) (x3 : Int32) (T : kw_T) (n : Nat) (r : kw_R) (i : kw_I) (w : kw_L) (Q : Int32 → kw_R → kw_I → kw_L → Prop) : Prop :=
  w_X9_isVillage a0 x1 T n r i w (fun v2 => (v2 = 0 → Q (-1 : Int32) r i w) ∧ (¬ v2 = 0 → w_X9_isCell x2 T n r i w (fun v9 => (v9 = 0 → Q (-1 : Int32) r i w) ∧ (¬ v9 = 0 → (x3 < 0 → Q (-1 : Int32) r i w) ∧ (¬ x3 < 0 → (x3 ≤ (1 : Int32) → w_X9_weaveIfStale a0 T n r i w (fun r27 i27 w27 => (¬ x3 = 0 → T ((r27 a0 4)) = (0, 5) ∧ (w_X5_backward (r27 a0 4) T n r27 i27 w27 (fun v52 i52 w52 => kw_in T 5 v52 x1 ∧ (kw_in T 1 (r27 v52 (x1).toNatClampNeg) x2 ∧ (Q (i52 (r27 v52 (x1).toNatClampNeg) (x2).toNatClampNeg) r27 i52 w52))))) ∧ (x3 = 0 → T ((r27 a0 4)) = (0, 5) ∧ (kw_in T 5 (r27 (r27 a0 4) 1) x1 ∧ (kw_in T 1 (r27 (r27 (r27 a0 4) 1) (x1).toNatClampNeg) x2 ∧ (Q (i27 (r27 (r27 (r27 a0 4) 1) (x1).toNatClampNeg) (x2).toNatClampNeg) r27 i27 w27)))))) ∧ (¬ x3 ≤ (1 : Int32) → Q (-1 : Int32) r i w))))))
abbrev rm_X9_woven : Room := { frames := 7, cells := 0, slots := 0, locals := 210 }
set_option maxHeartbeats 4000000 in
set_option maxRecDepth 100000 in
theorem t_X9_woven {l : Launch} {G : kw_G} {a0 : Nat} {x1 : Int32} {x2 : Int32} {x3 : Int32} {T : kw_T} {n : Nat} {r : kw_R} {i : kw_I} {w : kw_L} {Q : Int32 → kw_R → kw_I → kw_L → Prop} (h0 : T a0 = (0, 9)) (h : w_X9_woven a0 x1 x2 x3 T n r i w Q) : kw_Met l G yX9_woven cX9_woven 4 (some .int) rm_X9_woven [kw_a a0, kw_i x1, kw_i x2, kw_i x3] (T, n, r, i, w) (kw_PI (fun v T' n' r' i' w' => T = T' ∧ n = n' ∧ Q v r' i' w')) := by
  refine kw_Met.of (by decide) (Nat.le_of_ble_eq_true rfl) fun E hl hRm hE hT hnm => ?_
  have hm : kw_m E G cX9_woven 4 RX9 (some .int) rm_X9_woven "woven" := ⟨hE, hT, hRm, hnm⟩
  subst hl
  show kw_K E G 4 0 0 (kw_Z E G 0 0 (kw_PI (fun v T' n' r' i' w' => T = T' ∧ n = n' ∧ Q v r' i' w'))) 0 [(0, kw_a a0), (1, kw_i x1), (2, kw_i x2), (3, kw_i x3)] [] T n r i w
  refine kk_aload_n hm.1 0 dX9_woven_0 rfl rfl ?_
  refine kk_iload_n hm.1 1 dX9_woven_1 rfl rfl ?_
  refine kk_callVi (cs' := 0) (sl' := 0) (st := []) hm.1 cv_X9_108 (t_X9_isVillage h0 h) dX9_woven_2 h0 rfl rfl hm.2.2.1 ⟨by decide, by decide⟩ ⟨by decide, by decide⟩ rfl rfl (Nat.le_of_ble_eq_true rfl) rfl ?_
  rintro v2 _ _ _ _ _ ⟨rfl, rfl, rfl, rfl, rfl, h⟩
  refine kk_if_eq (tgt := 24) hm.1 dX9_woven_5 (by decide) (fun c5 => ?_) (fun c5 => ?_)
  · have h := h.1 c5
    refine kk_iconst (v := (-1 : Int32)) hm.1 dX9_woven_24 (by decide) ?_
    exact kk_iret hm.1 hm.2.1 dX9_woven_25 ⟨_, rfl, rfl, rfl, h⟩
  · have h := h.2 c5
    refine kk_iload_n hm.1 2 dX9_woven_8 rfl rfl ?_
    refine kk_callSi (cs' := 0) (sl' := 0) (st := []) hm.1 cs_X9_114 (t_X9_isCell h) dX9_woven_9 rfl hm.2.2.1 ⟨by decide, by decide⟩ ⟨by decide, by decide⟩ rfl rfl (Nat.le_of_ble_eq_true rfl) rfl ?_
    rintro v9 _ _ _ _ _ ⟨rfl, rfl, rfl, rfl, rfl, h⟩
    refine kk_if_eq (tgt := 24) hm.1 dX9_woven_12 (by decide) (fun c12 => ?_) (fun c12 => ?_)
    · have h := h.1 c12
      refine kk_iconst (v := (-1 : Int32)) hm.1 dX9_woven_24 (by decide) ?_
      exact kk_iret hm.1 hm.2.1 dX9_woven_25 ⟨_, rfl, rfl, rfl, h⟩
    · have h := h.2 c12
      refine kk_iload_n hm.1 3 dX9_woven_15 rfl rfl ?_
      refine kk_if_lt (tgt := 24) hm.1 dX9_woven_16 (by decide) (fun c16 => ?_) (fun c16 => ?_)
      · have h := h.1 c16
        refine kk_iconst (v := (-1 : Int32)) hm.1 dX9_woven_24 (by decide) ?_
        exact kk_iret hm.1 hm.2.1 dX9_woven_25 ⟨_, rfl, rfl, rfl, h⟩
      · have h := h.2 c16
        refine kk_iload_n hm.1 3 dX9_woven_19 rfl rfl ?_
        refine kk_iconst (v := (1 : Int32)) hm.1 dX9_woven_20 (by decide) ?_
        refine kk_icmp_le (tgt := 26) hm.1 dX9_woven_21 (by decide) (fun c21 => ?_) (fun c21 => ?_)
        · have h := h.1 c21
          refine kk_aload_n hm.1 0 dX9_woven_26 rfl rfl ?_
          refine kk_callVv (cs' := 0) (sl' := 0) (st := []) hm.1 cv_X9_162 (t_X9_weaveIfStale h0 h) dX9_woven_27 h0 rfl rfl hm.2.2.1 ⟨by decide, by decide⟩ ⟨by decide, by decide⟩ rfl rfl (Nat.le_of_ble_eq_true rfl) rfl ?_
          rintro _ _ r27 i27 w27 ⟨rfl, rfl, h⟩
          refine kk_iload_n hm.1 3 dX9_woven_30 rfl rfl ?_
          refine kk_if_ne (tgt := 48) hm.1 dX9_woven_31 (by decide) (fun c31 => ?_) (fun c31 => ?_)
          · have h := h.1 c31
            refine kk_aload_n hm.1 0 dX9_woven_48 rfl rfl ?_
            refine kk_getR hm.1 ff_X9_37 dX9_woven_49 h0 ?_
            obtain ⟨o52, h⟩ := h
            refine kk_callVa (cs' := 0) (sl' := 0) (st := []) hm.1 cv_X9_168 (t_X5_backward o52 h) dX9_woven_52 o52 rfl rfl hm.2.2.1 ⟨by decide, by decide⟩ ⟨by decide, by decide⟩ rfl rfl (Nat.le_of_ble_eq_true rfl) rfl ?_
            rintro v52 _ _ _ i52 w52 ⟨rfl, rfl, rfl, h⟩
            refine kk_iload_n hm.1 1 dX9_woven_55 rfl rfl ?_
            obtain ⟨o56, h⟩ := h
            refine kk_aaload hm.1 5 (by decide) (by decide) rfl rfl dX9_woven_56 o56 ?_
            refine kk_iload_n hm.1 2 dX9_woven_57 rfl rfl ?_
            obtain ⟨o58, h⟩ := h
            refine kk_iaload hm.1 dX9_woven_58 o58 ?_
            exact kk_iret hm.1 hm.2.1 dX9_woven_59 ⟨_, rfl, rfl, rfl, h⟩
          · have h := h.2 c31
            refine kk_aload_n hm.1 0 dX9_woven_34 rfl rfl ?_
            refine kk_getR hm.1 ff_X9_37 dX9_woven_35 h0 ?_
            obtain ⟨o38, h⟩ := h
            refine kk_getR hm.1 ff_X9_165 dX9_woven_38 o38 ?_
            refine kk_iload_n hm.1 1 dX9_woven_41 rfl rfl ?_
            obtain ⟨o42, h⟩ := h
            refine kk_aaload hm.1 5 (by decide) (by decide) rfl rfl dX9_woven_42 o42 ?_
            refine kk_iload_n hm.1 2 dX9_woven_43 rfl rfl ?_
            obtain ⟨o44, h⟩ := h
            refine kk_iaload hm.1 dX9_woven_44 o44 ?_
            refine kk_goto (tgt := 59) hm.1 dX9_woven_45 (by decide) ?_
            exact kk_iret hm.1 hm.2.1 dX9_woven_59 ⟨_, rfl, rfl, rfl, h⟩
        · have h := h.2 c21
          refine kk_iconst (v := (-1 : Int32)) hm.1 dX9_woven_24 (by decide) ?_
          exact kk_iret hm.1 hm.2.1 dX9_woven_25 ⟨_, rfl, rfl, rfl, h⟩
def w_X9_isVillageOrNone  (a0 : Nat) (x1 : Int32) (T : kw_T) (n : Nat) (r : kw_R) (i : kw_I) (w : kw_L) (Q : Int32 → Prop) : Prop :=
  (x1 = (-1 : Int32) → Q (1 : Int32)) ∧ (¬ x1 = (-1 : Int32) → w_X9_isVillage a0 x1 T n r i w (fun v7 => (v7 = 0 → Q (0 : Int32)) ∧ (¬ v7 = 0 → Q (1 : Int32))))
abbrev rm_X9_isVillageOrNone : Room := { frames := 2, cells := 0, slots := 0, locals := 81 }
set_option maxHeartbeats 4000000 in
set_option maxRecDepth 100000 in
theorem t_X9_isVillageOrNone {l : Launch} {G : kw_G} {a0 : Nat} {x1 : Int32} {T : kw_T} {n : Nat} {r : kw_R} {i : kw_I} {w : kw_L} {Q : Int32 → Prop} (h0 : T a0 = (0, 9)) (h : w_X9_isVillageOrNone a0 x1 T n r i w Q) : kw_Met l G yX9_isVillageOrNone cX9_isVillageOrNone 2 (some .boolean) rm_X9_isVillageOrNone [kw_a a0, kw_i x1] (T, n, r, i, w) (kw_PI (fun v T' n' r' i' w' => T = T' ∧ n = n' ∧ r = r' ∧ i = i' ∧ w = w' ∧ Q v)) := by
  refine kw_Met.of (by decide) (Nat.le_of_ble_eq_true rfl) fun E hl hRm hE hT hnm => ?_
  have hm : kw_m E G cX9_isVillageOrNone 2 RX9 (some .boolean) rm_X9_isVillageOrNone "isVillageOrNone" := ⟨hE, hT, hRm, hnm⟩
  subst hl
  show kw_K E G 2 0 0 (kw_Z E G 0 0 (kw_PI (fun v T' n' r' i' w' => T = T' ∧ n = n' ∧ r = r' ∧ i = i' ∧ w = w' ∧ Q v))) 0 [(0, kw_a a0), (1, kw_i x1)] [] T n r i w
  refine kk_iload_n hm.1 1 dX9_isVillageOrNone_0 rfl rfl ?_
  refine kk_iconst (v := (-1 : Int32)) hm.1 dX9_isVillageOrNone_1 (by decide) ?_
  refine kk_icmp_eq (tgt := 13) hm.1 dX9_isVillageOrNone_2 (by decide) (fun c2 => ?_) (fun c2 => ?_)
  · have h := h.1 c2
    refine kk_iconst (v := (1 : Int32)) hm.1 dX9_isVillageOrNone_13 (by decide) ?_
    refine kk_goto (tgt := 18) hm.1 dX9_isVillageOrNone_14 (by decide) ?_
    exact kk_zret hm.1 hm.2.1 dX9_isVillageOrNone_18 (Or.inr rfl) ⟨_, rfl, rfl, rfl, rfl, rfl, rfl, h⟩
  · have h := h.2 c2
    refine kk_aload_n hm.1 0 dX9_isVillageOrNone_5 rfl rfl ?_
    refine kk_iload_n hm.1 1 dX9_isVillageOrNone_6 rfl rfl ?_
    refine kk_callVi (cs' := 0) (sl' := 0) (st := []) hm.1 cv_X9_108 (t_X9_isVillage h0 h) dX9_isVillageOrNone_7 h0 rfl rfl hm.2.2.1 ⟨by decide, by decide⟩ ⟨by decide, by decide⟩ rfl rfl (Nat.le_of_ble_eq_true rfl) rfl ?_
    rintro v7 _ _ _ _ _ ⟨rfl, rfl, rfl, rfl, rfl, h⟩
    refine kk_if_eq (tgt := 17) hm.1 dX9_isVillageOrNone_10 (by decide) (fun c10 => ?_) (fun c10 => ?_)
    · have h := h.1 c10
      refine kk_iconst (v := (0 : Int32)) hm.1 dX9_isVillageOrNone_17 (by decide) ?_
      exact kk_zret hm.1 hm.2.1 dX9_isVillageOrNone_18 (Or.inl rfl) ⟨_, rfl, rfl, rfl, rfl, rfl, rfl, h⟩
    · have h := h.2 c10
      refine kk_iconst (v := (1 : Int32)) hm.1 dX9_isVillageOrNone_13 (by decide) ?_
      refine kk_goto (tgt := 18) hm.1 dX9_isVillageOrNone_14 (by decide) ?_
      exact kk_zret hm.1 hm.2.1 dX9_isVillageOrNone_18 (Or.inr rfl) ⟨_, rfl, rfl, rfl, rfl, rfl, rfl, h⟩
def w_X9_like  (a0 : Nat) (x1 : Int32) (x2 : Int32) (T : kw_T) (n : Nat) (r : kw_R) (i : kw_I) (w : kw_L) (Q : Int32 → kw_R → kw_I → kw_L → Prop) : Prop :=
  w_X9_isVillageOrNone a0 x1 T n r i w (fun v2 => (v2 = 0 → Q (-1 : Int32) r i w) ∧ (¬ v2 = 0 → w_X9_isVillageOrNone a0 x2 T n r i w (fun v10 => (¬ v10 = 0 → w_X9_weaveIfStale a0 T n r i w (fun r19 i19 w19 => T ((r19 a0 4)) = (0, 5) ∧ (w_X5_picture (r19 a0 4) x1 T n r19 i19 w19 (fun v27 => w_X5_picture (r19 a0 4) x2 T n r19 i19 w19 (fun v35 => w_X9_likeness v27 v35 T n r19 i19 w19 (fun v38 => Q v38 r19 i19 w19)))))) ∧ (v10 = 0 → Q (-1 : Int32) r i w))))
abbrev rm_X9_like : Room := { frames := 7, cells := 0, slots := 0, locals := 210 }
set_option maxHeartbeats 4000000 in
set_option maxRecDepth 100000 in
theorem t_X9_like {l : Launch} {G : kw_G} {a0 : Nat} {x1 : Int32} {x2 : Int32} {T : kw_T} {n : Nat} {r : kw_R} {i : kw_I} {w : kw_L} {Q : Int32 → kw_R → kw_I → kw_L → Prop} (h0 : T a0 = (0, 9)) (h : w_X9_like a0 x1 x2 T n r i w Q) : kw_Met l G yX9_like cX9_like 3 (some .int) rm_X9_like [kw_a a0, kw_i x1, kw_i x2] (T, n, r, i, w) (kw_PI (fun v T' n' r' i' w' => T = T' ∧ n = n' ∧ Q v r' i' w')) := by
  refine kw_Met.of (by decide) (Nat.le_of_ble_eq_true rfl) fun E hl hRm hE hT hnm => ?_
  have hm : kw_m E G cX9_like 3 RX9 (some .int) rm_X9_like "like" := ⟨hE, hT, hRm, hnm⟩
  subst hl
  show kw_K E G 3 0 0 (kw_Z E G 0 0 (kw_PI (fun v T' n' r' i' w' => T = T' ∧ n = n' ∧ Q v r' i' w'))) 0 [(0, kw_a a0), (1, kw_i x1), (2, kw_i x2)] [] T n r i w
  refine kk_aload_n hm.1 0 dX9_like_0 rfl rfl ?_
  refine kk_iload_n hm.1 1 dX9_like_1 rfl rfl ?_
  refine kk_callVi (cs' := 0) (sl' := 0) (st := []) hm.1 cv_X9_172 (t_X9_isVillageOrNone h0 h) dX9_like_2 h0 rfl rfl hm.2.2.1 ⟨by decide, by decide⟩ ⟨by decide, by decide⟩ rfl rfl (Nat.le_of_ble_eq_true rfl) rfl ?_
  rintro v2 _ _ _ _ _ ⟨rfl, rfl, rfl, rfl, rfl, h⟩
  refine kk_if_eq (tgt := 16) hm.1 dX9_like_5 (by decide) (fun c5 => ?_) (fun c5 => ?_)
  · have h := h.1 c5
    refine kk_iconst (v := (-1 : Int32)) hm.1 dX9_like_16 (by decide) ?_
    exact kk_iret hm.1 hm.2.1 dX9_like_17 ⟨_, rfl, rfl, rfl, h⟩
  · have h := h.2 c5
    refine kk_aload_n hm.1 0 dX9_like_8 rfl rfl ?_
    refine kk_iload_n hm.1 2 dX9_like_9 rfl rfl ?_
    refine kk_callVi (cs' := 0) (sl' := 0) (st := []) hm.1 cv_X9_172 (t_X9_isVillageOrNone h0 h) dX9_like_10 h0 rfl rfl hm.2.2.1 ⟨by decide, by decide⟩ ⟨by decide, by decide⟩ rfl rfl (Nat.le_of_ble_eq_true rfl) rfl ?_
    rintro v10 _ _ _ _ _ ⟨rfl, rfl, rfl, rfl, rfl, h⟩
    refine kk_if_ne (tgt := 18) hm.1 dX9_like_13 (by decide) (fun c13 => ?_) (fun c13 => ?_)
    · have h := h.1 c13
      refine kk_aload_n hm.1 0 dX9_like_18 rfl rfl ?_
      refine kk_callVv (cs' := 0) (sl' := 0) (st := []) hm.1 cv_X9_162 (t_X9_weaveIfStale h0 h) dX9_like_19 h0 rfl rfl hm.2.2.1 ⟨by decide, by decide⟩ ⟨by decide, by decide⟩ rfl rfl (Nat.le_of_ble_eq_true rfl) rfl ?_
      rintro _ _ r19 i19 w19 ⟨rfl, rfl, h⟩
      refine kk_aload_n hm.1 0 dX9_like_22 rfl rfl ?_
      refine kk_getR hm.1 ff_X9_37 dX9_like_23 h0 ?_
      refine kk_iload_n hm.1 1 dX9_like_26 rfl rfl ?_
      obtain ⟨o27, h⟩ := h
      refine kk_callVa (cs' := 0) (sl' := 0) (st := []) hm.1 cv_X9_175 (t_X5_picture o27 h) dX9_like_27 o27 rfl rfl hm.2.2.1 ⟨by decide, by decide⟩ ⟨by decide, by decide⟩ rfl rfl (Nat.le_of_ble_eq_true rfl) rfl ?_
      rintro v27 _ _ _ _ _ ⟨rfl, rfl, rfl, rfl, rfl, h⟩
      refine kk_aload_n hm.1 0 dX9_like_30 rfl rfl ?_
      refine kk_getR hm.1 ff_X9_37 dX9_like_31 h0 ?_
      refine kk_iload_n hm.1 2 dX9_like_34 rfl rfl ?_
      refine kk_callVa (cs' := 0) (sl' := 0) (st := [kw_a v27]) hm.1 cv_X9_175 (t_X5_picture o27 h) dX9_like_35 o27 rfl rfl hm.2.2.1 ⟨by decide, by decide⟩ ⟨by decide, by decide⟩ rfl rfl (Nat.le_of_ble_eq_true rfl) rfl ?_
      rintro v35 _ _ _ _ _ ⟨rfl, rfl, rfl, rfl, rfl, h⟩
      refine kk_callSi (cs' := 0) (sl' := 0) (st := []) hm.1 cs_X9_179 (t_X9_likeness h) dX9_like_38 rfl hm.2.2.1 ⟨by decide, by decide⟩ ⟨by decide, by decide⟩ rfl rfl (Nat.le_of_ble_eq_true rfl) rfl ?_
      rintro v38 _ _ _ _ _ ⟨rfl, rfl, rfl, rfl, rfl, h⟩
      exact kk_iret hm.1 hm.2.1 dX9_like_41 ⟨_, rfl, rfl, rfl, h⟩
    · have h := h.2 c13
      refine kk_iconst (v := (-1 : Int32)) hm.1 dX9_like_16 (by decide) ?_
      exact kk_iret hm.1 hm.2.1 dX9_like_17 ⟨_, rfl, rfl, rfl, h⟩
def s_X9_costs_43 (a0 : Nat) (x1 : Int32) (T : kw_T) (n : Nat) (Q : Int32 → kw_R → kw_I → kw_L → Prop)  (k43 : Nat → Int32 → Int32 → kw_R → kw_I → kw_L → Prop) (a2 : Nat) (x3 : Int32) (x4 : Int32) (r : kw_R) (i : kw_I) (w : kw_L) : Prop :=
  ((36 : Int32) ≤ x4 → Q x3 r i w) ∧ (¬ (36 : Int32) ≤ x4 → T ((r a0 0)) = (0, 6) ∧ (kw_in T 1 a2 x4 ∧ (kw_in T 1 (r (r a0 0) 2) (i a2 (x4).toNatClampNeg) ∧ (k43 a2 ((x3 + (i (r (r a0 0) 2) ((i a2 (x4).toNatClampNeg)).toNatClampNeg))) ((x4 + (1 : Int32))) r i w))))
def w_X9_costs_43 (a0 : Nat) (x1 : Int32) (T : kw_T) (n : Nat) (Q : Int32 → kw_R → kw_I → kw_L → Prop)  : Nat → Nat → Int32 → Int32 → kw_R → kw_I → kw_L → Prop
  | 0 => fun _ _ _ _ _ _ => False
  | N + 1 => s_X9_costs_43 a0 x1 T n Q  (w_X9_costs_43 a0 x1 T n Q  N)
def w_X9_costs_37 (a0 : Nat) (x1 : Int32) (T : kw_T) (n : Nat) (Q : Int32 → kw_R → kw_I → kw_L → Prop)  (s0 : Nat) (r : kw_R) (i : kw_I) (w : kw_L) : Prop :=
  ∃ N, w_X9_costs_43 a0 x1 T n Q  N s0 ((0 : Int32)) ((0 : Int32)) r i w
def w_X9_costs  (a0 : Nat) (x1 : Int32) (T : kw_T) (n : Nat) (r : kw_R) (i : kw_I) (w : kw_L) (Q : Int32 → kw_R → kw_I → kw_L → Prop) : Prop :=
  w_X9_isVillageOrNone a0 x1 T n r i w (fun v2 => (¬ v2 = 0 → w_X9_weaveIfStale a0 T n r i w (fun r11 i11 w11 => (¬ x1 = (-1 : Int32) → T ((r11 a0 4)) = (0, 5) ∧ (w_X5_picture (r11 a0 4) x1 T n r11 i11 w11 (fun v34 => w_X9_costs_37 a0 x1 T n Q  v34 r11 i11 w11))) ∧ (x1 = (-1 : Int32) → T ((r11 a0 4)) = (0, 5) ∧ (w_X5_last (r11 a0 4) T n r11 i11 w11 (fun v23 => w_X9_costs_37 a0 x1 T n Q  v23 r11 i11 w11))))) ∧ (v2 = 0 → Q (-1 : Int32) r i w))
abbrev rm_X9_costs : Room := { frames := 7, cells := 0, slots := 0, locals := 210 }
set_option maxHeartbeats 4000000 in
set_option maxRecDepth 100000 in
theorem qs_X9_costs_43 {a0 : Nat} {x1 : Int32} {T : kw_T} {n : Nat} {Q : Int32 → kw_R → kw_I → kw_L → Prop} {E : kw_E} {G : kw_G} (hm : kw_m E G cX9_costs 5 RX9 (some .int) rm_X9_costs "costs")  (h0 : T a0 = (0, 9))    {k43 : Nat → Int32 → Int32 → kw_R → kw_I → kw_L → Prop} (hk43 : ∀ (a2 : Nat) (x3 : Int32) (x4 : Int32) (r : kw_R) (i : kw_I) (w : kw_L), k43 a2 x3 x4 r i w → kw_K E G 5 0 0 (kw_Z E G 0 0 (kw_PI (fun v T' n' r' i' w' => T = T' ∧ n = n' ∧ Q v r' i' w'))) 43 [(0, kw_a a0), (1, kw_i x1), (2, kw_a a2), (3, kw_i x3), (4, kw_i x4)] [] T n r i w) (a2 : Nat) (x3 : Int32) (x4 : Int32) (r : kw_R) (i : kw_I) (w : kw_L) (h : s_X9_costs_43 a0 x1 T n Q  k43 a2 x3 x4 r i w) : kw_K E G 5 0 0 (kw_Z E G 0 0 (kw_PI (fun v T' n' r' i' w' => T = T' ∧ n = n' ∧ Q v r' i' w'))) 43 [(0, kw_a a0), (1, kw_i x1), (2, kw_a a2), (3, kw_i x3), (4, kw_i x4)] [] T n r i w := by
  refine kk_iload hm.1 4 dX9_costs_43 rfl ?_
  refine kk_bipush (v := (36 : Int32)) hm.1 dX9_costs_45 (by decide) ?_
  refine kk_icmp_ge (tgt := 71) hm.1 dX9_costs_47 (by decide) (fun c47 => ?_) (fun c47 => ?_)
  · have h := h.1 c47
    refine kk_iload_n hm.1 3 dX9_costs_71 rfl rfl ?_
    exact kk_iret hm.1 hm.2.1 dX9_costs_72 ⟨_, rfl, rfl, rfl, h⟩
  · have h := h.2 c47
    refine kk_iload_n hm.1 3 dX9_costs_50 rfl rfl ?_
    refine kk_aload_n hm.1 0 dX9_costs_51 rfl rfl ?_
    refine kk_getR hm.1 ff_X9_10 dX9_costs_52 h0 ?_
    obtain ⟨o55, h⟩ := h
    refine kk_getR hm.1 ff_X9_120 dX9_costs_55 o55 ?_
    refine kk_aload_n hm.1 2 dX9_costs_58 rfl rfl ?_
    refine kk_iload hm.1 4 dX9_costs_59 rfl ?_
    obtain ⟨o61, h⟩ := h
    refine kk_iaload hm.1 dX9_costs_61 o61 ?_
    obtain ⟨o62, h⟩ := h
    refine kk_iaload hm.1 dX9_costs_62 o62 ?_
    refine kk_iadd hm.1 dX9_costs_63 ?_
    refine kk_istore_n (L' := [(3, kw_i (x3 + (i (r (r a0 0) 2) ((i a2 (x4).toNatClampNeg)).toNatClampNeg))), (0, kw_a a0), (1, kw_i x1), (2, kw_a a2), (4, kw_i x4)]) hm.1 dX9_costs_64 rfl (by decide) rfl ?_
    refine kk_iinc (v := (x4 + (1 : Int32))) (L' := [(4, kw_i (x4 + (1 : Int32))), (3, kw_i (x3 + (i (r (r a0 0) 2) ((i a2 (x4).toNatClampNeg)).toNatClampNeg))), (0, kw_a a0), (1, kw_i x1), (2, kw_a a2)]) hm.1 4 dX9_costs_65 rfl rfl (by decide) rfl ?_
    refine kk_goto (tgt := 43) hm.1 dX9_costs_68 (by decide) ?_
    refine kk_loc (L' := [(0, kw_a a0), (1, kw_i x1), (2, kw_a a2), (3, kw_i (x3 + (i (r (r a0 0) 2) ((i a2 (x4).toNatClampNeg)).toNatClampNeg))), (4, kw_i (x4 + (1 : Int32)))]) [2, 3, 4, 1, 0] rfl ?_
    exact hk43 a2 ((x3 + (i (r (r a0 0) 2) ((i a2 (x4).toNatClampNeg)).toNatClampNeg))) ((x4 + (1 : Int32))) r i w h
set_option maxHeartbeats 4000000 in
set_option maxRecDepth 100000 in
theorem q_X9_costs_43 {a0 : Nat} {x1 : Int32} {T : kw_T} {n : Nat} {Q : Int32 → kw_R → kw_I → kw_L → Prop} {E : kw_E} {G : kw_G} (hm : kw_m E G cX9_costs 5 RX9 (some .int) rm_X9_costs "costs")  (h0 : T a0 = (0, 9))    : ∀ (N : Nat) (a2 : Nat) (x3 : Int32) (x4 : Int32) (r : kw_R) (i : kw_I) (w : kw_L), w_X9_costs_43 a0 x1 T n Q  N a2 x3 x4 r i w → kw_K E G 5 0 0 (kw_Z E G 0 0 (kw_PI (fun v T' n' r' i' w' => T = T' ∧ n = n' ∧ Q v r' i' w'))) 43 [(0, kw_a a0), (1, kw_i x1), (2, kw_a a2), (3, kw_i x3), (4, kw_i x4)] [] T n r i w := by
  intro N
  induction N with
  | zero => intro a2 x3 x4 r i w h; exact h.elim
  | succ N ih => intro a2 x3 x4 r i w h; exact qs_X9_costs_43 hm  h0  ih a2 x3 x4 r i w h
set_option maxHeartbeats 4000000 in
set_option maxRecDepth 100000 in
theorem q_X9_costs_37 {a0 : Nat} {x1 : Int32} {T : kw_T} {n : Nat} {Q : Int32 → kw_R → kw_I → kw_L → Prop} {E : kw_E} {G : kw_G} (hm : kw_m E G cX9_costs 5 RX9 (some .int) rm_X9_costs "costs")  (h0 : T a0 = (0, 9))    (s0 : Nat) (r : kw_R) (i : kw_I) (w : kw_L) (h : w_X9_costs_37 a0 x1 T n Q  s0 r i w) : kw_K E G 5 0 0 (kw_Z E G 0 0 (kw_PI (fun v T' n' r' i' w' => T = T' ∧ n = n' ∧ Q v r' i' w'))) 37 [(0, kw_a a0), (1, kw_i x1)] [kw_a s0] T n r i w := by
  refine kk_astore_n (L' := [(2, kw_a s0), (0, kw_a a0), (1, kw_i x1)]) hm.1 dX9_costs_37 rfl (by decide) rfl ?_
  refine kk_iconst (v := (0 : Int32)) hm.1 dX9_costs_38 (by decide) ?_
  refine kk_istore_n (L' := [(3, kw_i (0 : Int32)), (2, kw_a s0), (0, kw_a a0), (1, kw_i x1)]) hm.1 dX9_costs_39 rfl (by decide) rfl ?_
  refine kk_iconst (v := (0 : Int32)) hm.1 dX9_costs_40 (by decide) ?_
  refine kk_istore (L' := [(4, kw_i (0 : Int32)), (3, kw_i (0 : Int32)), (2, kw_a s0), (0, kw_a a0), (1, kw_i x1)]) hm.1 dX9_costs_41 (by decide) rfl ?_
  refine kk_loc (L' := [(0, kw_a a0), (1, kw_i x1), (2, kw_a s0), (3, kw_i (0 : Int32)), (4, kw_i (0 : Int32))]) [3, 4, 2, 1, 0] rfl ?_
  obtain ⟨N, h⟩ := h
  exact q_X9_costs_43 hm  h0   N s0 ((0 : Int32)) ((0 : Int32)) r i w h
set_option maxHeartbeats 4000000 in
set_option maxRecDepth 100000 in
theorem t_X9_costs {l : Launch} {G : kw_G} {a0 : Nat} {x1 : Int32} {T : kw_T} {n : Nat} {r : kw_R} {i : kw_I} {w : kw_L} {Q : Int32 → kw_R → kw_I → kw_L → Prop} (h0 : T a0 = (0, 9)) (h : w_X9_costs a0 x1 T n r i w Q) : kw_Met l G yX9_costs cX9_costs 5 (some .int) rm_X9_costs [kw_a a0, kw_i x1] (T, n, r, i, w) (kw_PI (fun v T' n' r' i' w' => T = T' ∧ n = n' ∧ Q v r' i' w')) := by
  refine kw_Met.of (by decide) (Nat.le_of_ble_eq_true rfl) fun E hl hRm hE hT hnm => ?_
  have hm : kw_m E G cX9_costs 5 RX9 (some .int) rm_X9_costs "costs" := ⟨hE, hT, hRm, hnm⟩
  subst hl
  show kw_K E G 5 0 0 (kw_Z E G 0 0 (kw_PI (fun v T' n' r' i' w' => T = T' ∧ n = n' ∧ Q v r' i' w'))) 0 [(0, kw_a a0), (1, kw_i x1)] [] T n r i w
  refine kk_aload_n hm.1 0 dX9_costs_0 rfl rfl ?_
  refine kk_iload_n hm.1 1 dX9_costs_1 rfl rfl ?_
  refine kk_callVi (cs' := 0) (sl' := 0) (st := []) hm.1 cv_X9_172 (t_X9_isVillageOrNone h0 h) dX9_costs_2 h0 rfl rfl hm.2.2.1 ⟨by decide, by decide⟩ ⟨by decide, by decide⟩ rfl rfl (Nat.le_of_ble_eq_true rfl) rfl ?_
  rintro v2 _ _ _ _ _ ⟨rfl, rfl, rfl, rfl, rfl, h⟩
  refine kk_if_ne (tgt := 10) hm.1 dX9_costs_5 (by decide) (fun c5 => ?_) (fun c5 => ?_)
  · have h := h.1 c5
    refine kk_aload_n hm.1 0 dX9_costs_10 rfl rfl ?_
    refine kk_callVv (cs' := 0) (sl' := 0) (st := []) hm.1 cv_X9_162 (t_X9_weaveIfStale h0 h) dX9_costs_11 h0 rfl rfl hm.2.2.1 ⟨by decide, by decide⟩ ⟨by decide, by decide⟩ rfl rfl (Nat.le_of_ble_eq_true rfl) rfl ?_
    rintro _ _ r11 i11 w11 ⟨rfl, rfl, h⟩
    refine kk_iload_n hm.1 1 dX9_costs_14 rfl rfl ?_
    refine kk_iconst (v := (-1 : Int32)) hm.1 dX9_costs_15 (by decide) ?_
    refine kk_icmp_ne (tgt := 29) hm.1 dX9_costs_16 (by decide) (fun c16 => ?_) (fun c16 => ?_)
    · have h := h.1 c16
      refine kk_aload_n hm.1 0 dX9_costs_29 rfl rfl ?_
      refine kk_getR hm.1 ff_X9_37 dX9_costs_30 h0 ?_
      refine kk_iload_n hm.1 1 dX9_costs_33 rfl rfl ?_
      obtain ⟨o34, h⟩ := h
      refine kk_callVa (cs' := 0) (sl' := 0) (st := []) hm.1 cv_X9_175 (t_X5_picture o34 h) dX9_costs_34 o34 rfl rfl hm.2.2.1 ⟨by decide, by decide⟩ ⟨by decide, by decide⟩ rfl rfl (Nat.le_of_ble_eq_true rfl) rfl ?_
      rintro v34 _ _ _ _ _ ⟨rfl, rfl, rfl, rfl, rfl, h⟩
      exact q_X9_costs_37 hm  h0   v34 r11 i11 w11 h
    · have h := h.2 c16
      refine kk_aload_n hm.1 0 dX9_costs_19 rfl rfl ?_
      refine kk_getR hm.1 ff_X9_37 dX9_costs_20 h0 ?_
      obtain ⟨o23, h⟩ := h
      refine kk_callVa (cs' := 0) (sl' := 0) (st := []) hm.1 cv_X9_183 (t_X5_last o23 h) dX9_costs_23 o23 rfl rfl hm.2.2.1 ⟨by decide, by decide⟩ ⟨by decide, by decide⟩ rfl rfl (Nat.le_of_ble_eq_true rfl) rfl ?_
      rintro v23 _ _ _ _ _ ⟨rfl, rfl, rfl, rfl, rfl, h⟩
      refine kk_goto (tgt := 37) hm.1 dX9_costs_26 (by decide) ?_
      exact q_X9_costs_37 hm  h0   v23 r11 i11 w11 h
  · have h := h.2 c5
    refine kk_iconst (v := (-1 : Int32)) hm.1 dX9_costs_8 (by decide) ?_
    exact kk_iret hm.1 hm.2.1 dX9_costs_9 ⟨_, rfl, rfl, rfl, h⟩
def w_X9_turned_79 (a0 : Nat) (x1 : Int32) (T : kw_T) (n : Nat) (Q : Int32 → kw_R → kw_I → kw_L → Prop) (k26 : Int32 → Int32 → Int32 → Int32 → kw_R → kw_I → kw_L → Prop) (x2 : Int32) (x3 : Int32) (x5 : Int32) (x6 : Int32) (r : kw_R) (i : kw_I) (w : kw_L) : Prop :=
  k26 x2 x3 x6 ((x5 + (1 : Int32))) r i w
def s_X9_turned_26 (a0 : Nat) (x1 : Int32) (T : kw_T) (n : Nat) (Q : Int32 → kw_R → kw_I → kw_L → Prop)  (k26 : Int32 → Int32 → Int32 → Int32 → kw_R → kw_I → kw_L → Prop) (x2 : Int32) (x3 : Int32) (x4 : Int32) (x5 : Int32) (r : kw_R) (i : kw_I) (w : kw_L) : Prop :=
  T ((r a0 0)) = (0, 6) ∧ (((i (r a0 0) 5) ≤ x5 → (x1 = 0 → Q x2 r i w) ∧ (¬ x1 = 0 → (¬ x2 = (-1 : Int32) → Q x3 r i w) ∧ (x2 = (-1 : Int32) → Q x2 r i w))) ∧ (¬ (i (r a0 0) 5) ≤ x5 → T ((r a0 4)) = (0, 5) ∧ (w_X5_picture (r a0 4) x5 T n r i w (fun v44 => kw_in T 5 (r (r a0 0) 1) (0 : Int32) ∧ (w_X9_likeness v44 (r (r (r a0 0) 1) ((0 : Int32)).toNatClampNeg) T n r i w (fun v56 => ((x4 - v56) ≤ x3 → w_X9_turned_79 a0 x1 T n Q k26 x2 x3 x5 v56 r i w) ∧ (¬ (x4 - v56) ≤ x3 → w_X9_turned_79 a0 x1 T n Q k26 x5 ((x4 - v56)) x5 v56 r i w)))))))
def w_X9_turned_26 (a0 : Nat) (x1 : Int32) (T : kw_T) (n : Nat) (Q : Int32 → kw_R → kw_I → kw_L → Prop)  : Nat → Int32 → Int32 → Int32 → Int32 → kw_R → kw_I → kw_L → Prop
  | 0 => fun _ _ _ _ _ _ _ => False
  | N + 1 => s_X9_turned_26 a0 x1 T n Q  (w_X9_turned_26 a0 x1 T n Q  N)
def w_X9_turned  (a0 : Nat) (x1 : Int32) (T : kw_T) (n : Nat) (r : kw_R) (i : kw_I) (w : kw_L) (Q : Int32 → kw_R → kw_I → kw_L → Prop) : Prop :=
  (x1 < 0 → Q (-1 : Int32) r i w) ∧ (¬ x1 < 0 → (x1 ≤ (1 : Int32) → w_X9_weaveIfStale a0 T n r i w (fun r12 i12 w12 => ∃ N, w_X9_turned_26 a0 x1 T n Q  N ((-1 : Int32)) ((0 : Int32)) ((36 : Int32)) ((0 : Int32)) r12 i12 w12)) ∧ (¬ x1 ≤ (1 : Int32) → Q (-1 : Int32) r i w))
abbrev rm_X9_turned : Room := { frames := 7, cells := 0, slots := 0, locals := 210 }
set_option maxHeartbeats 4000000 in
set_option maxRecDepth 100000 in
theorem q_X9_turned_79 {a0 : Nat} {x1 : Int32} {T : kw_T} {n : Nat} {Q : Int32 → kw_R → kw_I → kw_L → Prop} {E : kw_E} {G : kw_G} (hm : kw_m E G cX9_turned 7 RX9 (some .int) rm_X9_turned "turned")  (h0 : T a0 = (0, 9))  {k26 : Int32 → Int32 → Int32 → Int32 → kw_R → kw_I → kw_L → Prop} (hk26 : ∀ (x2 : Int32) (x3 : Int32) (x4 : Int32) (x5 : Int32) (r : kw_R) (i : kw_I) (w : kw_L), k26 x2 x3 x4 x5 r i w → kw_K E G 7 0 0 (kw_Z E G 0 0 (kw_PI (fun v T' n' r' i' w' => T = T' ∧ n = n' ∧ Q v r' i' w'))) 26 [(0, kw_a a0), (1, kw_i x1), (2, kw_i x2), (3, kw_i x3), (4, kw_i x4), (5, kw_i x5)] [] T n r i w) (x2 : Int32) (x3 : Int32) (x5 : Int32) (x6 : Int32) (r : kw_R) (i : kw_I) (w : kw_L) (h : w_X9_turned_79 a0 x1 T n Q k26 x2 x3 x5 x6 r i w) : kw_K E G 7 0 0 (kw_Z E G 0 0 (kw_PI (fun v T' n' r' i' w' => T = T' ∧ n = n' ∧ Q v r' i' w'))) 79 [(0, kw_a a0), (1, kw_i x1), (2, kw_i x2), (3, kw_i x3), (5, kw_i x5), (6, kw_i x6)] [] T n r i w := by
  refine kk_iload hm.1 5 dX9_turned_79 rfl ?_
  refine kk_istore (L' := [(4, kw_i x6), (0, kw_a a0), (1, kw_i x1), (2, kw_i x2), (3, kw_i x3), (5, kw_i x5), (6, kw_i x6)]) hm.1 dX9_turned_81 (by decide) rfl ?_
  refine kk_iinc (v := (x5 + (1 : Int32))) (L' := [(5, kw_i (x5 + (1 : Int32))), (4, kw_i x6), (0, kw_a a0), (1, kw_i x1), (2, kw_i x2), (3, kw_i x3), (6, kw_i x6)]) hm.1 5 dX9_turned_83 rfl rfl (by decide) rfl ?_
  refine kk_goto (tgt := 26) hm.1 dX9_turned_86 (by decide) ?_
  refine kk_loc (L' := [(0, kw_a a0), (1, kw_i x1), (2, kw_i x2), (3, kw_i x3), (4, kw_i x6), (5, kw_i (x5 + (1 : Int32)))]) [2, 3, 4, 5, 1, 0] rfl ?_
  exact hk26 x2 x3 x6 ((x5 + (1 : Int32))) r i w h
set_option maxHeartbeats 4000000 in
set_option maxRecDepth 100000 in
theorem qs_X9_turned_26 {a0 : Nat} {x1 : Int32} {T : kw_T} {n : Nat} {Q : Int32 → kw_R → kw_I → kw_L → Prop} {E : kw_E} {G : kw_G} (hm : kw_m E G cX9_turned 7 RX9 (some .int) rm_X9_turned "turned")  (h0 : T a0 = (0, 9))    {k26 : Int32 → Int32 → Int32 → Int32 → kw_R → kw_I → kw_L → Prop} (hk26 : ∀ (x2 : Int32) (x3 : Int32) (x4 : Int32) (x5 : Int32) (r : kw_R) (i : kw_I) (w : kw_L), k26 x2 x3 x4 x5 r i w → kw_K E G 7 0 0 (kw_Z E G 0 0 (kw_PI (fun v T' n' r' i' w' => T = T' ∧ n = n' ∧ Q v r' i' w'))) 26 [(0, kw_a a0), (1, kw_i x1), (2, kw_i x2), (3, kw_i x3), (4, kw_i x4), (5, kw_i x5)] [] T n r i w) (x2 : Int32) (x3 : Int32) (x4 : Int32) (x5 : Int32) (r : kw_R) (i : kw_I) (w : kw_L) (h : s_X9_turned_26 a0 x1 T n Q  k26 x2 x3 x4 x5 r i w) : kw_K E G 7 0 0 (kw_Z E G 0 0 (kw_PI (fun v T' n' r' i' w' => T = T' ∧ n = n' ∧ Q v r' i' w'))) 26 [(0, kw_a a0), (1, kw_i x1), (2, kw_i x2), (3, kw_i x3), (4, kw_i x4), (5, kw_i x5)] [] T n r i w := by
  refine kk_iload hm.1 5 dX9_turned_26 rfl ?_
  refine kk_aload_n hm.1 0 dX9_turned_28 rfl rfl ?_
  refine kk_getR hm.1 ff_X9_10 dX9_turned_29 h0 ?_
  obtain ⟨o32, h⟩ := h
  refine kk_getI hm.1 ff_X9_90 dX9_turned_32 o32 ?_
  refine kk_icmp_ge (tgt := 89) hm.1 dX9_turned_35 (by decide) (fun c35 => ?_) (fun c35 => ?_)
  · have h := h.1 c35
    refine kk_iload_n hm.1 1 dX9_turned_89 rfl rfl ?_
    refine kk_if_eq (tgt := 98) hm.1 dX9_turned_90 (by decide) (fun c90 => ?_) (fun c90 => ?_)
    · have h := h.1 c90
      refine kk_iload_n hm.1 2 dX9_turned_98 rfl rfl ?_
      refine kk_goto (tgt := 103) hm.1 dX9_turned_99 (by decide) ?_
      exact kk_iret hm.1 hm.2.1 dX9_turned_103 ⟨_, rfl, rfl, rfl, h⟩
    · have h := h.2 c90
      refine kk_iload_n hm.1 2 dX9_turned_93 rfl rfl ?_
      refine kk_iconst (v := (-1 : Int32)) hm.1 dX9_turned_94 (by decide) ?_
      refine kk_icmp_ne (tgt := 102) hm.1 dX9_turned_95 (by decide) (fun c95 => ?_) (fun c95 => ?_)
      · have h := h.1 c95
        refine kk_iload_n hm.1 3 dX9_turned_102 rfl rfl ?_
        exact kk_iret hm.1 hm.2.1 dX9_turned_103 ⟨_, rfl, rfl, rfl, h⟩
      · have h := h.2 c95
        refine kk_iload_n hm.1 2 dX9_turned_98 rfl rfl ?_
        refine kk_goto (tgt := 103) hm.1 dX9_turned_99 (by decide) ?_
        exact kk_iret hm.1 hm.2.1 dX9_turned_103 ⟨_, rfl, rfl, rfl, h⟩
  · have h := h.2 c35
    refine kk_aload_n hm.1 0 dX9_turned_38 rfl rfl ?_
    refine kk_getR hm.1 ff_X9_37 dX9_turned_39 h0 ?_
    refine kk_iload hm.1 5 dX9_turned_42 rfl ?_
    obtain ⟨o44, h⟩ := h
    refine kk_callVa (cs' := 0) (sl' := 0) (st := []) hm.1 cv_X9_175 (t_X5_picture o44 h) dX9_turned_44 o44 rfl rfl hm.2.2.1 ⟨by decide, by decide⟩ ⟨by decide, by decide⟩ rfl rfl (Nat.le_of_ble_eq_true rfl) rfl ?_
    rintro v44 _ _ _ _ _ ⟨rfl, rfl, rfl, rfl, rfl, h⟩
    refine kk_aload_n hm.1 0 dX9_turned_47 rfl rfl ?_
    refine kk_getR hm.1 ff_X9_10 dX9_turned_48 h0 ?_
    refine kk_getR hm.1 ff_X9_117 dX9_turned_51 o32 ?_
    refine kk_iconst (v := (0 : Int32)) hm.1 dX9_turned_54 (by decide) ?_
    obtain ⟨o55, h⟩ := h
    refine kk_aaload hm.1 5 (by decide) (by decide) rfl rfl dX9_turned_55 o55 ?_
    refine kk_callSi (cs' := 0) (sl' := 0) (st := []) hm.1 cs_X9_179 (t_X9_likeness h) dX9_turned_56 rfl hm.2.2.1 ⟨by decide, by decide⟩ ⟨by decide, by decide⟩ rfl rfl (Nat.le_of_ble_eq_true rfl) rfl ?_
    rintro v56 _ _ _ _ _ ⟨rfl, rfl, rfl, rfl, rfl, h⟩
    refine kk_istore (L' := [(6, kw_i v56), (0, kw_a a0), (1, kw_i x1), (2, kw_i x2), (3, kw_i x3), (4, kw_i x4), (5, kw_i x5)]) hm.1 dX9_turned_59 (by decide) rfl ?_
    refine kk_iload hm.1 5 dX9_turned_61 rfl ?_
    refine kk_iload hm.1 0 dX9_turned_63 rfl ?_
    refine kk_isub hm.1 dX9_turned_65 ?_
    refine kk_iload_n hm.1 4 dX9_turned_66 rfl rfl ?_
    refine kk_icmp_le (tgt := 79) hm.1 dX9_turned_67 (by decide) (fun c67 => ?_) (fun c67 => ?_)
    · have h := h.1 c67
      refine kk_loc (L' := [(0, kw_a a0), (1, kw_i x1), (2, kw_i x2), (3, kw_i x3), (5, kw_i x5), (6, kw_i v56)]) [1, 2, 3, 4, 6, 0] rfl ?_
      exact q_X9_turned_79 hm  h0  hk26 x2 x3 x5 v56 r i w h
    · have h := h.2 c67
      refine kk_iload hm.1 5 dX9_turned_70 rfl ?_
      refine kk_iload hm.1 0 dX9_turned_72 rfl ?_
      refine kk_isub hm.1 dX9_turned_74 ?_
      refine kk_istore_n (L' := [(3, kw_i (x4 - v56)), (6, kw_i v56), (0, kw_a a0), (1, kw_i x1), (2, kw_i x2), (4, kw_i x4), (5, kw_i x5)]) hm.1 dX9_turned_75 rfl (by decide) rfl ?_
      refine kk_iload hm.1 6 dX9_turned_76 rfl ?_
      refine kk_istore_n (L' := [(2, kw_i x5), (3, kw_i (x4 - v56)), (6, kw_i v56), (0, kw_a a0), (1, kw_i x1), (4, kw_i x4), (5, kw_i x5)]) hm.1 dX9_turned_78 rfl (by decide) rfl ?_
      refine kk_loc (L' := [(0, kw_a a0), (1, kw_i x1), (2, kw_i x5), (3, kw_i (x4 - v56)), (5, kw_i x5), (6, kw_i v56)]) [3, 4, 0, 1, 6, 2] rfl ?_
      exact q_X9_turned_79 hm  h0  hk26 x5 ((x4 - v56)) x5 v56 r i w h
set_option maxHeartbeats 4000000 in
set_option maxRecDepth 100000 in
theorem q_X9_turned_26 {a0 : Nat} {x1 : Int32} {T : kw_T} {n : Nat} {Q : Int32 → kw_R → kw_I → kw_L → Prop} {E : kw_E} {G : kw_G} (hm : kw_m E G cX9_turned 7 RX9 (some .int) rm_X9_turned "turned")  (h0 : T a0 = (0, 9))    : ∀ (N : Nat) (x2 : Int32) (x3 : Int32) (x4 : Int32) (x5 : Int32) (r : kw_R) (i : kw_I) (w : kw_L), w_X9_turned_26 a0 x1 T n Q  N x2 x3 x4 x5 r i w → kw_K E G 7 0 0 (kw_Z E G 0 0 (kw_PI (fun v T' n' r' i' w' => T = T' ∧ n = n' ∧ Q v r' i' w'))) 26 [(0, kw_a a0), (1, kw_i x1), (2, kw_i x2), (3, kw_i x3), (4, kw_i x4), (5, kw_i x5)] [] T n r i w := by
  intro N
  induction N with
  | zero => intro x2 x3 x4 x5 r i w h; exact h.elim
  | succ N ih => intro x2 x3 x4 x5 r i w h; exact qs_X9_turned_26 hm  h0  ih x2 x3 x4 x5 r i w h
set_option maxHeartbeats 4000000 in
set_option maxRecDepth 100000 in
theorem t_X9_turned {l : Launch} {G : kw_G} {a0 : Nat} {x1 : Int32} {T : kw_T} {n : Nat} {r : kw_R} {i : kw_I} {w : kw_L} {Q : Int32 → kw_R → kw_I → kw_L → Prop} (h0 : T a0 = (0, 9)) (h : w_X9_turned a0 x1 T n r i w Q) : kw_Met l G yX9_turned cX9_turned 7 (some .int) rm_X9_turned [kw_a a0, kw_i x1] (T, n, r, i, w) (kw_PI (fun v T' n' r' i' w' => T = T' ∧ n = n' ∧ Q v r' i' w')) := by
  refine kw_Met.of (by decide) (Nat.le_of_ble_eq_true rfl) fun E hl hRm hE hT hnm => ?_
  have hm : kw_m E G cX9_turned 7 RX9 (some .int) rm_X9_turned "turned" := ⟨hE, hT, hRm, hnm⟩
  subst hl
  show kw_K E G 7 0 0 (kw_Z E G 0 0 (kw_PI (fun v T' n' r' i' w' => T = T' ∧ n = n' ∧ Q v r' i' w'))) 0 [(0, kw_a a0), (1, kw_i x1)] [] T n r i w
  refine kk_iload_n hm.1 1 dX9_turned_0 rfl rfl ?_
  refine kk_if_lt (tgt := 9) hm.1 dX9_turned_1 (by decide) (fun c1 => ?_) (fun c1 => ?_)
  · have h := h.1 c1
    refine kk_iconst (v := (-1 : Int32)) hm.1 dX9_turned_9 (by decide) ?_
    exact kk_iret hm.1 hm.2.1 dX9_turned_10 ⟨_, rfl, rfl, rfl, h⟩
  · have h := h.2 c1
    refine kk_iload_n hm.1 1 dX9_turned_4 rfl rfl ?_
    refine kk_iconst (v := (1 : Int32)) hm.1 dX9_turned_5 (by decide) ?_
    refine kk_icmp_le (tgt := 11) hm.1 dX9_turned_6 (by decide) (fun c6 => ?_) (fun c6 => ?_)
    · have h := h.1 c6
      refine kk_aload_n hm.1 0 dX9_turned_11 rfl rfl ?_
      refine kk_callVv (cs' := 0) (sl' := 0) (st := []) hm.1 cv_X9_162 (t_X9_weaveIfStale h0 h) dX9_turned_12 h0 rfl rfl hm.2.2.1 ⟨by decide, by decide⟩ ⟨by decide, by decide⟩ rfl rfl (Nat.le_of_ble_eq_true rfl) rfl ?_
      rintro _ _ r12 i12 w12 ⟨rfl, rfl, h⟩
      refine kk_iconst (v := (-1 : Int32)) hm.1 dX9_turned_15 (by decide) ?_
      refine kk_istore_n (L' := [(2, kw_i (-1 : Int32)), (0, kw_a a0), (1, kw_i x1)]) hm.1 dX9_turned_16 rfl (by decide) rfl ?_
      refine kk_iconst (v := (0 : Int32)) hm.1 dX9_turned_17 (by decide) ?_
      refine kk_istore_n (L' := [(3, kw_i (0 : Int32)), (2, kw_i (-1 : Int32)), (0, kw_a a0), (1, kw_i x1)]) hm.1 dX9_turned_18 rfl (by decide) rfl ?_
      refine kk_bipush (v := (36 : Int32)) hm.1 dX9_turned_19 (by decide) ?_
      refine kk_istore (L' := [(4, kw_i (36 : Int32)), (3, kw_i (0 : Int32)), (2, kw_i (-1 : Int32)), (0, kw_a a0), (1, kw_i x1)]) hm.1 dX9_turned_21 (by decide) rfl ?_
      refine kk_iconst (v := (0 : Int32)) hm.1 dX9_turned_23 (by decide) ?_
      refine kk_istore (L' := [(5, kw_i (0 : Int32)), (4, kw_i (36 : Int32)), (3, kw_i (0 : Int32)), (2, kw_i (-1 : Int32)), (0, kw_a a0), (1, kw_i x1)]) hm.1 dX9_turned_24 (by decide) rfl ?_
      refine kk_loc (L' := [(0, kw_a a0), (1, kw_i x1), (2, kw_i (-1 : Int32)), (3, kw_i (0 : Int32)), (4, kw_i (36 : Int32)), (5, kw_i (0 : Int32))]) [4, 5, 3, 2, 1, 0] rfl ?_
      obtain ⟨N, h⟩ := h
      exact q_X9_turned_26 hm  h0   N ((-1 : Int32)) ((0 : Int32)) ((36 : Int32)) ((0 : Int32)) r12 i12 w12 h
    · have h := h.2 c6
      refine kk_iconst (v := (-1 : Int32)) hm.1 dX9_turned_9 (by decide) ?_
      exact kk_iret hm.1 hm.2.1 dX9_turned_10 ⟨_, rfl, rfl, rfl, h⟩
def w_X9_lost  (a0 : Nat) (x1 : Int32) (T : kw_T) (n : Nat) (r : kw_R) (i : kw_I) (w : kw_L) (Q : Int32 → kw_R → kw_I → kw_L → Prop) : Prop :=
  w_X9_isCell x1 T n r i w (fun v1 => (¬ v1 = 0 → w_X9_weaveIfStale a0 T n r i w (fun r10 i10 w10 => T ((r10 a0 4)) = (0, 5) ∧ (w_X5_last (r10 a0 4) T n r10 i10 w10 (fun v22 => T ((r10 a0 5)) = (0, 0) ∧ (w_X0_coloursFor (r10 a0 5) x1 v22 T n r10 i10 w10 (fun v25 i25 w25 => w_J6_bitCount_0f7a4 v25 T n r10 i25 w25 (fun v28 => Q (v28 - (1 : Int32)) r10 i25 w25))))))) ∧ (v1 = 0 → Q (-1 : Int32) r i w))
abbrev rm_X9_lost : Room := { frames := 7, cells := 0, slots := 0, locals := 224 }
set_option maxHeartbeats 4000000 in
set_option maxRecDepth 100000 in
theorem t_X9_lost {l : Launch} {G : kw_G} {a0 : Nat} {x1 : Int32} {T : kw_T} {n : Nat} {r : kw_R} {i : kw_I} {w : kw_L} {Q : Int32 → kw_R → kw_I → kw_L → Prop} (h0 : T a0 = (0, 9)) (h : w_X9_lost a0 x1 T n r i w Q) : kw_Met l G yX9_lost cX9_lost 2 (some .int) rm_X9_lost [kw_a a0, kw_i x1] (T, n, r, i, w) (kw_PI (fun v T' n' r' i' w' => T = T' ∧ n = n' ∧ Q v r' i' w')) := by
  refine kw_Met.of (by decide) (Nat.le_of_ble_eq_true rfl) fun E hl hRm hE hT hnm => ?_
  have hm : kw_m E G cX9_lost 2 RX9 (some .int) rm_X9_lost "lost" := ⟨hE, hT, hRm, hnm⟩
  subst hl
  show kw_K E G 2 0 0 (kw_Z E G 0 0 (kw_PI (fun v T' n' r' i' w' => T = T' ∧ n = n' ∧ Q v r' i' w'))) 0 [(0, kw_a a0), (1, kw_i x1)] [] T n r i w
  refine kk_iload_n hm.1 1 dX9_lost_0 rfl rfl ?_
  refine kk_callSi (cs' := 0) (sl' := 0) (st := []) hm.1 cs_X9_114 (t_X9_isCell h) dX9_lost_1 rfl hm.2.2.1 ⟨by decide, by decide⟩ ⟨by decide, by decide⟩ rfl rfl (Nat.le_of_ble_eq_true rfl) rfl ?_
  rintro v1 _ _ _ _ _ ⟨rfl, rfl, rfl, rfl, rfl, h⟩
  refine kk_if_ne (tgt := 9) hm.1 dX9_lost_4 (by decide) (fun c4 => ?_) (fun c4 => ?_)
  · have h := h.1 c4
    refine kk_aload_n hm.1 0 dX9_lost_9 rfl rfl ?_
    refine kk_callVv (cs' := 0) (sl' := 0) (st := []) hm.1 cv_X9_162 (t_X9_weaveIfStale h0 h) dX9_lost_10 h0 rfl rfl hm.2.2.1 ⟨by decide, by decide⟩ ⟨by decide, by decide⟩ rfl rfl (Nat.le_of_ble_eq_true rfl) rfl ?_
    rintro _ _ r10 i10 w10 ⟨rfl, rfl, h⟩
    refine kk_aload_n hm.1 0 dX9_lost_13 rfl rfl ?_
    refine kk_getR hm.1 ff_X9_46 dX9_lost_14 h0 ?_
    refine kk_iload_n hm.1 1 dX9_lost_17 rfl rfl ?_
    refine kk_aload_n hm.1 0 dX9_lost_18 rfl rfl ?_
    refine kk_getR hm.1 ff_X9_37 dX9_lost_19 h0 ?_
    obtain ⟨o22, h⟩ := h
    refine kk_callVa (cs' := 0) (sl' := 0) (st := [kw_i x1, kw_a (r10 a0 5)]) hm.1 cv_X9_183 (t_X5_last o22 h) dX9_lost_22 o22 rfl rfl hm.2.2.1 ⟨by decide, by decide⟩ ⟨by decide, by decide⟩ rfl rfl (Nat.le_of_ble_eq_true rfl) rfl ?_
    rintro v22 _ _ _ _ _ ⟨rfl, rfl, rfl, rfl, rfl, h⟩
    obtain ⟨o25, h⟩ := h
    refine kk_callVi (cs' := 0) (sl' := 0) (st := []) hm.1 cv_X9_187 (t_X0_coloursFor o25 h) dX9_lost_25 o25 rfl rfl hm.2.2.1 ⟨by decide, by decide⟩ ⟨by decide, by decide⟩ rfl rfl (Nat.le_of_ble_eq_true rfl) rfl ?_
    rintro v25 _ _ _ i25 w25 ⟨rfl, rfl, rfl, h⟩
    refine kk_callSi (cs' := 0) (sl' := 0) (st := []) hm.1 cs_X9_191 (t_J6_bitCount_0f7a4 h) dX9_lost_28 rfl hm.2.2.1 ⟨by decide, by decide⟩ ⟨by decide, by decide⟩ rfl rfl (Nat.le_of_ble_eq_true rfl) rfl ?_
    rintro v28 _ _ _ _ _ ⟨rfl, rfl, rfl, rfl, rfl, h⟩
    refine kk_iconst (v := (1 : Int32)) hm.1 dX9_lost_31 (by decide) ?_
    refine kk_isub hm.1 dX9_lost_32 ?_
    exact kk_iret hm.1 hm.2.1 dX9_lost_33 ⟨_, rfl, rfl, rfl, h⟩
  · have h := h.2 c4
    refine kk_iconst (v := (-1 : Int32)) hm.1 dX9_lost_7 (by decide) ?_
    exact kk_iret hm.1 hm.2.1 dX9_lost_8 ⟨_, rfl, rfl, rfl, h⟩
def w_X9_look_73 (a0 : Nat) (x1 : Int32) (x2 : Int32) (T : kw_T) (n : Nat) (Q : Int32 → kw_R → kw_I → kw_L → Prop) (k29 : Int32 → Int32 → kw_R → kw_I → kw_L → Prop) (x3 : Int32) (x4 : Int32) (r : kw_R) (i : kw_I) (w : kw_L) : Prop :=
  k29 x3 ((x4 + (1 : Int32))) r i w
def s_X9_look_29 (a0 : Nat) (x1 : Int32) (x2 : Int32) (T : kw_T) (n : Nat) (Q : Int32 → kw_R → kw_I → kw_L → Prop)  (k29 : Int32 → Int32 → kw_R → kw_I → kw_L → Prop) (x3 : Int32) (x4 : Int32) (r : kw_R) (i : kw_I) (w : kw_L) : Prop :=
  (x1 < x4 → T ((r a0 5)) = (0, 0) ∧ (kw_in T 5 (r (r a0 5) 5) x3 ∧ (kw_in T 1 (r (r (r a0 5) 5) (x3).toNatClampNeg) x2 ∧ (Q (i (r (r (r a0 5) 5) (x3).toNatClampNeg) (x2).toNatClampNeg) r i w)))) ∧ (¬ x1 < x4 → T ((r a0 5)) = (0, 0) ∧ (w_X0_findLooks (r a0 5) x4 T n r i w (fun i41 w41 => kw_in T 5 (r (r a0 5) 5) x4 ∧ (kw_in T 1 (r (r (r a0 5) 5) (x4).toNatClampNeg) (0 : Int32) ∧ (kw_in T 5 (r (r a0 5) 5) x3 ∧ (kw_in T 1 (r (r (r a0 5) 5) (x3).toNatClampNeg) (0 : Int32) ∧ (((i41 (r (r (r a0 5) 5) (x4).toNatClampNeg) ((0 : Int32)).toNatClampNeg) ≤ (i41 (r (r (r a0 5) 5) (x3).toNatClampNeg) ((0 : Int32)).toNatClampNeg) → w_X9_look_73 a0 x1 x2 T n Q k29 x3 x4 r i41 w41) ∧ (¬ (i41 (r (r (r a0 5) 5) (x4).toNatClampNeg) ((0 : Int32)).toNatClampNeg) ≤ (i41 (r (r (r a0 5) 5) (x3).toNatClampNeg) ((0 : Int32)).toNatClampNeg) → w_X9_look_73 a0 x1 x2 T n Q k29 x4 x4 r i41 w41))))))))
def w_X9_look_29 (a0 : Nat) (x1 : Int32) (x2 : Int32) (T : kw_T) (n : Nat) (Q : Int32 → kw_R → kw_I → kw_L → Prop)  : Nat → Int32 → Int32 → kw_R → kw_I → kw_L → Prop
  | 0 => fun _ _ _ _ _ => False
  | N + 1 => s_X9_look_29 a0 x1 x2 T n Q  (w_X9_look_29 a0 x1 x2 T n Q  N)
def w_X9_look  (a0 : Nat) (x1 : Int32) (x2 : Int32) (T : kw_T) (n : Nat) (r : kw_R) (i : kw_I) (w : kw_L) (Q : Int32 → kw_R → kw_I → kw_L → Prop) : Prop :=
  (x1 < 0 → Q (-1 : Int32) r i w) ∧ (¬ x1 < 0 → ((3 : Int32) < x1 → Q (-1 : Int32) r i w) ∧ (¬ (3 : Int32) < x1 → (x2 < 0 → Q (-1 : Int32) r i w) ∧ (¬ x2 < 0 → (x2 ≤ (2 : Int32) → w_X9_weaveIfStale a0 T n r i w (fun r21 i21 w21 => ∃ N, w_X9_look_29 a0 x1 x2 T n Q  N ((0 : Int32)) ((0 : Int32)) r21 i21 w21)) ∧ (¬ x2 ≤ (2 : Int32) → Q (-1 : Int32) r i w))))
abbrev rm_X9_look : Room := { frames := 8, cells := 0, slots := 0, locals := 244 }
set_option maxHeartbeats 4000000 in
set_option maxRecDepth 100000 in
theorem q_X9_look_73 {a0 : Nat} {x1 : Int32} {x2 : Int32} {T : kw_T} {n : Nat} {Q : Int32 → kw_R → kw_I → kw_L → Prop} {E : kw_E} {G : kw_G} (hm : kw_m E G cX9_look 5 RX9 (some .int) rm_X9_look "look")  (h0 : T a0 = (0, 9))  {k29 : Int32 → Int32 → kw_R → kw_I → kw_L → Prop} (hk29 : ∀ (x3 : Int32) (x4 : Int32) (r : kw_R) (i : kw_I) (w : kw_L), k29 x3 x4 r i w → kw_K E G 5 0 0 (kw_Z E G 0 0 (kw_PI (fun v T' n' r' i' w' => T = T' ∧ n = n' ∧ Q v r' i' w'))) 29 [(0, kw_a a0), (1, kw_i x1), (2, kw_i x2), (3, kw_i x3), (4, kw_i x4)] [] T n r i w) (x3 : Int32) (x4 : Int32) (r : kw_R) (i : kw_I) (w : kw_L) (h : w_X9_look_73 a0 x1 x2 T n Q k29 x3 x4 r i w) : kw_K E G 5 0 0 (kw_Z E G 0 0 (kw_PI (fun v T' n' r' i' w' => T = T' ∧ n = n' ∧ Q v r' i' w'))) 73 [(0, kw_a a0), (1, kw_i x1), (2, kw_i x2), (3, kw_i x3), (4, kw_i x4)] [] T n r i w := by
  refine kk_iinc (v := (x4 + (1 : Int32))) (L' := [(4, kw_i (x4 + (1 : Int32))), (0, kw_a a0), (1, kw_i x1), (2, kw_i x2), (3, kw_i x3)]) hm.1 4 dX9_look_73 rfl rfl (by decide) rfl ?_
  refine kk_goto (tgt := 29) hm.1 dX9_look_76 (by decide) ?_
  refine kk_loc (L' := [(0, kw_a a0), (1, kw_i x1), (2, kw_i x2), (3, kw_i x3), (4, kw_i (x4 + (1 : Int32)))]) [1, 2, 3, 4, 0] rfl ?_
  exact hk29 x3 ((x4 + (1 : Int32))) r i w h
set_option maxHeartbeats 4000000 in
set_option maxRecDepth 100000 in
theorem qs_X9_look_29 {a0 : Nat} {x1 : Int32} {x2 : Int32} {T : kw_T} {n : Nat} {Q : Int32 → kw_R → kw_I → kw_L → Prop} {E : kw_E} {G : kw_G} (hm : kw_m E G cX9_look 5 RX9 (some .int) rm_X9_look "look")  (h0 : T a0 = (0, 9))    {k29 : Int32 → Int32 → kw_R → kw_I → kw_L → Prop} (hk29 : ∀ (x3 : Int32) (x4 : Int32) (r : kw_R) (i : kw_I) (w : kw_L), k29 x3 x4 r i w → kw_K E G 5 0 0 (kw_Z E G 0 0 (kw_PI (fun v T' n' r' i' w' => T = T' ∧ n = n' ∧ Q v r' i' w'))) 29 [(0, kw_a a0), (1, kw_i x1), (2, kw_i x2), (3, kw_i x3), (4, kw_i x4)] [] T n r i w) (x3 : Int32) (x4 : Int32) (r : kw_R) (i : kw_I) (w : kw_L) (h : s_X9_look_29 a0 x1 x2 T n Q  k29 x3 x4 r i w) : kw_K E G 5 0 0 (kw_Z E G 0 0 (kw_PI (fun v T' n' r' i' w' => T = T' ∧ n = n' ∧ Q v r' i' w'))) 29 [(0, kw_a a0), (1, kw_i x1), (2, kw_i x2), (3, kw_i x3), (4, kw_i x4)] [] T n r i w := by
  refine kk_iload hm.1 4 dX9_look_29 rfl ?_
  refine kk_iload_n hm.1 1 dX9_look_31 rfl rfl ?_
  refine kk_icmp_gt (tgt := 79) hm.1 dX9_look_32 (by decide) (fun c32 => ?_) (fun c32 => ?_)
  · have h := h.1 c32
    refine kk_aload_n hm.1 0 dX9_look_79 rfl rfl ?_
    refine kk_getR hm.1 ff_X9_46 dX9_look_80 h0 ?_
    obtain ⟨o83, h⟩ := h
    refine kk_getR hm.1 ff_X9_199 dX9_look_83 o83 ?_
    refine kk_iload_n hm.1 3 dX9_look_86 rfl rfl ?_
    obtain ⟨o87, h⟩ := h
    refine kk_aaload hm.1 5 (by decide) (by decide) rfl rfl dX9_look_87 o87 ?_
    refine kk_iload_n hm.1 2 dX9_look_88 rfl rfl ?_
    obtain ⟨o89, h⟩ := h
    refine kk_iaload hm.1 dX9_look_89 o89 ?_
    exact kk_iret hm.1 hm.2.1 dX9_look_90 ⟨_, rfl, rfl, rfl, h⟩
  · have h := h.2 c32
    refine kk_aload_n hm.1 0 dX9_look_35 rfl rfl ?_
    refine kk_getR hm.1 ff_X9_46 dX9_look_36 h0 ?_
    refine kk_iload hm.1 4 dX9_look_39 rfl ?_
    obtain ⟨o41, h⟩ := h
    refine kk_callVv (cs' := 0) (sl' := 0) (st := []) hm.1 cv_X9_196 (t_X0_findLooks o41 h) dX9_look_41 o41 rfl rfl hm.2.2.1 ⟨by decide, by decide⟩ ⟨by decide, by decide⟩ rfl rfl (Nat.le_of_ble_eq_true rfl) rfl ?_
    rintro _ _ _ i41 w41 ⟨rfl, rfl, rfl, h⟩
    refine kk_aload_n hm.1 0 dX9_look_44 rfl rfl ?_
    refine kk_getR hm.1 ff_X9_46 dX9_look_45 h0 ?_
    refine kk_getR hm.1 ff_X9_199 dX9_look_48 o41 ?_
    refine kk_iload hm.1 4 dX9_look_51 rfl ?_
    obtain ⟨o53, h⟩ := h
    refine kk_aaload hm.1 5 (by decide) (by decide) rfl rfl dX9_look_53 o53 ?_
    refine kk_iconst (v := (0 : Int32)) hm.1 dX9_look_54 (by decide) ?_
    obtain ⟨o55, h⟩ := h
    refine kk_iaload hm.1 dX9_look_55 o55 ?_
    refine kk_aload_n hm.1 0 dX9_look_56 rfl rfl ?_
    refine kk_getR hm.1 ff_X9_46 dX9_look_57 h0 ?_
    refine kk_getR hm.1 ff_X9_199 dX9_look_60 o41 ?_
    refine kk_iload_n hm.1 3 dX9_look_63 rfl rfl ?_
    obtain ⟨o64, h⟩ := h
    refine kk_aaload hm.1 5 (by decide) (by decide) rfl rfl dX9_look_64 o64 ?_
    refine kk_iconst (v := (0 : Int32)) hm.1 dX9_look_65 (by decide) ?_
    obtain ⟨o66, h⟩ := h
    refine kk_iaload hm.1 dX9_look_66 o66 ?_
    refine kk_icmp_le (tgt := 73) hm.1 dX9_look_67 (by decide) (fun c67 => ?_) (fun c67 => ?_)
    · have h := h.1 c67
      exact q_X9_look_73 hm  h0  hk29 x3 x4 r i41 w41 h
    · have h := h.2 c67
      refine kk_iload hm.1 4 dX9_look_70 rfl ?_
      refine kk_istore_n (L' := [(3, kw_i x4), (0, kw_a a0), (1, kw_i x1), (2, kw_i x2), (4, kw_i x4)]) hm.1 dX9_look_72 rfl (by decide) rfl ?_
      refine kk_loc (L' := [(0, kw_a a0), (1, kw_i x1), (2, kw_i x2), (3, kw_i x4), (4, kw_i x4)]) [1, 2, 3, 0, 4] rfl ?_
      exact q_X9_look_73 hm  h0  hk29 x4 x4 r i41 w41 h
set_option maxHeartbeats 4000000 in
set_option maxRecDepth 100000 in
theorem q_X9_look_29 {a0 : Nat} {x1 : Int32} {x2 : Int32} {T : kw_T} {n : Nat} {Q : Int32 → kw_R → kw_I → kw_L → Prop} {E : kw_E} {G : kw_G} (hm : kw_m E G cX9_look 5 RX9 (some .int) rm_X9_look "look")  (h0 : T a0 = (0, 9))    : ∀ (N : Nat) (x3 : Int32) (x4 : Int32) (r : kw_R) (i : kw_I) (w : kw_L), w_X9_look_29 a0 x1 x2 T n Q  N x3 x4 r i w → kw_K E G 5 0 0 (kw_Z E G 0 0 (kw_PI (fun v T' n' r' i' w' => T = T' ∧ n = n' ∧ Q v r' i' w'))) 29 [(0, kw_a a0), (1, kw_i x1), (2, kw_i x2), (3, kw_i x3), (4, kw_i x4)] [] T n r i w := by
  intro N
  induction N with
  | zero => intro x3 x4 r i w h; exact h.elim
  | succ N ih => intro x3 x4 r i w h; exact qs_X9_look_29 hm  h0  ih x3 x4 r i w h
set_option maxHeartbeats 4000000 in
set_option maxRecDepth 100000 in
theorem t_X9_look {l : Launch} {G : kw_G} {a0 : Nat} {x1 : Int32} {x2 : Int32} {T : kw_T} {n : Nat} {r : kw_R} {i : kw_I} {w : kw_L} {Q : Int32 → kw_R → kw_I → kw_L → Prop} (h0 : T a0 = (0, 9)) (h : w_X9_look a0 x1 x2 T n r i w Q) : kw_Met l G yX9_look cX9_look 5 (some .int) rm_X9_look [kw_a a0, kw_i x1, kw_i x2] (T, n, r, i, w) (kw_PI (fun v T' n' r' i' w' => T = T' ∧ n = n' ∧ Q v r' i' w')) := by
  refine kw_Met.of (by decide) (Nat.le_of_ble_eq_true rfl) fun E hl hRm hE hT hnm => ?_
  have hm : kw_m E G cX9_look 5 RX9 (some .int) rm_X9_look "look" := ⟨hE, hT, hRm, hnm⟩
  subst hl
  show kw_K E G 5 0 0 (kw_Z E G 0 0 (kw_PI (fun v T' n' r' i' w' => T = T' ∧ n = n' ∧ Q v r' i' w'))) 0 [(0, kw_a a0), (1, kw_i x1), (2, kw_i x2)] [] T n r i w
  refine kk_iload_n hm.1 1 dX9_look_0 rfl rfl ?_
  refine kk_if_lt (tgt := 18) hm.1 dX9_look_1 (by decide) (fun c1 => ?_) (fun c1 => ?_)
  · have h := h.1 c1
    refine kk_iconst (v := (-1 : Int32)) hm.1 dX9_look_18 (by decide) ?_
    exact kk_iret hm.1 hm.2.1 dX9_look_19 ⟨_, rfl, rfl, rfl, h⟩
  · have h := h.2 c1
    refine kk_iload_n hm.1 1 dX9_look_4 rfl rfl ?_
    refine kk_iconst (v := (3 : Int32)) hm.1 dX9_look_5 (by decide) ?_
    refine kk_icmp_gt (tgt := 18) hm.1 dX9_look_6 (by decide) (fun c6 => ?_) (fun c6 => ?_)
    · have h := h.1 c6
      refine kk_iconst (v := (-1 : Int32)) hm.1 dX9_look_18 (by decide) ?_
      exact kk_iret hm.1 hm.2.1 dX9_look_19 ⟨_, rfl, rfl, rfl, h⟩
    · have h := h.2 c6
      refine kk_iload_n hm.1 2 dX9_look_9 rfl rfl ?_
      refine kk_if_lt (tgt := 18) hm.1 dX9_look_10 (by decide) (fun c10 => ?_) (fun c10 => ?_)
      · have h := h.1 c10
        refine kk_iconst (v := (-1 : Int32)) hm.1 dX9_look_18 (by decide) ?_
        exact kk_iret hm.1 hm.2.1 dX9_look_19 ⟨_, rfl, rfl, rfl, h⟩
      · have h := h.2 c10
        refine kk_iload_n hm.1 2 dX9_look_13 rfl rfl ?_
        refine kk_iconst (v := (2 : Int32)) hm.1 dX9_look_14 (by decide) ?_
        refine kk_icmp_le (tgt := 20) hm.1 dX9_look_15 (by decide) (fun c15 => ?_) (fun c15 => ?_)
        · have h := h.1 c15
          refine kk_aload_n hm.1 0 dX9_look_20 rfl rfl ?_
          refine kk_callVv (cs' := 0) (sl' := 0) (st := []) hm.1 cv_X9_162 (t_X9_weaveIfStale h0 h) dX9_look_21 h0 rfl rfl hm.2.2.1 ⟨by decide, by decide⟩ ⟨by decide, by decide⟩ rfl rfl (Nat.le_of_ble_eq_true rfl) rfl ?_
          rintro _ _ r21 i21 w21 ⟨rfl, rfl, h⟩
          refine kk_iconst (v := (0 : Int32)) hm.1 dX9_look_24 (by decide) ?_
          refine kk_istore_n (L' := [(3, kw_i (0 : Int32)), (0, kw_a a0), (1, kw_i x1), (2, kw_i x2)]) hm.1 dX9_look_25 rfl (by decide) rfl ?_
          refine kk_iconst (v := (0 : Int32)) hm.1 dX9_look_26 (by decide) ?_
          refine kk_istore (L' := [(4, kw_i (0 : Int32)), (3, kw_i (0 : Int32)), (0, kw_a a0), (1, kw_i x1), (2, kw_i x2)]) hm.1 dX9_look_27 (by decide) rfl ?_
          refine kk_loc (L' := [(0, kw_a a0), (1, kw_i x1), (2, kw_i x2), (3, kw_i (0 : Int32)), (4, kw_i (0 : Int32))]) [2, 3, 4, 1, 0] rfl ?_
          obtain ⟨N, h⟩ := h
          exact q_X9_look_29 hm  h0   N ((0 : Int32)) ((0 : Int32)) r21 i21 w21 h
        · have h := h.2 c15
          refine kk_iconst (v := (-1 : Int32)) hm.1 dX9_look_18 (by decide) ?_
          exact kk_iret hm.1 hm.2.1 dX9_look_19 ⟨_, rfl, rfl, rfl, h⟩
def w_X9_gift  (a0 : Nat) (x1 : Int32) (T : kw_T) (n : Nat) (r : kw_R) (i : kw_I) (w : kw_L) (Q : Int32 → kw_R → kw_I → kw_L → Prop) : Prop :=
  (x1 < 0 → Q (-1 : Int32) r i w) ∧ (¬ x1 < 0 → (x1 ≤ (2 : Int32) → w_X9_weaveIfStale a0 T n r i w (fun r12 i12 w12 => T ((r12 a0 5)) = (0, 0) ∧ (w_X0_findGift (r12 a0 5) T n r12 i12 w12 (fun i19 w19 => kw_in T 1 (r12 (r12 a0 5) 7) x1 ∧ (Q (i19 (r12 (r12 a0 5) 7) (x1).toNatClampNeg) r12 i19 w19))))) ∧ (¬ x1 ≤ (2 : Int32) → Q (-1 : Int32) r i w))
abbrev rm_X9_gift : Room := { frames := 8, cells := 0, slots := 0, locals := 244 }
set_option maxHeartbeats 4000000 in
set_option maxRecDepth 100000 in
theorem t_X9_gift {l : Launch} {G : kw_G} {a0 : Nat} {x1 : Int32} {T : kw_T} {n : Nat} {r : kw_R} {i : kw_I} {w : kw_L} {Q : Int32 → kw_R → kw_I → kw_L → Prop} (h0 : T a0 = (0, 9)) (h : w_X9_gift a0 x1 T n r i w Q) : kw_Met l G yX9_gift cX9_gift 2 (some .int) rm_X9_gift [kw_a a0, kw_i x1] (T, n, r, i, w) (kw_PI (fun v T' n' r' i' w' => T = T' ∧ n = n' ∧ Q v r' i' w')) := by
  refine kw_Met.of (by decide) (Nat.le_of_ble_eq_true rfl) fun E hl hRm hE hT hnm => ?_
  have hm : kw_m E G cX9_gift 2 RX9 (some .int) rm_X9_gift "gift" := ⟨hE, hT, hRm, hnm⟩
  subst hl
  show kw_K E G 2 0 0 (kw_Z E G 0 0 (kw_PI (fun v T' n' r' i' w' => T = T' ∧ n = n' ∧ Q v r' i' w'))) 0 [(0, kw_a a0), (1, kw_i x1)] [] T n r i w
  refine kk_iload_n hm.1 1 dX9_gift_0 rfl rfl ?_
  refine kk_if_lt (tgt := 9) hm.1 dX9_gift_1 (by decide) (fun c1 => ?_) (fun c1 => ?_)
  · have h := h.1 c1
    refine kk_iconst (v := (-1 : Int32)) hm.1 dX9_gift_9 (by decide) ?_
    exact kk_iret hm.1 hm.2.1 dX9_gift_10 ⟨_, rfl, rfl, rfl, h⟩
  · have h := h.2 c1
    refine kk_iload_n hm.1 1 dX9_gift_4 rfl rfl ?_
    refine kk_iconst (v := (2 : Int32)) hm.1 dX9_gift_5 (by decide) ?_
    refine kk_icmp_le (tgt := 11) hm.1 dX9_gift_6 (by decide) (fun c6 => ?_) (fun c6 => ?_)
    · have h := h.1 c6
      refine kk_aload_n hm.1 0 dX9_gift_11 rfl rfl ?_
      refine kk_callVv (cs' := 0) (sl' := 0) (st := []) hm.1 cv_X9_162 (t_X9_weaveIfStale h0 h) dX9_gift_12 h0 rfl rfl hm.2.2.1 ⟨by decide, by decide⟩ ⟨by decide, by decide⟩ rfl rfl (Nat.le_of_ble_eq_true rfl) rfl ?_
      rintro _ _ r12 i12 w12 ⟨rfl, rfl, h⟩
      refine kk_aload_n hm.1 0 dX9_gift_15 rfl rfl ?_
      refine kk_getR hm.1 ff_X9_46 dX9_gift_16 h0 ?_
      obtain ⟨o19, h⟩ := h
      refine kk_callVv (cs' := 0) (sl' := 0) (st := []) hm.1 cv_X9_202 (t_X0_findGift o19 h) dX9_gift_19 o19 rfl rfl hm.2.2.1 ⟨by decide, by decide⟩ ⟨by decide, by decide⟩ rfl rfl (Nat.le_of_ble_eq_true rfl) rfl ?_
      rintro _ _ _ i19 w19 ⟨rfl, rfl, rfl, h⟩
      refine kk_aload_n hm.1 0 dX9_gift_22 rfl rfl ?_
      refine kk_getR hm.1 ff_X9_46 dX9_gift_23 h0 ?_
      refine kk_getR hm.1 ff_X9_205 dX9_gift_26 o19 ?_
      refine kk_iload_n hm.1 1 dX9_gift_29 rfl rfl ?_
      obtain ⟨o30, h⟩ := h
      refine kk_iaload hm.1 dX9_gift_30 o30 ?_
      exact kk_iret hm.1 hm.2.1 dX9_gift_31 ⟨_, rfl, rfl, rfl, h⟩
    · have h := h.2 c6
      refine kk_iconst (v := (-1 : Int32)) hm.1 dX9_gift_9 (by decide) ?_
      exact kk_iret hm.1 hm.2.1 dX9_gift_10 ⟨_, rfl, rfl, rfl, h⟩
def w_X9_slips  (a0 : Nat) (x1 : Int32) (T : kw_T) (n : Nat) (r : kw_R) (i : kw_I) (w : kw_L) (Q : Int32 → kw_R → kw_I → kw_L → Prop) : Prop :=
  ((-1 : Int32) ≤ x1 → w_X9_weaveIfStale a0 T n r i w (fun r8 i8 w8 => T ((r8 a0 5)) = (0, 0) ∧ (w_X0_findSlips (r8 a0 5) T n r8 i8 w8 (fun i15 w15 => (¬ x1 = (-1 : Int32) → w_X0_slipAt (r8 a0 5) x1 T n r8 i15 w15 (fun v38 => Q v38 r8 i15 w15)) ∧ (x1 = (-1 : Int32) → Q (i15 (r8 a0 5) 10) r8 i15 w15))))) ∧ (¬ (-1 : Int32) ≤ x1 → Q (-1 : Int32) r i w)
abbrev rm_X9_slips : Room := { frames := 8, cells := 0, slots := 0, locals := 248 }
set_option maxHeartbeats 4000000 in
set_option maxRecDepth 100000 in
theorem t_X9_slips {l : Launch} {G : kw_G} {a0 : Nat} {x1 : Int32} {T : kw_T} {n : Nat} {r : kw_R} {i : kw_I} {w : kw_L} {Q : Int32 → kw_R → kw_I → kw_L → Prop} (h0 : T a0 = (0, 9)) (h : w_X9_slips a0 x1 T n r i w Q) : kw_Met l G yX9_slips cX9_slips 2 (some .int) rm_X9_slips [kw_a a0, kw_i x1] (T, n, r, i, w) (kw_PI (fun v T' n' r' i' w' => T = T' ∧ n = n' ∧ Q v r' i' w')) := by
  refine kw_Met.of (by decide) (Nat.le_of_ble_eq_true rfl) fun E hl hRm hE hT hnm => ?_
  have hm : kw_m E G cX9_slips 2 RX9 (some .int) rm_X9_slips "slips" := ⟨hE, hT, hRm, hnm⟩
  subst hl
  show kw_K E G 2 0 0 (kw_Z E G 0 0 (kw_PI (fun v T' n' r' i' w' => T = T' ∧ n = n' ∧ Q v r' i' w'))) 0 [(0, kw_a a0), (1, kw_i x1)] [] T n r i w
  refine kk_iload_n hm.1 1 dX9_slips_0 rfl rfl ?_
  refine kk_iconst (v := (-1 : Int32)) hm.1 dX9_slips_1 (by decide) ?_
  refine kk_icmp_ge (tgt := 7) hm.1 dX9_slips_2 (by decide) (fun c2 => ?_) (fun c2 => ?_)
  · have h := h.1 c2
    refine kk_aload_n hm.1 0 dX9_slips_7 rfl rfl ?_
    refine kk_callVv (cs' := 0) (sl' := 0) (st := []) hm.1 cv_X9_162 (t_X9_weaveIfStale h0 h) dX9_slips_8 h0 rfl rfl hm.2.2.1 ⟨by decide, by decide⟩ ⟨by decide, by decide⟩ rfl rfl (Nat.le_of_ble_eq_true rfl) rfl ?_
    rintro _ _ r8 i8 w8 ⟨rfl, rfl, h⟩
    refine kk_aload_n hm.1 0 dX9_slips_11 rfl rfl ?_
    refine kk_getR hm.1 ff_X9_46 dX9_slips_12 h0 ?_
    obtain ⟨o15, h⟩ := h
    refine kk_callVv (cs' := 0) (sl' := 0) (st := []) hm.1 cv_X9_208 (t_X0_findSlips o15 h) dX9_slips_15 o15 rfl rfl hm.2.2.1 ⟨by decide, by decide⟩ ⟨by decide, by decide⟩ rfl rfl (Nat.le_of_ble_eq_true rfl) rfl ?_
    rintro _ _ _ i15 w15 ⟨rfl, rfl, rfl, h⟩
    refine kk_iload_n hm.1 1 dX9_slips_18 rfl rfl ?_
    refine kk_iconst (v := (-1 : Int32)) hm.1 dX9_slips_19 (by decide) ?_
    refine kk_icmp_ne (tgt := 33) hm.1 dX9_slips_20 (by decide) (fun c20 => ?_) (fun c20 => ?_)
    · have h := h.1 c20
      refine kk_aload_n hm.1 0 dX9_slips_33 rfl rfl ?_
      refine kk_getR hm.1 ff_X9_46 dX9_slips_34 h0 ?_
      refine kk_iload_n hm.1 1 dX9_slips_37 rfl rfl ?_
      refine kk_callVi (cs' := 0) (sl' := 0) (st := []) hm.1 cv_X9_214 (t_X0_slipAt o15 h) dX9_slips_38 o15 rfl rfl hm.2.2.1 ⟨by decide, by decide⟩ ⟨by decide, by decide⟩ rfl rfl (Nat.le_of_ble_eq_true rfl) rfl ?_
      rintro v38 _ _ _ _ _ ⟨rfl, rfl, rfl, rfl, rfl, h⟩
      exact kk_iret hm.1 hm.2.1 dX9_slips_41 ⟨_, rfl, rfl, rfl, h⟩
    · have h := h.2 c20
      refine kk_aload_n hm.1 0 dX9_slips_23 rfl rfl ?_
      refine kk_getR hm.1 ff_X9_46 dX9_slips_24 h0 ?_
      refine kk_getI hm.1 ff_X9_211 dX9_slips_27 o15 ?_
      refine kk_goto (tgt := 41) hm.1 dX9_slips_30 (by decide) ?_
      exact kk_iret hm.1 hm.2.1 dX9_slips_41 ⟨_, rfl, rfl, rfl, h⟩
  · have h := h.2 c2
    refine kk_iconst (v := (-1 : Int32)) hm.1 dX9_slips_5 (by decide) ?_
    exact kk_iret hm.1 hm.2.1 dX9_slips_6 ⟨_, rfl, rfl, rfl, h⟩
