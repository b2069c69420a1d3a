def w_X10_wishOf_145 (a0 : Nat) (l1 : Int64) (T : kw_T) (n : Nat) (r : kw_R) (w : kw_L) (Q : Int64 → kw_I → Prop) (k58 : Int64 → kw_I → Prop) (l3 : Int64) (i : kw_I) : Prop :=
  ∀ i152 : kw_I, i152 = kw_st i a0 18 ((i a0 18) + (1 : Int32)) → (k58 l3 i152)
def w_X10_wishOf_123 (a0 : Nat) (l1 : Int64) (T : kw_T) (n : Nat) (r : kw_R) (w : kw_L) (Q : Int64 → kw_I → Prop) (k58 : Int64 → kw_I → Prop) (l3 : Int64) (l5 : Int64) (x7 : Int32) (s0 : Int32) (i : kw_I) : Prop :=
  (s0 = 0 → w_X10_wishOf_145 a0 l1 T n r w Q k58 l3 i) ∧ (¬ s0 = 0 → (¬ (i a0 20) = 0 → w_X10_wishOf_145 a0 l1 T n r w Q k58 l3 i) ∧ ((i a0 20) = 0 → (¬ x7 = 0 → w_X10_wishOf_145 a0 l1 T n r w Q k58 l3 i) ∧ (x7 = 0 → w_X10_wishOf_145 a0 l1 T n r w Q k58 l5 i)))
def w_X10_wishOf_118 (a0 : Nat) (l1 : Int64) (T : kw_T) (n : Nat) (r : kw_R) (w : kw_L) (Q : Int64 → kw_I → Prop) (k58 : Int64 → kw_I → Prop) (l3 : Int64) (l5 : Int64) (x7 : Int32) (i : kw_I) : Prop :=
  w_X10_wishOf_123 a0 l1 T n r w Q k58 l3 l5 x7 ((1 : Int32)) i
def s_X10_wishOf_58 (a0 : Nat) (l1 : Int64) (T : kw_T) (n : Nat) (r : kw_R) (w : kw_L) (Q : Int64 → kw_I → Prop)  (k58 : Int64 → kw_I → Prop) (l3 : Int64) (i : kw_I) : Prop :=
  ((i a0 19) ≤ (i a0 18) → Q l3 i) ∧ (¬ (i a0 19) ≤ (i a0 18) → ∀ i71 : kw_I, i71 = kw_st i a0 20 (0 : Int32) → (∀ i81 : kw_I, i81 = kw_st i71 a0 18 ((i71 a0 18) + (1 : Int32)) → (∃ dd, dd ≤ 60 ∧ (g_X10_partOf dd).2.1 a0 (1 : Int32) T n r i81 w (fun v86 i86 => ∀ i99 : kw_I, i99 = kw_st i86 a0 20 (0 : Int32) → (w_X10_passes0 a0 (2 : Int32) T n r i99 w (fun v104 i104 => (v104 = 0 → w_X10_wishOf_118 a0 l1 T n r w Q k58 l3 v86 ((i86 a0 20)) i104) ∧ (¬ v104 = 0 → ∃ dd, dd ≤ 60 ∧ (g_X10_bothOf dd).2.2.2 a0 (1 : Int32) T n r i104 w (fun v112 i112 => (v112 = 0 → w_X10_wishOf_123 a0 l1 T n r w Q k58 l3 v86 ((i86 a0 20)) ((0 : Int32)) i112) ∧ (¬ v112 = 0 → w_X10_wishOf_118 a0 l1 T n r w Q k58 l3 v86 ((i86 a0 20)) i112)))))))))
def w_X10_wishOf_58 (a0 : Nat) (l1 : Int64) (T : kw_T) (n : Nat) (r : kw_R) (w : kw_L) (Q : Int64 → kw_I → Prop)  : Nat → Int64 → kw_I → Prop
  | 0 => fun _ _ => False
  | N + 1 => s_X10_wishOf_58 a0 l1 T n r w Q  (w_X10_wishOf_58 a0 l1 T n r w Q  N)
def w_X10_wishOf  (a0 : Nat) (l1 : Int64) (T : kw_T) (n : Nat) (r : kw_R) (i : kw_I) (w : kw_L) (Q : Int64 → kw_I → Prop) : Prop :=
  kw_in T 1 (r a0 2) (180 : Int32) ∧ ((¬ (i (r a0 2) ((180 : Int32)).toNatClampNeg) = (-1 : Int32) → kw_in T 1 (r a0 2) (180 : Int32) ∧ (∀ i29 : kw_I, i29 = kw_st i a0 18 ((400 : Int32) * (i (r a0 2) ((180 : Int32)).toNatClampNeg)) → (kw_in T 1 (r a0 2) (180 : Int32) ∧ (kw_in T 1 (r a0 2) ((181 : Int32) + (i29 (r a0 2) ((180 : Int32)).toNatClampNeg)) ∧ (∀ i55 : kw_I, i55 = kw_st i29 a0 19 ((i29 a0 18) + (i29 (r a0 2) (((181 : Int32) + (i29 (r a0 2) ((180 : Int32)).toNatClampNeg))).toNatClampNeg)) → (∃ N, w_X10_wishOf_58 a0 l1 T n r w Q  N l1 i55)))))) ∧ ((i (r a0 2) ((180 : Int32)).toNatClampNeg) = (-1 : Int32) → Q l1 i))
abbrev rm_X10_wishOf : Room := { frames := 125, cells := 0, slots := 0, locals := 6152 }
set_option maxHeartbeats 4000000 in
set_option maxRecDepth 100000 in
theorem q_X10_wishOf_145 {a0 : Nat} {l1 : Int64} {T : kw_T} {n : Nat} {r : kw_R} {w : kw_L} {Q : Int64 → kw_I → Prop} {E : kw_E} {G : kw_G} (hm : kw_m E G cX10_wishOf 9 RX10 (some .long) rm_X10_wishOf "wishOf")  (h0 : T a0 = (0, 10))  {k58 : Int64 → kw_I → Prop} (hk58 : ∀ (l3 : Int64) (i : kw_I), k58 l3 i → kw_K E G 9 0 0 (kw_Z E G 0 0 (kw_PL (fun v T' n' r' i' w' => T = T' ∧ n = n' ∧ r = r' ∧ w = w' ∧ Q v i'))) 58 [(0, kw_a a0), (1, kw_l l1), (3, kw_l l3)] [] T n r i w) (l3 : Int64) (i : kw_I) (h : w_X10_wishOf_145 a0 l1 T n r w Q k58 l3 i) : kw_K E G 9 0 0 (kw_Z E G 0 0 (kw_PL (fun v T' n' r' i' w' => T = T' ∧ n = n' ∧ r = r' ∧ w = w' ∧ Q v i'))) 145 [(0, kw_a a0), (1, kw_l l1), (3, kw_l l3)] [] T n r i w := by
  refine kk_aload_n hm.1 0 dX10_wishOf_145 rfl rfl ?_
  refine kk_dup hm.1 dX10_wishOf_146 rfl ?_
  refine kk_getI hm.1 ff_X10_189 dX10_wishOf_147 h0 ?_
  refine kk_iconst (v := (1 : Int32)) hm.1 dX10_wishOf_150 (by decide) ?_
  refine kk_iadd hm.1 dX10_wishOf_151 ?_
  refine kn_putI hm.1 fp_X10_189 dX10_wishOf_152 h0 (fun i152 e152 => ?_)
  have h := h i152 e152
  refine kk_goto (tgt := 58) hm.1 dX10_wishOf_155 (by decide) ?_
  exact hk58 l3 i152 h
set_option maxHeartbeats 4000000 in
set_option maxRecDepth 100000 in
theorem q_X10_wishOf_123 {a0 : Nat} {l1 : Int64} {T : kw_T} {n : Nat} {r : kw_R} {w : kw_L} {Q : Int64 → kw_I → Prop} {E : kw_E} {G : kw_G} (hm : kw_m E G cX10_wishOf 9 RX10 (some .long) rm_X10_wishOf "wishOf")  (h0 : T a0 = (0, 10))  {k58 : Int64 → kw_I → Prop} (hk58 : ∀ (l3 : Int64) (i : kw_I), k58 l3 i → kw_K E G 9 0 0 (kw_Z E G 0 0 (kw_PL (fun v T' n' r' i' w' => T = T' ∧ n = n' ∧ r = r' ∧ w = w' ∧ Q v i'))) 58 [(0, kw_a a0), (1, kw_l l1), (3, kw_l l3)] [] T n r i w) (l3 : Int64) (l5 : Int64) (x7 : Int32) (s0 : Int32) (i : kw_I) (h : w_X10_wishOf_123 a0 l1 T n r w Q k58 l3 l5 x7 s0 i) : kw_K E G 9 0 0 (kw_Z E G 0 0 (kw_PL (fun v T' n' r' i' w' => T = T' ∧ n = n' ∧ r = r' ∧ w = w' ∧ Q v i'))) 123 [(0, kw_a a0), (1, kw_l l1), (3, kw_l l3), (5, kw_l l5), (7, kw_i x7)] [kw_i s0] T n r i w := by
  refine kk_istore (L' := [(8, kw_i s0), (0, kw_a a0), (1, kw_l l1), (3, kw_l l3), (5, kw_l l5), (7, kw_i x7)]) hm.1 dX10_wishOf_123 (by decide) rfl ?_
  refine kk_iload hm.1 0 dX10_wishOf_125 rfl ?_
  refine kk_if_eq (tgt := 145) hm.1 dX10_wishOf_127 (by decide) (fun c127 => ?_) (fun c127 => ?_)
  · have h := h.1 c127
    refine kk_loc (L' := [(0, kw_a a0), (1, kw_l l1), (3, kw_l l3)]) [1, 2, 3] rfl ?_
    exact q_X10_wishOf_145 hm  h0  hk58 l3 i h
  · have h := h.2 c127
    refine kk_aload_n hm.1 1 dX10_wishOf_130 rfl rfl ?_
    refine kk_getI hm.1 ff_X10_199 dX10_wishOf_131 h0 ?_
    refine kk_if_ne (tgt := 145) hm.1 dX10_wishOf_134 (by decide) (fun c134 => ?_) (fun c134 => ?_)
    · have h := h.1 c134
      refine kk_loc (L' := [(0, kw_a a0), (1, kw_l l1), (3, kw_l l3)]) [1, 2, 3] rfl ?_
      exact q_X10_wishOf_145 hm  h0  hk58 l3 i h
    · have h := h.2 c134
      refine kk_iload hm.1 5 dX10_wishOf_137 rfl ?_
      refine kk_if_ne (tgt := 145) hm.1 dX10_wishOf_139 (by decide) (fun c139 => ?_) (fun c139 => ?_)
      · have h := h.1 c139
        refine kk_loc (L' := [(0, kw_a a0), (1, kw_l l1), (3, kw_l l3)]) [1, 2, 3] rfl ?_
        exact q_X10_wishOf_145 hm  h0  hk58 l3 i h
      · have h := h.2 c139
        refine kk_lload hm.1 4 dX10_wishOf_142 rfl ?_
        refine kk_lstore_n (L' := [(3, kw_l l5), (8, kw_i s0), (0, kw_a a0), (1, kw_l l1), (5, kw_l l5), (7, kw_i x7)]) hm.1 dX10_wishOf_144 rfl (by decide) rfl ?_
        refine kk_loc (L' := [(0, kw_a a0), (1, kw_l l1), (3, kw_l l5)]) [2, 3, 0] rfl ?_
        exact q_X10_wishOf_145 hm  h0  hk58 l5 i h
set_option maxHeartbeats 4000000 in
set_option maxRecDepth 100000 in
theorem q_X10_wishOf_118 {a0 : Nat} {l1 : Int64} {T : kw_T} {n : Nat} {r : kw_R} {w : kw_L} {Q : Int64 → kw_I → Prop} {E : kw_E} {G : kw_G} (hm : kw_m E G cX10_wishOf 9 RX10 (some .long) rm_X10_wishOf "wishOf")  (h0 : T a0 = (0, 10))  {k58 : Int64 → kw_I → Prop} (hk58 : ∀ (l3 : Int64) (i : kw_I), k58 l3 i → kw_K E G 9 0 0 (kw_Z E G 0 0 (kw_PL (fun v T' n' r' i' w' => T = T' ∧ n = n' ∧ r = r' ∧ w = w' ∧ Q v i'))) 58 [(0, kw_a a0), (1, kw_l l1), (3, kw_l l3)] [] T n r i w) (l3 : Int64) (l5 : Int64) (x7 : Int32) (i : kw_I) (h : w_X10_wishOf_118 a0 l1 T n r w Q k58 l3 l5 x7 i) : kw_K E G 9 0 0 (kw_Z E G 0 0 (kw_PL (fun v T' n' r' i' w' => T = T' ∧ n = n' ∧ r = r' ∧ w = w' ∧ Q v i'))) 118 [(0, kw_a a0), (1, kw_l l1), (3, kw_l l3), (5, kw_l l5), (7, kw_i x7)] [] T n r i w := by
  refine kk_iconst (v := (1 : Int32)) hm.1 dX10_wishOf_118 (by decide) ?_
  refine kk_goto (tgt := 123) hm.1 dX10_wishOf_119 (by decide) ?_
  exact q_X10_wishOf_123 hm  h0  hk58 l3 l5 x7 ((1 : Int32)) i h
set_option maxHeartbeats 4000000 in
set_option maxRecDepth 100000 in
theorem qs_X10_wishOf_58 {a0 : Nat} {l1 : Int64} {T : kw_T} {n : Nat} {r : kw_R} {w : kw_L} {Q : Int64 → kw_I → Prop} {E : kw_E} {G : kw_G} (hm : kw_m E G cX10_wishOf 9 RX10 (some .long) rm_X10_wishOf "wishOf")  (h0 : T a0 = (0, 10))    {k58 : Int64 → kw_I → Prop} (hk58 : ∀ (l3 : Int64) (i : kw_I), k58 l3 i → kw_K E G 9 0 0 (kw_Z E G 0 0 (kw_PL (fun v T' n' r' i' w' => T = T' ∧ n = n' ∧ r = r' ∧ w = w' ∧ Q v i'))) 58 [(0, kw_a a0), (1, kw_l l1), (3, kw_l l3)] [] T n r i w) (l3 : Int64) (i : kw_I) (h : s_X10_wishOf_58 a0 l1 T n r w Q  k58 l3 i) : kw_K E G 9 0 0 (kw_Z E G 0 0 (kw_PL (fun v T' n' r' i' w' => T = T' ∧ n = n' ∧ r = r' ∧ w = w' ∧ Q v i'))) 58 [(0, kw_a a0), (1, kw_l l1), (3, kw_l l3)] [] T n r i w := by
  refine kk_aload_n hm.1 0 dX10_wishOf_58 rfl rfl ?_
  refine kk_getI hm.1 ff_X10_189 dX10_wishOf_59 h0 ?_
  refine kk_aload_n hm.1 0 dX10_wishOf_62 rfl rfl ?_
  refine kk_getI hm.1 ff_X10_186 dX10_wishOf_63 h0 ?_
  refine kk_icmp_ge (tgt := 158) hm.1 dX10_wishOf_66 (by decide) (fun c66 => ?_) (fun c66 => ?_)
  · have h := h.1 c66
    refine kk_lload_n hm.1 2 dX10_wishOf_158 rfl rfl ?_
    exact kk_lret hm.1 hm.2.1 dX10_wishOf_159 ⟨_, rfl, rfl, rfl, rfl, rfl, h⟩
  · have h := h.2 c66
    refine kk_aload_n hm.1 0 dX10_wishOf_69 rfl rfl ?_
    refine kk_iconst (v := (0 : Int32)) hm.1 dX10_wishOf_70 (by decide) ?_
    refine kn_putZ hm.1 fp_X10_199 dX10_wishOf_71 h0 (Or.inl rfl) (fun i71 e71 => ?_)
    have h := h i71 e71
    refine kk_aload_n hm.1 0 dX10_wishOf_74 rfl rfl ?_
    refine kk_dup hm.1 dX10_wishOf_75 rfl ?_
    refine kk_getI hm.1 ff_X10_189 dX10_wishOf_76 h0 ?_
    refine kk_iconst (v := (1 : Int32)) hm.1 dX10_wishOf_79 (by decide) ?_
    refine kk_iadd hm.1 dX10_wishOf_80 ?_
    refine kn_putI hm.1 fp_X10_189 dX10_wishOf_81 h0 (fun i81 e81 => ?_)
    have h := h i81 e81
    refine kk_aload_n hm.1 0 dX10_wishOf_84 rfl rfl ?_
    refine kk_iconst (v := (1 : Int32)) hm.1 dX10_wishOf_85 (by decide) ?_
    obtain ⟨dd, hd, h⟩ := h
    refine kk_callVl (cs' := 0) (sl' := 0) (st := []) hm.1 cv_X10_217 ((tg_X10_partOf E.2.1 G dd).2.1 a0 (1 : Int32) T n r i81 w _ h0 h) dX10_wishOf_86 h0 rfl rfl hm.2.2.1 (rmo_X10_partOf hd (by decide) (by decide)) ⟨Nat.le_refl _, Nat.le_refl _⟩ rfl rfl (Nat.le_of_ble_eq_true rfl) rfl ?_
    rintro v86 _ _ _ i86 _ ⟨rfl, rfl, rfl, rfl, h⟩
    refine kk_lstore (L' := [(5, kw_l v86), (0, kw_a a0), (1, kw_l l1), (3, kw_l l3)]) hm.1 dX10_wishOf_89 (by decide) rfl ?_
    refine kk_aload_n hm.1 1 dX10_wishOf_91 rfl rfl ?_
    refine kk_getI hm.1 ff_X10_199 dX10_wishOf_92 h0 ?_
    refine kk_istore (L' := [(7, kw_i (i86 a0 20)), (5, kw_l v86), (0, kw_a a0), (1, kw_l l1), (3, kw_l l3)]) hm.1 dX10_wishOf_95 (by decide) rfl ?_
    refine kk_aload_n hm.1 2 dX10_wishOf_97 rfl rfl ?_
    refine kk_iconst (v := (0 : Int32)) hm.1 dX10_wishOf_98 (by decide) ?_
    refine kn_putZ hm.1 fp_X10_199 dX10_wishOf_99 h0 (Or.inl rfl) (fun i99 e99 => ?_)
    have h := h i99 e99
    refine kk_aload_n hm.1 2 dX10_wishOf_102 rfl rfl ?_
    refine kk_iconst (v := (2 : Int32)) hm.1 dX10_wishOf_103 (by decide) ?_
    refine kk_callVi (cs' := 0) (sl' := 0) (st := []) hm.1 cv_X10_214 (t_X10_passes0 h0 h) dX10_wishOf_104 h0 rfl rfl hm.2.2.1 ⟨by decide, by decide⟩ ⟨by decide, by decide⟩ rfl rfl (Nat.le_of_ble_eq_true rfl) rfl ?_
    rintro v104 _ _ _ i104 _ ⟨rfl, rfl, rfl, rfl, h⟩
    refine kk_if_eq (tgt := 118) hm.1 dX10_wishOf_107 (by decide) (fun c107 => ?_) (fun c107 => ?_)
    · have h := h.1 c107
      refine kk_loc (L' := [(0, kw_a a0), (1, kw_l l1), (3, kw_l l3), (5, kw_l v86), (7, kw_i (i86 a0 20))]) [2, 3, 4, 1, 0] rfl ?_
      exact q_X10_wishOf_118 hm  h0  hk58 l3 v86 ((i86 a0 20)) i104 h
    · have h := h.2 c107
      refine kk_aload_n hm.1 2 dX10_wishOf_110 rfl rfl ?_
      refine kk_iconst (v := (1 : Int32)) hm.1 dX10_wishOf_111 (by decide) ?_
      obtain ⟨dd, hd, h⟩ := h
      refine kk_callVi (cs' := 0) (sl' := 0) (st := []) hm.1 cv_X10_230 ((tg_X10_bothOf E.2.1 G dd).2.2.2 a0 (1 : Int32) T n r i104 w _ h0 h) dX10_wishOf_112 h0 rfl rfl hm.2.2.1 (rmo_X10_bothOf hd (by decide) (by decide)) ⟨Nat.le_refl _, Nat.le_refl _⟩ rfl rfl (Nat.le_of_ble_eq_true rfl) rfl ?_
      rintro v112 _ _ _ i112 _ ⟨rfl, rfl, rfl, rfl, h⟩
      refine kk_if_eq (tgt := 122) hm.1 dX10_wishOf_115 (by decide) (fun c115 => ?_) (fun c115 => ?_)
      · have h := h.1 c115
        refine kk_iconst (v := (0 : Int32)) hm.1 dX10_wishOf_122 (by decide) ?_
        refine kk_loc (L' := [(0, kw_a a0), (1, kw_l l1), (3, kw_l l3), (5, kw_l v86), (7, kw_i (i86 a0 20))]) [2, 3, 4, 1, 0] rfl ?_
        exact q_X10_wishOf_123 hm  h0  hk58 l3 v86 ((i86 a0 20)) ((0 : Int32)) i112 h
      · have h := h.2 c115
        refine kk_loc (L' := [(0, kw_a a0), (1, kw_l l1), (3, kw_l l3), (5, kw_l v86), (7, kw_i (i86 a0 20))]) [2, 3, 4, 1, 0] rfl ?_
        exact q_X10_wishOf_118 hm  h0  hk58 l3 v86 ((i86 a0 20)) i112 h
set_option maxHeartbeats 4000000 in
set_option maxRecDepth 100000 in
theorem q_X10_wishOf_58 {a0 : Nat} {l1 : Int64} {T : kw_T} {n : Nat} {r : kw_R} {w : kw_L} {Q : Int64 → kw_I → Prop} {E : kw_E} {G : kw_G} (hm : kw_m E G cX10_wishOf 9 RX10 (some .long) rm_X10_wishOf "wishOf")  (h0 : T a0 = (0, 10))    : ∀ (N : Nat) (l3 : Int64) (i : kw_I), w_X10_wishOf_58 a0 l1 T n r w Q  N l3 i → kw_K E G 9 0 0 (kw_Z E G 0 0 (kw_PL (fun v T' n' r' i' w' => T = T' ∧ n = n' ∧ r = r' ∧ w = w' ∧ Q v i'))) 58 [(0, kw_a a0), (1, kw_l l1), (3, kw_l l3)] [] T n r i w := by
  intro N
  induction N with
  | zero => intro l3 i h; exact h.elim
  | succ N ih => intro l3 i h; exact qs_X10_wishOf_58 hm  h0  ih l3 i h
set_option maxHeartbeats 4000000 in
set_option maxRecDepth 100000 in
theorem t_X10_wishOf {l : Launch} {G : kw_G} {a0 : Nat} {l1 : Int64} {T : kw_T} {n : Nat} {r : kw_R} {i : kw_I} {w : kw_L} {Q : Int64 → kw_I → Prop} (h0 : T a0 = (0, 10)) (h : w_X10_wishOf a0 l1 T n r i w Q) : kw_Met l G yX10_wishOf cX10_wishOf 9 (some .long) rm_X10_wishOf [kw_a a0, kw_l l1] (T, n, r, i, w) (kw_PL (fun v T' n' r' i' w' => T = T' ∧ n = n' ∧ r = r' ∧ w = w' ∧ Q v i')) := by
  refine kw_Met.of (by decide) (Nat.le_of_ble_eq_true rfl) fun E hl hRm hE hT hnm => ?_
  have hm : kw_m E G cX10_wishOf 9 RX10 (some .long) rm_X10_wishOf "wishOf" := ⟨hE, hT, hRm, hnm⟩
  subst hl
  show kw_K E G 9 0 0 (kw_Z E G 0 0 (kw_PL (fun v T' n' r' i' w' => T = T' ∧ n = n' ∧ r = r' ∧ w = w' ∧ Q v i'))) 0 [(0, kw_a a0), (1, kw_l l1)] [] T n r i w
  refine kk_lload_n hm.1 1 dX10_wishOf_0 rfl rfl ?_
  refine kk_lstore_n (L' := [(3, kw_l l1), (0, kw_a a0), (1, kw_l l1)]) hm.1 dX10_wishOf_1 rfl (by decide) rfl ?_
  refine kk_aload_n hm.1 1 dX10_wishOf_2 rfl rfl ?_
  refine kk_getR hm.1 ff_X10_17 dX10_wishOf_3 h0 ?_
  refine kk_sipush (v := (180 : Int32)) hm.1 dX10_wishOf_6 (by decide) ?_
  obtain ⟨o9, h⟩ := h
  refine kk_iaload hm.1 dX10_wishOf_9 o9 ?_
  refine kk_iconst (v := (-1 : Int32)) hm.1 dX10_wishOf_10 (by decide) ?_
  refine kk_icmp_ne (tgt := 16) hm.1 dX10_wishOf_11 (by decide) (fun c11 => ?_) (fun c11 => ?_)
  · have h := h.1 c11
    refine kk_aload_n hm.1 1 dX10_wishOf_16 rfl rfl ?_
    refine kk_sipush (v := (400 : Int32)) hm.1 dX10_wishOf_17 (by decide) ?_
    refine kk_aload_n hm.1 1 dX10_wishOf_20 rfl rfl ?_
    refine kk_getR hm.1 ff_X10_17 dX10_wishOf_21 h0 ?_
    refine kk_sipush (v := (180 : Int32)) hm.1 dX10_wishOf_24 (by decide) ?_
    obtain ⟨o27, h⟩ := h
    refine kk_iaload hm.1 dX10_wishOf_27 o27 ?_
    refine kk_imul hm.1 dX10_wishOf_28 ?_
    refine kn_putI hm.1 fp_X10_189 dX10_wishOf_29 h0 (fun i29 e29 => ?_)
    have h := h i29 e29
    refine kk_aload_n hm.1 1 dX10_wishOf_32 rfl rfl ?_
    refine kk_aload_n hm.1 1 dX10_wishOf_33 rfl rfl ?_
    refine kk_getI hm.1 ff_X10_189 dX10_wishOf_34 h0 ?_
    refine kk_aload_n hm.1 1 dX10_wishOf_37 rfl rfl ?_
    refine kk_getR hm.1 ff_X10_17 dX10_wishOf_38 h0 ?_
    refine kk_sipush (v := (181 : Int32)) hm.1 dX10_wishOf_41 (by decide) ?_
    refine kk_aload_n hm.1 1 dX10_wishOf_44 rfl rfl ?_
    refine kk_getR hm.1 ff_X10_17 dX10_wishOf_45 h0 ?_
    refine kk_sipush (v := (180 : Int32)) hm.1 dX10_wishOf_48 (by decide) ?_
    obtain ⟨o51, h⟩ := h
    refine kk_iaload hm.1 dX10_wishOf_51 o51 ?_
    refine kk_iadd hm.1 dX10_wishOf_52 ?_
    obtain ⟨o53, h⟩ := h
    refine kk_iaload hm.1 dX10_wishOf_53 o53 ?_
    refine kk_iadd hm.1 dX10_wishOf_54 ?_
    refine kn_putI hm.1 fp_X10_186 dX10_wishOf_55 h0 (fun i55 e55 => ?_)
    have h := h i55 e55
    refine kk_loc (L' := [(0, kw_a a0), (1, kw_l l1), (3, kw_l l1)]) [1, 2, 0] rfl ?_
    obtain ⟨N, h⟩ := h
    exact q_X10_wishOf_58 hm  h0   N l1 i55 h
  · have h := h.2 c11
    refine kk_lload_n hm.1 0 dX10_wishOf_14 rfl rfl ?_
    exact kk_lret hm.1 hm.2.1 dX10_wishOf_15 ⟨_, rfl, rfl, rfl, rfl, rfl, h⟩
def w_X10_nearest_70 (x0 : Int32) (l1 : Int64) (T : kw_T) (n : Nat) (r : kw_R) (i : kw_I) (w : kw_L) (Q : Int32 → Prop) (k8 : Int32 → Int64 → Int32 → Prop) (x3 : Int32) (l4 : Int64) (x6 : Int32) : Prop :=
  k8 x3 l4 ((x6 + (1 : Int32)))
def w_X10_nearest_63 (x0 : Int32) (l1 : Int64) (T : kw_T) (n : Nat) (r : kw_R) (i : kw_I) (w : kw_L) (Q : Int32 → Prop) (k8 : Int32 → Int64 → Int32 → Prop) (x6 : Int32) (l7 : Int64) : Prop :=
  w_X10_nearest_70 x0 l1 T n r i w Q k8 x6 l7 x6
def w_X10_nearest_36 (x0 : Int32) (l1 : Int64) (T : kw_T) (n : Nat) (r : kw_R) (i : kw_I) (w : kw_L) (Q : Int32 → Prop) (k8 : Int32 → Int64 → Int32 → Prop) (x3 : Int32) (l4 : Int64) (x6 : Int32) (s0 : Int64) : Prop :=
  (((x0 >>> (x6 &&& 31)) &&& (1 : Int32)) = 0 → w_X10_nearest_70 x0 l1 T n r i w Q k8 x3 l4 x6) ∧ (¬ ((x0 >>> (x6 &&& 31)) &&& (1 : Int32)) = 0 → (x3 = (-1 : Int32) → w_X10_nearest_63 x0 l1 T n r i w Q k8 x6 s0) ∧ (¬ x3 = (-1 : Int32) → ((lg_cmp s0 l4) < 0 → w_X10_nearest_63 x0 l1 T n r i w Q k8 x6 s0) ∧ (¬ (lg_cmp s0 l4) < 0 → w_X10_nearest_70 x0 l1 T n r i w Q k8 x3 l4 x6)))
def s_X10_nearest_8 (x0 : Int32) (l1 : Int64) (T : kw_T) (n : Nat) (r : kw_R) (i : kw_I) (w : kw_L) (Q : Int32 → Prop)  (k8 : Int32 → Int64 → Int32 → Prop) (x3 : Int32) (l4 : Int64) (x6 : Int32) : Prop :=
  ((8 : Int32) ≤ x6 → Q x3) ∧ (¬ (8 : Int32) ≤ x6 → ((lg_cmp l1 (x6.toInt64)) ≤ 0 → w_X10_nearest_36 x0 l1 T n r i w Q k8 x3 l4 x6 (((x6.toInt64) - l1))) ∧ (¬ (lg_cmp l1 (x6.toInt64)) ≤ 0 → w_X10_nearest_36 x0 l1 T n r i w Q k8 x3 l4 x6 ((l1 - (x6.toInt64)))))
def w_X10_nearest_8 (x0 : Int32) (l1 : Int64) (T : kw_T) (n : Nat) (r : kw_R) (i : kw_I) (w : kw_L) (Q : Int32 → Prop)  : Nat → Int32 → Int64 → Int32 → Prop
  | 0 => fun _ _ _ => False
  | N + 1 => s_X10_nearest_8 x0 l1 T n r i w Q  (w_X10_nearest_8 x0 l1 T n r i w Q  N)
def w_X10_nearest  (x0 : Int32) (l1 : Int64) (T : kw_T) (n : Nat) (r : kw_R) (i : kw_I) (w : kw_L) (Q : Int32 → Prop) : Prop :=
  ∃ N, w_X10_nearest_8 x0 l1 T n r i w Q  N ((-1 : Int32)) ((0 : Int64)) ((0 : Int32))
abbrev rm_X10_nearest : Room := { frames := 1, cells := 0, slots := 0, locals := 60 }
set_option maxHeartbeats 4000000 in
set_option maxRecDepth 100000 in
theorem q_X10_nearest_70 {x0 : Int32} {l1 : Int64} {T : kw_T} {n : Nat} {r : kw_R} {i : kw_I} {w : kw_L} {Q : Int32 → Prop} {E : kw_E} {G : kw_G} (hm : kw_m E G cX10_nearest 9 RX10 (some .int) rm_X10_nearest "nearest")   {k8 : Int32 → Int64 → Int32 → Prop} (hk8 : ∀ (x3 : Int32) (l4 : Int64) (x6 : Int32), k8 x3 l4 x6 → kw_K E G 9 0 0 (kw_Z E G 0 0 (kw_PI (fun v T' n' r' i' w' => T = T' ∧ n = n' ∧ r = r' ∧ i = i' ∧ w = w' ∧ Q v))) 8 [(0, kw_i x0), (1, kw_l l1), (3, kw_i x3), (4, kw_l l4), (6, kw_i x6)] [] T n r i w) (x3 : Int32) (l4 : Int64) (x6 : Int32) (h : w_X10_nearest_70 x0 l1 T n r i w Q k8 x3 l4 x6) : kw_K E G 9 0 0 (kw_Z E G 0 0 (kw_PI (fun v T' n' r' i' w' => T = T' ∧ n = n' ∧ r = r' ∧ i = i' ∧ w = w' ∧ Q v))) 70 [(0, kw_i x0), (1, kw_l l1), (3, kw_i x3), (4, kw_l l4), (6, kw_i x6)] [] T n r i w := by
  refine kk_iinc (v := (x6 + (1 : Int32))) (L' := [(6, kw_i (x6 + (1 : Int32))), (0, kw_i x0), (1, kw_l l1), (3, kw_i x3), (4, kw_l l4)]) hm.1 4 dX10_nearest_70 rfl rfl (by decide) rfl ?_
  refine kk_goto (tgt := 8) hm.1 dX10_nearest_73 (by decide) ?_
  refine kk_loc (L' := [(0, kw_i x0), (1, kw_l l1), (3, kw_i x3), (4, kw_l l4), (6, kw_i (x6 + (1 : Int32)))]) [1, 2, 3, 4, 0] rfl ?_
  exact hk8 x3 l4 ((x6 + (1 : Int32))) h
set_option maxHeartbeats 4000000 in
set_option maxRecDepth 100000 in
theorem q_X10_nearest_63 {x0 : Int32} {l1 : Int64} {T : kw_T} {n : Nat} {r : kw_R} {i : kw_I} {w : kw_L} {Q : Int32 → Prop} {E : kw_E} {G : kw_G} (hm : kw_m E G cX10_nearest 9 RX10 (some .int) rm_X10_nearest "nearest")   {k8 : Int32 → Int64 → Int32 → Prop} (hk8 : ∀ (x3 : Int32) (l4 : Int64) (x6 : Int32), k8 x3 l4 x6 → kw_K E G 9 0 0 (kw_Z E G 0 0 (kw_PI (fun v T' n' r' i' w' => T = T' ∧ n = n' ∧ r = r' ∧ i = i' ∧ w = w' ∧ Q v))) 8 [(0, kw_i x0), (1, kw_l l1), (3, kw_i x3), (4, kw_l l4), (6, kw_i x6)] [] T n r i w) (x6 : Int32) (l7 : Int64) (h : w_X10_nearest_63 x0 l1 T n r i w Q k8 x6 l7) : kw_K E G 9 0 0 (kw_Z E G 0 0 (kw_PI (fun v T' n' r' i' w' => T = T' ∧ n = n' ∧ r = r' ∧ i = i' ∧ w = w' ∧ Q v))) 63 [(0, kw_i x0), (1, kw_l l1), (6, kw_i x6), (7, kw_l l7)] [] T n r i w := by
  refine kk_iload hm.1 2 dX10_nearest_63 rfl ?_
  refine kk_istore_n (L' := [(3, kw_i x6), (0, kw_i x0), (1, kw_l l1), (6, kw_i x6), (7, kw_l l7)]) hm.1 dX10_nearest_65 rfl (by decide) rfl ?_
  refine kk_lload hm.1 4 dX10_nearest_66 rfl ?_
  refine kk_lstore (L' := [(4, kw_l l7), (3, kw_i x6), (0, kw_i x0), (1, kw_l l1), (6, kw_i x6), (7, kw_l l7)]) hm.1 dX10_nearest_68 (by decide) rfl ?_
  refine kk_loc (L' := [(0, kw_i x0), (1, kw_l l1), (3, kw_i x6), (4, kw_l l7), (6, kw_i x6)]) [2, 3, 1, 0, 4] rfl ?_
  exact q_X10_nearest_70 hm   hk8 x6 l7 x6 h
set_option maxHeartbeats 4000000 in
set_option maxRecDepth 100000 in
theorem q_X10_nearest_36 {x0 : Int32} {l1 : Int64} {T : kw_T} {n : Nat} {r : kw_R} {i : kw_I} {w : kw_L} {Q : Int32 → Prop} {E : kw_E} {G : kw_G} (hm : kw_m E G cX10_nearest 9 RX10 (some .int) rm_X10_nearest "nearest")   {k8 : Int32 → Int64 → Int32 → Prop} (hk8 : ∀ (x3 : Int32) (l4 : Int64) (x6 : Int32), k8 x3 l4 x6 → kw_K E G 9 0 0 (kw_Z E G 0 0 (kw_PI (fun v T' n' r' i' w' => T = T' ∧ n = n' ∧ r = r' ∧ i = i' ∧ w = w' ∧ Q v))) 8 [(0, kw_i x0), (1, kw_l l1), (3, kw_i x3), (4, kw_l l4), (6, kw_i x6)] [] T n r i w) (x3 : Int32) (l4 : Int64) (x6 : Int32) (s0 : Int64) (h : w_X10_nearest_36 x0 l1 T n r i w Q k8 x3 l4 x6 s0) : kw_K E G 9 0 0 (kw_Z E G 0 0 (kw_PI (fun v T' n' r' i' w' => T = T' ∧ n = n' ∧ r = r' ∧ i = i' ∧ w = w' ∧ Q v))) 36 [(0, kw_i x0), (1, kw_l l1), (3, kw_i x3), (4, kw_l l4), (6, kw_i x6)] [kw_l s0] T n r i w := by
  refine kk_lstore (L' := [(7, kw_l s0), (0, kw_i x0), (1, kw_l l1), (3, kw_i x3), (4, kw_l l4), (6, kw_i x6)]) hm.1 dX10_nearest_36 (by decide) rfl ?_
  refine kk_iload_n hm.1 1 dX10_nearest_38 rfl rfl ?_
  refine kk_iload hm.1 5 dX10_nearest_39 rfl ?_
  refine kk_ishr hm.1 dX10_nearest_41 ?_
  refine kk_iconst (v := (1 : Int32)) hm.1 dX10_nearest_42 (by decide) ?_
  refine kk_iand hm.1 dX10_nearest_43 ?_
  refine kk_if_eq (tgt := 70) hm.1 dX10_nearest_44 (by decide) (fun c44 => ?_) (fun c44 => ?_)
  · have h := h.1 c44
    refine kk_loc (L' := [(0, kw_i x0), (1, kw_l l1), (3, kw_i x3), (4, kw_l l4), (6, kw_i x6)]) [1, 2, 3, 4, 5] rfl ?_
    exact q_X10_nearest_70 hm   hk8 x3 l4 x6 h
  · have h := h.2 c44
    refine kk_iload_n hm.1 3 dX10_nearest_47 rfl rfl ?_
    refine kk_iconst (v := (-1 : Int32)) hm.1 dX10_nearest_48 (by decide) ?_
    refine kk_icmp_eq (tgt := 63) hm.1 dX10_nearest_49 (by decide) (fun c49 => ?_) (fun c49 => ?_)
    · have h := h.1 c49
      refine kk_loc (L' := [(0, kw_i x0), (1, kw_l l1), (6, kw_i x6), (7, kw_l s0)]) [1, 2, 5, 0] rfl ?_
      exact q_X10_nearest_63 hm   hk8 x6 s0 h
    · have h := h.2 c49
      refine kk_lload hm.1 0 dX10_nearest_52 rfl ?_
      refine kk_lload hm.1 4 dX10_nearest_54 rfl ?_
      refine kk_lcmp hm.1 dX10_nearest_56 ?_
      refine kk_if_lt (tgt := 63) hm.1 dX10_nearest_57 (by decide) (fun c57 => ?_) (fun c57 => ?_)
      · have h := h.1 c57
        refine kk_loc (L' := [(0, kw_i x0), (1, kw_l l1), (6, kw_i x6), (7, kw_l s0)]) [1, 2, 5, 0] rfl ?_
        exact q_X10_nearest_63 hm   hk8 x6 s0 h
      · have h := h.2 c57
        refine kk_goto (tgt := 70) hm.1 dX10_nearest_60 (by decide) ?_
        refine kk_loc (L' := [(0, kw_i x0), (1, kw_l l1), (3, kw_i x3), (4, kw_l l4), (6, kw_i x6)]) [1, 2, 3, 4, 5] rfl ?_
        exact q_X10_nearest_70 hm   hk8 x3 l4 x6 h
set_option maxHeartbeats 4000000 in
set_option maxRecDepth 100000 in
theorem qs_X10_nearest_8 {x0 : Int32} {l1 : Int64} {T : kw_T} {n : Nat} {r : kw_R} {i : kw_I} {w : kw_L} {Q : Int32 → Prop} {E : kw_E} {G : kw_G} (hm : kw_m E G cX10_nearest 9 RX10 (some .int) rm_X10_nearest "nearest")     {k8 : Int32 → Int64 → Int32 → Prop} (hk8 : ∀ (x3 : Int32) (l4 : Int64) (x6 : Int32), k8 x3 l4 x6 → kw_K E G 9 0 0 (kw_Z E G 0 0 (kw_PI (fun v T' n' r' i' w' => T = T' ∧ n = n' ∧ r = r' ∧ i = i' ∧ w = w' ∧ Q v))) 8 [(0, kw_i x0), (1, kw_l l1), (3, kw_i x3), (4, kw_l l4), (6, kw_i x6)] [] T n r i w) (x3 : Int32) (l4 : Int64) (x6 : Int32) (h : s_X10_nearest_8 x0 l1 T n r i w Q  k8 x3 l4 x6) : kw_K E G 9 0 0 (kw_Z E G 0 0 (kw_PI (fun v T' n' r' i' w' => T = T' ∧ n = n' ∧ r = r' ∧ i = i' ∧ w = w' ∧ Q v))) 8 [(0, kw_i x0), (1, kw_l l1), (3, kw_i x3), (4, kw_l l4), (6, kw_i x6)] [] T n r i w := by
  refine kk_iload hm.1 4 dX10_nearest_8 rfl ?_
  refine kk_bipush (v := (8 : Int32)) hm.1 dX10_nearest_10 (by decide) ?_
  refine kk_icmp_ge (tgt := 76) hm.1 dX10_nearest_12 (by decide) (fun c12 => ?_) (fun c12 => ?_)
  · have h := h.1 c12
    refine kk_iload_n hm.1 2 dX10_nearest_76 rfl rfl ?_
    exact kk_iret hm.1 hm.2.1 dX10_nearest_77 ⟨_, rfl, rfl, rfl, rfl, rfl, rfl, h⟩
  · have h := h.2 c12
    refine kk_lload_n hm.1 1 dX10_nearest_15 rfl rfl ?_
    refine kk_iload hm.1 4 dX10_nearest_16 rfl ?_
    refine kk_i2l hm.1 dX10_nearest_18 ?_
    refine kk_lcmp hm.1 dX10_nearest_19 ?_
    refine kk_if_le (tgt := 31) hm.1 dX10_nearest_20 (by decide) (fun c20 => ?_) (fun c20 => ?_)
    · have h := h.1 c20
      refine kk_iload hm.1 4 dX10_nearest_31 rfl ?_
      refine kk_i2l hm.1 dX10_nearest_33 ?_
      refine kk_lload_n hm.1 1 dX10_nearest_34 rfl rfl ?_
      refine kk_lsub hm.1 dX10_nearest_35 ?_
      exact q_X10_nearest_36 hm   hk8 x3 l4 x6 (((x6.toInt64) - l1)) h
    · have h := h.2 c20
      refine kk_lload_n hm.1 1 dX10_nearest_23 rfl rfl ?_
      refine kk_iload hm.1 4 dX10_nearest_24 rfl ?_
      refine kk_i2l hm.1 dX10_nearest_26 ?_
      refine kk_lsub hm.1 dX10_nearest_27 ?_
      refine kk_goto (tgt := 36) hm.1 dX10_nearest_28 (by decide) ?_
      exact q_X10_nearest_36 hm   hk8 x3 l4 x6 ((l1 - (x6.toInt64))) h
set_option maxHeartbeats 4000000 in
set_option maxRecDepth 100000 in
theorem q_X10_nearest_8 {x0 : Int32} {l1 : Int64} {T : kw_T} {n : Nat} {r : kw_R} {i : kw_I} {w : kw_L} {Q : Int32 → Prop} {E : kw_E} {G : kw_G} (hm : kw_m E G cX10_nearest 9 RX10 (some .int) rm_X10_nearest "nearest")     : ∀ (N : Nat) (x3 : Int32) (l4 : Int64) (x6 : Int32), w_X10_nearest_8 x0 l1 T n r i w Q  N x3 l4 x6 → kw_K E G 9 0 0 (kw_Z E G 0 0 (kw_PI (fun v T' n' r' i' w' => T = T' ∧ n = n' ∧ r = r' ∧ i = i' ∧ w = w' ∧ Q v))) 8 [(0, kw_i x0), (1, kw_l l1), (3, kw_i x3), (4, kw_l l4), (6, kw_i x6)] [] T n r i w := by
  intro N
  induction N with
  | zero => intro x3 l4 x6 h; exact h.elim
  | succ N ih => intro x3 l4 x6 h; exact qs_X10_nearest_8 hm    ih x3 l4 x6 h
set_option maxHeartbeats 4000000 in
set_option maxRecDepth 100000 in
theorem t_X10_nearest {l : Launch} {G : kw_G} {x0 : Int32} {l1 : Int64} {T : kw_T} {n : Nat} {r : kw_R} {i : kw_I} {w : kw_L} {Q : Int32 → Prop} (h : w_X10_nearest x0 l1 T n r i w Q) : kw_Met l G yX10_nearest cX10_nearest 9 (some .int) rm_X10_nearest [kw_i x0, kw_l l1] (T, n, r, i, w) (kw_PI (fun v T' n' r' i' w' => T = T' ∧ n = n' ∧ r = r' ∧ i = i' ∧ w = w' ∧ Q v)) := by
  refine kw_Met.of (by decide) (Nat.le_of_ble_eq_true rfl) fun E hl hRm hE hT hnm => ?_
  have hm : kw_m E G cX10_nearest 9 RX10 (some .int) rm_X10_nearest "nearest" := ⟨hE, hT, hRm, hnm⟩
  subst hl
  show kw_K E G 9 0 0 (kw_Z E G 0 0 (kw_PI (fun v T' n' r' i' w' => T = T' ∧ n = n' ∧ r = r' ∧ i = i' ∧ w = w' ∧ Q v))) 0 [(0, kw_i x0), (1, kw_l l1)] [] T n r i w
  refine kk_iconst (v := (-1 : Int32)) hm.1 dX10_nearest_0 (by decide) ?_
  refine kk_istore_n (L' := [(3, kw_i (-1 : Int32)), (0, kw_i x0), (1, kw_l l1)]) hm.1 dX10_nearest_1 rfl (by decide) rfl ?_
  refine kk_lconst (v := (0 : Int64)) hm.1 dX10_nearest_2 (by decide) ?_
  refine kk_lstore (L' := [(4, kw_l (0 : Int64)), (3, kw_i (-1 : Int32)), (0, kw_i x0), (1, kw_l l1)]) hm.1 dX10_nearest_3 (by decide) rfl ?_
  refine kk_iconst (v := (0 : Int32)) hm.1 dX10_nearest_5 (by decide) ?_
  refine kk_istore (L' := [(6, kw_i (0 : Int32)), (4, kw_l (0 : Int64)), (3, kw_i (-1 : Int32)), (0, kw_i x0), (1, kw_l l1)]) hm.1 dX10_nearest_6 (by decide) rfl ?_
  refine kk_loc (L' := [(0, kw_i x0), (1, kw_l l1), (3, kw_i (-1 : Int32)), (4, kw_l (0 : Int64)), (6, kw_i (0 : Int32))]) [3, 4, 2, 1, 0] rfl ?_
  obtain ⟨N, h⟩ := h
  exact q_X10_nearest_8 hm    N ((-1 : Int32)) ((0 : Int64)) ((0 : Int32)) h
def w_X10_plain  (a0 : Nat) (T : kw_T) (n : Nat) (r : kw_R) (i : kw_I) (w : kw_L) (Q : kw_I → Prop) : Prop :=
  ∀ i2 : kw_I, i2 = kw_st i a0 27 (0 : Int32) → (∀ i7 : kw_I, i7 = kw_st i2 a0 28 (-1 : Int32) → (∀ i12 : kw_I, i12 = kw_st i7 a0 29 (0 : Int32) → (∀ i17 : kw_I, i17 = kw_st i12 a0 30 (-1 : Int32) → (∀ i22 : kw_I, i22 = kw_st i17 a0 31 (0 : Int32) → (∀ i27 : kw_I, i27 = kw_st i22 a0 32 (0 : Int32) → (Q i27))))))
abbrev rm_X10_plain : Room := { frames := 1, cells := 0, slots := 0, locals := 60 }
set_option maxHeartbeats 4000000 in
set_option maxRecDepth 100000 in
theorem t_X10_plain {l : Launch} {G : kw_G} {a0 : Nat} {T : kw_T} {n : Nat} {r : kw_R} {i : kw_I} {w : kw_L} {Q : kw_I → Prop} (h0 : T a0 = (0, 10)) (h : w_X10_plain a0 T n r i w Q) : kw_Met l G yX10_plain cX10_plain 1 none rm_X10_plain [kw_a a0] (T, n, r, i, w) (kw_PV (fun T' n' r' i' w' => T = T' ∧ n = n' ∧ r = r' ∧ w = w' ∧ Q i')) := by
  refine kw_Met.of (by decide) (Nat.le_of_ble_eq_true rfl) fun E hl hRm hE hT hnm => ?_
  have hm : kw_m E G cX10_plain 1 RX10 none rm_X10_plain "plain" := ⟨hE, hT, hRm, hnm⟩
  subst hl
  show kw_K E G 1 0 0 (kw_Z E G 0 0 (kw_PV (fun T' n' r' i' w' => T = T' ∧ n = n' ∧ r = r' ∧ w = w' ∧ Q i'))) 0 [(0, kw_a a0)] [] T n r i w
  refine kk_aload_n hm.1 0 dX10_plain_0 rfl rfl ?_
  refine kk_iconst (v := (0 : Int32)) hm.1 dX10_plain_1 (by decide) ?_
  refine kn_putI hm.1 fp_X10_233 dX10_plain_2 h0 (fun i2 e2 => ?_)
  have h := h i2 e2
  refine kk_aload_n hm.1 0 dX10_plain_5 rfl rfl ?_
  refine kk_iconst (v := (-1 : Int32)) hm.1 dX10_plain_6 (by decide) ?_
  refine kn_putI hm.1 fp_X10_236 dX10_plain_7 h0 (fun i7 e7 => ?_)
  have h := h i7 e7
  refine kk_aload_n hm.1 0 dX10_plain_10 rfl rfl ?_
  refine kk_iconst (v := (0 : Int32)) hm.1 dX10_plain_11 (by decide) ?_
  refine kn_putI hm.1 fp_X10_239 dX10_plain_12 h0 (fun i12 e12 => ?_)
  have h := h i12 e12
  refine kk_aload_n hm.1 0 dX10_plain_15 rfl rfl ?_
  refine kk_iconst (v := (-1 : Int32)) hm.1 dX10_plain_16 (by decide) ?_
  refine kn_putI hm.1 fp_X10_242 dX10_plain_17 h0 (fun i17 e17 => ?_)
  have h := h i17 e17
  refine kk_aload_n hm.1 0 dX10_plain_20 rfl rfl ?_
  refine kk_iconst (v := (0 : Int32)) hm.1 dX10_plain_21 (by decide) ?_
  refine kn_putI hm.1 fp_X10_245 dX10_plain_22 h0 (fun i22 e22 => ?_)
  have h := h i22 e22
  refine kk_aload_n hm.1 0 dX10_plain_25 rfl rfl ?_
  refine kk_iconst (v := (0 : Int32)) hm.1 dX10_plain_26 (by decide) ?_
  refine kn_putZ hm.1 fp_X10_248 dX10_plain_27 h0 (Or.inl rfl) (fun i27 e27 => ?_)
  have h := h i27 e27
  exact kk_vret hm.1 hm.2.1 dX10_plain_30 ⟨rfl, rfl, rfl, rfl, rfl, h⟩
def w_X10_isSeen  (a0 : Nat) (x1 : Int32) (x2 : Int32) (T : kw_T) (n : Nat) (r : kw_R) (i : kw_I) (w : kw_L) (Q : Int32 → Prop) : Prop :=
  (¬ (((i a0 27) >>> (x1 &&& 31)) &&& (1 : Int32)) = (1 : Int32) → w_X10_factOf a0 x1 (0 : Int32) T n r i w (fun v21 => w_X10_factOf a0 x1 (0 : Int32) T n r i w (fun v27 => w_X10_factOf a0 x1 (2 : Int32) T n r i w (fun v33 => w_X10_lies (x2 - x2 / (6 : Int32) * (6 : Int32)) v21 ((v27 + v33) - (1 : Int32)) T n r i w (fun v39 => (v39 = 0 → Q (0 : Int32)) ∧ (¬ v39 = 0 → w_X10_factOf a0 x1 (1 : Int32) T n r i w (fun v52 => w_X10_factOf a0 x1 (1 : Int32) T n r i w (fun v58 => w_X10_factOf a0 x1 (3 : Int32) T n r i w (fun v64 => w_X10_lies (x2 / (6 : Int32)) v52 ((v58 + v64) - (1 : Int32)) T n r i w (fun v70 => (v70 = 0 → Q (0 : Int32)) ∧ (¬ v70 = 0 → Q (1 : Int32)))))))))))) ∧ ((((i a0 27) >>> (x1 &&& 31)) &&& (1 : Int32)) = (1 : Int32) → Q (1 : Int32))
abbrev rm_X10_isSeen : Room := { frames := 2, cells := 0, slots := 0, locals := 82 }
set_option maxHeartbeats 4000000 in
set_option maxRecDepth 100000 in
theorem t_X10_isSeen {l : Launch} {G : kw_G} {a0 : Nat} {x1 : Int32} {x2 : Int32} {T : kw_T} {n : Nat} {r : kw_R} {i : kw_I} {w : kw_L} {Q : Int32 → Prop} (h0 : T a0 = (0, 10)) (h : w_X10_isSeen a0 x1 x2 T n r i w Q) : kw_Met l G yX10_isSeen cX10_isSeen 3 (some .boolean) rm_X10_isSeen [kw_a a0, kw_i x1, kw_i x2] (T, n, r, i, w) (kw_PI (fun v T' n' r' i' w' => T = T' ∧ n = n' ∧ r = r' ∧ i = i' ∧ w = w' ∧ Q v)) := by
  refine kw_Met.of (by decide) (Nat.le_of_ble_eq_true rfl) fun E hl hRm hE hT hnm => ?_
  have hm : kw_m E G cX10_isSeen 3 RX10 (some .boolean) rm_X10_isSeen "isSeen" := ⟨hE, hT, hRm, hnm⟩
  subst hl
  show kw_K E G 3 0 0 (kw_Z E G 0 0 (kw_PI (fun v T' n' r' i' w' => T = T' ∧ n = n' ∧ r = r' ∧ i = i' ∧ w = w' ∧ Q v))) 0 [(0, kw_a a0), (1, kw_i x1), (2, kw_i x2)] [] T n r i w
  refine kk_aload_n hm.1 0 dX10_isSeen_0 rfl rfl ?_
  refine kk_getI hm.1 ff_X10_233 dX10_isSeen_1 h0 ?_
  refine kk_iload_n hm.1 1 dX10_isSeen_4 rfl rfl ?_
  refine kk_ishr hm.1 dX10_isSeen_5 ?_
  refine kk_iconst (v := (1 : Int32)) hm.1 dX10_isSeen_6 (by decide) ?_
  refine kk_iand hm.1 dX10_isSeen_7 ?_
  refine kk_iconst (v := (1 : Int32)) hm.1 dX10_isSeen_8 (by decide) ?_
  refine kk_icmp_ne (tgt := 14) hm.1 dX10_isSeen_9 (by decide) (fun c9 => ?_) (fun c9 => ?_)
  · have h := h.1 c9
    refine kk_iload_n hm.1 2 dX10_isSeen_14 rfl rfl ?_
    refine kk_bipush (v := (6 : Int32)) hm.1 dX10_isSeen_15 (by decide) ?_
    refine kk_irem hm.1 dX10_isSeen_17 (by decide) ?_
    refine kk_aload_n hm.1 0 dX10_isSeen_18 rfl rfl ?_
    refine kk_iload_n hm.1 1 dX10_isSeen_19 rfl rfl ?_
    refine kk_iconst (v := (0 : Int32)) hm.1 dX10_isSeen_20 (by decide) ?_
    refine kk_callVi (cs' := 0) (sl' := 0) (st := [kw_i (x2 - x2 / (6 : Int32) * (6 : Int32))]) hm.1 cv_X10_100 (t_X10_factOf h0 h) dX10_isSeen_21 h0 rfl rfl hm.2.2.1 ⟨by decide, by decide⟩ ⟨by decide, by decide⟩ rfl rfl (Nat.le_of_ble_eq_true rfl) rfl ?_
    rintro v21 _ _ _ _ _ ⟨rfl, rfl, rfl, rfl, rfl, h⟩
    refine kk_aload_n hm.1 0 dX10_isSeen_24 rfl rfl ?_
    refine kk_iload_n hm.1 1 dX10_isSeen_25 rfl rfl ?_
    refine kk_iconst (v := (0 : Int32)) hm.1 dX10_isSeen_26 (by decide) ?_
    refine kk_callVi (cs' := 0) (sl' := 0) (st := [kw_i v21, kw_i (x2 - x2 / (6 : Int32) * (6 : Int32))]) hm.1 cv_X10_100 (t_X10_factOf h0 h) dX10_isSeen_27 h0 rfl rfl hm.2.2.1 ⟨by decide, by decide⟩ ⟨by decide, by decide⟩ rfl rfl (Nat.le_of_ble_eq_true rfl) rfl ?_
    rintro v27 _ _ _ _ _ ⟨rfl, rfl, rfl, rfl, rfl, h⟩
    refine kk_aload_n hm.1 0 dX10_isSeen_30 rfl rfl ?_
    refine kk_iload_n hm.1 1 dX10_isSeen_31 rfl rfl ?_
    refine kk_iconst (v := (2 : Int32)) hm.1 dX10_isSeen_32 (by decide) ?_
    refine kk_callVi (cs' := 0) (sl' := 0) (st := [kw_i v27, kw_i v21, kw_i (x2 - x2 / (6 : Int32) * (6 : Int32))]) hm.1 cv_X10_100 (t_X10_factOf h0 h) dX10_isSeen_33 h0 rfl rfl hm.2.2.1 ⟨by decide, by decide⟩ ⟨by decide, by decide⟩ rfl rfl (Nat.le_of_ble_eq_true rfl) rfl ?_
    rintro v33 _ _ _ _ _ ⟨rfl, rfl, rfl, rfl, rfl, h⟩
    refine kk_iadd hm.1 dX10_isSeen_36 ?_
    refine kk_iconst (v := (1 : Int32)) hm.1 dX10_isSeen_37 (by decide) ?_
    refine kk_isub hm.1 dX10_isSeen_38 ?_
    refine kk_callSi (cs' := 0) (sl' := 0) (st := []) hm.1 cs_X10_73 (t_X10_lies h) dX10_isSeen_39 rfl hm.2.2.1 ⟨by decide, by decide⟩ ⟨by decide, by decide⟩ rfl rfl (Nat.le_of_ble_eq_true rfl) rfl ?_
    rintro v39 _ _ _ _ _ ⟨rfl, rfl, rfl, rfl, rfl, h⟩
    refine kk_if_eq (tgt := 80) hm.1 dX10_isSeen_42 (by decide) (fun c42 => ?_) (fun c42 => ?_)
    · have h := h.1 c42
      refine kk_iconst (v := (0 : Int32)) hm.1 dX10_isSeen_80 (by decide) ?_
      exact kk_zret hm.1 hm.2.1 dX10_isSeen_81 (Or.inl rfl) ⟨_, rfl, rfl, rfl, rfl, rfl, rfl, h⟩
    · have h := h.2 c42
      refine kk_iload_n hm.1 2 dX10_isSeen_45 rfl rfl ?_
      refine kk_bipush (v := (6 : Int32)) hm.1 dX10_isSeen_46 (by decide) ?_
      refine kk_idiv hm.1 dX10_isSeen_48 (by decide) ?_
      refine kk_aload_n hm.1 0 dX10_isSeen_49 rfl rfl ?_
      refine kk_iload_n hm.1 1 dX10_isSeen_50 rfl rfl ?_
      refine kk_iconst (v := (1 : Int32)) hm.1 dX10_isSeen_51 (by decide) ?_
      refine kk_callVi (cs' := 0) (sl' := 0) (st := [kw_i (x2 / (6 : Int32))]) hm.1 cv_X10_100 (t_X10_factOf h0 h) dX10_isSeen_52 h0 rfl rfl hm.2.2.1 ⟨by decide, by decide⟩ ⟨by decide, by decide⟩ rfl rfl (Nat.le_of_ble_eq_true rfl) rfl ?_
      rintro v52 _ _ _ _ _ ⟨rfl, rfl, rfl, rfl, rfl, h⟩
      refine kk_aload_n hm.1 0 dX10_isSeen_55 rfl rfl ?_
      refine kk_iload_n hm.1 1 dX10_isSeen_56 rfl rfl ?_
      refine kk_iconst (v := (1 : Int32)) hm.1 dX10_isSeen_57 (by decide) ?_
      refine kk_callVi (cs' := 0) (sl' := 0) (st := [kw_i v52, kw_i (x2 / (6 : Int32))]) hm.1 cv_X10_100 (t_X10_factOf h0 h) dX10_isSeen_58 h0 rfl rfl hm.2.2.1 ⟨by decide, by decide⟩ ⟨by decide, by decide⟩ rfl rfl (Nat.le_of_ble_eq_true rfl) rfl ?_
      rintro v58 _ _ _ _ _ ⟨rfl, rfl, rfl, rfl, rfl, h⟩
      refine kk_aload_n hm.1 0 dX10_isSeen_61 rfl rfl ?_
      refine kk_iload_n hm.1 1 dX10_isSeen_62 rfl rfl ?_
      refine kk_iconst (v := (3 : Int32)) hm.1 dX10_isSeen_63 (by decide) ?_
      refine kk_callVi (cs' := 0) (sl' := 0) (st := [kw_i v58, kw_i v52, kw_i (x2 / (6 : Int32))]) hm.1 cv_X10_100 (t_X10_factOf h0 h) dX10_isSeen_64 h0 rfl rfl hm.2.2.1 ⟨by decide, by decide⟩ ⟨by decide, by decide⟩ rfl rfl (Nat.le_of_ble_eq_true rfl) rfl ?_
      rintro v64 _ _ _ _ _ ⟨rfl, rfl, rfl, rfl, rfl, h⟩
      refine kk_iadd hm.1 dX10_isSeen_67 ?_
      refine kk_iconst (v := (1 : Int32)) hm.1 dX10_isSeen_68 (by decide) ?_
      refine kk_isub hm.1 dX10_isSeen_69 ?_
      refine kk_callSi (cs' := 0) (sl' := 0) (st := []) hm.1 cs_X10_73 (t_X10_lies h) dX10_isSeen_70 rfl hm.2.2.1 ⟨by decide, by decide⟩ ⟨by decide, by decide⟩ rfl rfl (Nat.le_of_ble_eq_true rfl) rfl ?_
      rintro v70 _ _ _ _ _ ⟨rfl, rfl, rfl, rfl, rfl, h⟩
      refine kk_if_eq (tgt := 80) hm.1 dX10_isSeen_73 (by decide) (fun c73 => ?_) (fun c73 => ?_)
      · have h := h.1 c73
        refine kk_iconst (v := (0 : Int32)) hm.1 dX10_isSeen_80 (by decide) ?_
        exact kk_zret hm.1 hm.2.1 dX10_isSeen_81 (Or.inl rfl) ⟨_, rfl, rfl, rfl, rfl, rfl, rfl, h⟩
      · have h := h.2 c73
        refine kk_iconst (v := (1 : Int32)) hm.1 dX10_isSeen_76 (by decide) ?_
        refine kk_goto (tgt := 81) hm.1 dX10_isSeen_77 (by decide) ?_
        exact kk_zret hm.1 hm.2.1 dX10_isSeen_81 (Or.inr rfl) ⟨_, rfl, rfl, rfl, rfl, rfl, rfl, h⟩
  · have h := h.2 c9
    refine kk_iconst (v := (1 : Int32)) hm.1 dX10_isSeen_12 (by decide) ?_
    exact kk_zret hm.1 hm.2.1 dX10_isSeen_13 (Or.inr rfl) ⟨_, rfl, rfl, rfl, rfl, rfl, rfl, h⟩
def w_X10_draws  (a0 : Nat) (x1 : Int32) (T : kw_T) (n : Nat) (r : kw_R) (i : kw_I) (w : kw_L) (Q : Int32 → kw_I → Prop) : Prop :=
  ∀ i19 : kw_I, i19 = kw_st i a0 37 (((((1103 : Int64) * ((i a0 37).toInt64)) + (12345 : Int64)) - (((1103 : Int64) * ((i a0 37).toInt64)) + (12345 : Int64)) / (1000003 : Int64) * (1000003 : Int64)).toInt32) → ((¬ x1 = 0) ∧ (Q ((i19 a0 37) - (i19 a0 37) / x1 * x1) i19))
abbrev rm_X10_draws : Room := { frames := 1, cells := 0, slots := 0, locals := 60 }
set_option maxHeartbeats 4000000 in
set_option maxRecDepth 100000 in
theorem t_X10_draws {l : Launch} {G : kw_G} {a0 : Nat} {x1 : Int32} {T : kw_T} {n : Nat} {r : kw_R} {i : kw_I} {w : kw_L} {Q : Int32 → kw_I → Prop} (h0 : T a0 = (0, 10)) (h : w_X10_draws a0 x1 T n r i w Q) : kw_Met l G yX10_draws cX10_draws 2 (some .int) rm_X10_draws [kw_a a0, kw_i x1] (T, n, r, i, w) (kw_PI (fun v T' n' r' i' w' => T = T' ∧ n = n' ∧ r = r' ∧ w = w' ∧ Q v i')) := by
  refine kw_Met.of (by decide) (Nat.le_of_ble_eq_true rfl) fun E hl hRm hE hT hnm => ?_
  have hm : kw_m E G cX10_draws 2 RX10 (some .int) rm_X10_draws "draws" := ⟨hE, hT, hRm, hnm⟩
  subst hl
  show kw_K E G 2 0 0 (kw_Z E G 0 0 (kw_PI (fun v T' n' r' i' w' => T = T' ∧ n = n' ∧ r = r' ∧ w = w' ∧ Q v i'))) 0 [(0, kw_a a0), (1, kw_i x1)] [] T n r i w
  refine kk_aload_n hm.1 0 dX10_draws_0 rfl rfl ?_
  refine kk_ldc2 (v := (1103 : Int64)) hm.1 dX10_draws_1 wl_X10_313 ?_
  refine kk_aload_n hm.1 0 dX10_draws_4 rfl rfl ?_
  refine kk_getI hm.1 ff_X10_315 dX10_draws_5 h0 ?_
  refine kk_i2l hm.1 dX10_draws_8 ?_
  refine kk_lmul hm.1 dX10_draws_9 ?_
  refine kk_ldc2 (v := (12345 : Int64)) hm.1 dX10_draws_10 wl_X10_318 ?_
  refine kk_ladd hm.1 dX10_draws_13 ?_
  refine kk_ldc2 (v := (1000003 : Int64)) hm.1 dX10_draws_14 wl_X10_320 ?_
  refine kk_lrem hm.1 dX10_draws_17 (by decide) ?_
  refine kk_l2i hm.1 dX10_draws_18 ?_
  refine kn_putI hm.1 fp_X10_315 dX10_draws_19 h0 (fun i19 e19 => ?_)
  have h := h i19 e19
  refine kk_aload_n hm.1 0 dX10_draws_22 rfl rfl ?_
  refine kk_getI hm.1 ff_X10_315 dX10_draws_23 h0 ?_
  refine kk_iload_n hm.1 1 dX10_draws_26 rfl rfl ?_
  obtain ⟨o27, h⟩ := h
  refine kk_irem hm.1 dX10_draws_27 o27 ?_
  exact kk_iret hm.1 hm.2.1 dX10_draws_28 ⟨_, rfl, rfl, rfl, rfl, rfl, h⟩
def w_X10_weaves_300 (a0 : Nat) (x1 : Int32) (a2 : Nat) (x3 : Int32) (x4 : Int32) (T : kw_T) (n : Nat) (r : kw_R) (w : kw_L) (Q : kw_I → Prop) (k30 : Int32 → Int32 → kw_I → Prop) (x5 : Int32) (x6 : Int32) (s0 : Nat) (s1 : Int32) (s2 : Int32) (i : kw_I) : Prop :=
  kw_in T 1 s0 s1 ∧ (∀ i300 : kw_I, i300 = kw_st i s0 (s1).toNatClampNeg s2 → (k30 x5 ((x6 + (1 : Int32))) i300))
def w_X10_weaves_266 (a0 : Nat) (x1 : Int32) (a2 : Nat) (x3 : Int32) (x4 : Int32) (T : kw_T) (n : Nat) (r : kw_R) (w : kw_L) (Q : kw_I → Prop) (k30 : Int32 → Int32 → kw_I → Prop) (x5 : Int32) (x6 : Int32) (l8 : Int64) (i : kw_I) : Prop :=
  (¬ (i a0 30) = (((36 : Int32) * x1) + x6) → w_X10_nearest x5 l8 T n r i w (fun v297 => w_X10_weaves_300 a0 x1 a2 x3 x4 T n r w Q k30 x5 x6 a2 ((x4 + x6)) v297 i)) ∧ ((i a0 30) = (((36 : Int32) * x1) + x6) → w_X10_weaves_300 a0 x1 a2 x3 x4 T n r w Q k30 x5 x6 a2 ((x4 + x6)) ((i a0 31)) i)
def w_X10_weaves_218 (a0 : Nat) (x1 : Int32) (a2 : Nat) (x3 : Int32) (x4 : Int32) (T : kw_T) (n : Nat) (r : kw_R) (w : kw_L) (Q : kw_I → Prop) (k30 : Int32 → Int32 → kw_I → Prop) (x5 : Int32) (x6 : Int32) (s0 : Nat) (s1 : Int64) (i : kw_I) : Prop :=
  T s0 = (0, 10) ∧ (w_X10_wishOf s0 s1 T n r i w (fun v218 i218 => ((i218 a0 32) = 0 → w_X10_weaves_266 a0 x1 a2 x3 x4 T n r w Q k30 x5 x6 v218 i218) ∧ (¬ (i218 a0 32) = 0 → w_X10_draws a0 (100 : Int32) T n r i218 w (fun v233 i233 => kw_in T 1 (r a0 2) (176 : Int32) ∧ (((i233 (r a0 2) ((176 : Int32)).toNatClampNeg) ≤ v233 → w_X10_weaves_266 a0 x1 a2 x3 x4 T n r w Q k30 x5 x6 v218 i233) ∧ (¬ (i233 (r a0 2) ((176 : Int32)).toNatClampNeg) ≤ v233 → w_X10_draws a0 (8 : Int32) T n r i233 w (fun v250 i250 => kw_in T 1 (r a0 26) x1 ∧ (kw_in T 1 (r a0 26) x1 ∧ (∀ i265 : kw_I, i265 = kw_st i250 (r a0 26) (x1).toNatClampNeg ((i250 (r a0 26) (x1).toNatClampNeg) + (1 : Int32)) → (w_X10_weaves_266 a0 x1 a2 x3 x4 T n r w Q k30 x5 x6 (v250.toInt64) i265))))))))))
def w_X10_weaves_166 (a0 : Nat) (x1 : Int32) (a2 : Nat) (x3 : Int32) (x4 : Int32) (T : kw_T) (n : Nat) (r : kw_R) (w : kw_L) (Q : kw_I → Prop) (k30 : Int32 → Int32 → kw_I → Prop) (x5 : Int32) (x6 : Int32) (x7 : Int32) (s0 : Nat) (s1 : Int32) (s2 : Int32) (i : kw_I) : Prop :=
  kw_in T 1 s0 s1 ∧ (∀ i166 : kw_I, i166 = kw_st i s0 (s1).toNatClampNeg s2 → (w_X10_factOf a0 x1 (4 : Int32) T n r i166 w (fun v176 => kw_in T 1 (r a0 21) (7 : Int32) ∧ (∀ i179 : kw_I, i179 = kw_st i166 (r a0 21) ((7 : Int32)).toNatClampNeg v176 → (kw_in T 1 (r a0 2) (177 : Int32) ∧ (kw_in T 1 (r a0 21) (8 : Int32) ∧ (∀ i194 : kw_I, i194 = kw_st i179 (r a0 21) ((8 : Int32)).toNatClampNeg (i179 (r a0 2) ((177 : Int32)).toNatClampNeg) → ((x7 = 0 → w_X10_factOf a0 x1 (4 : Int32) T n r i194 w (fun v214 => w_X10_weaves_218 a0 x1 a2 x3 x4 T n r w Q k30 x5 x6 a0 (v214.toInt64) i194)) ∧ (¬ x7 = 0 → kw_in T 1 a2 (x3 + x6) ∧ (w_X10_weaves_218 a0 x1 a2 x3 x4 T n r w Q k30 x5 x6 a0 (((i194 a2 ((x3 + x6)).toNatClampNeg).toInt64)) i194))))))))))
def w_X10_weaves_138 (a0 : Nat) (x1 : Int32) (a2 : Nat) (x3 : Int32) (x4 : Int32) (T : kw_T) (n : Nat) (r : kw_R) (w : kw_L) (Q : kw_I → Prop) (k30 : Int32 → Int32 → kw_I → Prop) (x5 : Int32) (x6 : Int32) (x7 : Int32) (s0 : Nat) (s1 : Int32) (s2 : Int32) (i : kw_I) : Prop :=
  kw_in T 1 s0 s1 ∧ (∀ i138 : kw_I, i138 = kw_st i s0 (s1).toNatClampNeg s2 → (((6 : Int32) ≤ x6 → kw_in T 1 a2 ((x4 + x6) - (6 : Int32)) ∧ (w_X10_weaves_166 a0 x1 a2 x3 x4 T n r w Q k30 x5 x6 x7 ((r a0 21)) ((6 : Int32)) ((i138 a2 (((x4 + x6) - (6 : Int32))).toNatClampNeg)) i138)) ∧ (¬ (6 : Int32) ≤ x6 → w_X10_weaves_166 a0 x1 a2 x3 x4 T n r w Q k30 x5 x6 x7 ((r a0 21)) ((6 : Int32)) ((-1 : Int32)) i138)))
def w_X10_weaves_111 (a0 : Nat) (x1 : Int32) (a2 : Nat) (x3 : Int32) (x4 : Int32) (T : kw_T) (n : Nat) (r : kw_R) (w : kw_L) (Q : kw_I → Prop) (k30 : Int32 → Int32 → kw_I → Prop) (x5 : Int32) (x6 : Int32) (x7 : Int32) (s0 : Nat) (s1 : Int32) (s2 : Int32) (i : kw_I) : Prop :=
  kw_in T 1 s0 s1 ∧ (∀ i111 : kw_I, i111 = kw_st i s0 (s1).toNatClampNeg s2 → ((¬ (x6 - x6 / (6 : Int32) * (6 : Int32)) = 0 → kw_in T 1 a2 ((x4 + x6) - (1 : Int32)) ∧ (w_X10_weaves_138 a0 x1 a2 x3 x4 T n r w Q k30 x5 x6 x7 ((r a0 21)) ((5 : Int32)) ((i111 a2 (((x4 + x6) - (1 : Int32))).toNatClampNeg)) i111)) ∧ ((x6 - x6 / (6 : Int32) * (6 : Int32)) = 0 → w_X10_weaves_138 a0 x1 a2 x3 x4 T n r w Q k30 x5 x6 x7 ((r a0 21)) ((5 : Int32)) ((-1 : Int32)) i111)))
def w_X10_weaves_90 (a0 : Nat) (x1 : Int32) (a2 : Nat) (x3 : Int32) (x4 : Int32) (T : kw_T) (n : Nat) (r : kw_R) (w : kw_L) (Q : kw_I → Prop) (k30 : Int32 → Int32 → kw_I → Prop) (x5 : Int32) (x6 : Int32) (x7 : Int32) (s0 : Nat) (s1 : Int32) (s2 : Int32) (i : kw_I) : Prop :=
  kw_in T 1 s0 s1 ∧ (∀ i90 : kw_I, i90 = kw_st i s0 (s1).toNatClampNeg s2 → ((x7 = 0 → w_X10_weaves_111 a0 x1 a2 x3 x4 T n r w Q k30 x5 x6 x7 ((r a0 21)) ((4 : Int32)) ((-1 : Int32)) i90) ∧ (¬ x7 = 0 → kw_in T 1 a2 (x3 + x6) ∧ (w_X10_weaves_111 a0 x1 a2 x3 x4 T n r w Q k30 x5 x6 x7 ((r a0 21)) ((4 : Int32)) ((i90 a2 ((x3 + x6)).toNatClampNeg)) i90))))
def s_X10_weaves_30 (a0 : Nat) (x1 : Int32) (a2 : Nat) (x3 : Int32) (x4 : Int32) (T : kw_T) (n : Nat) (r : kw_R) (w : kw_L) (Q : kw_I → Prop)  (k30 : Int32 → Int32 → kw_I → Prop) (x5 : Int32) (x6 : Int32) (i : kw_I) : Prop :=
  ((36 : Int32) ≤ x6 → Q i) ∧ (¬ (36 : Int32) ≤ x6 → w_X10_isSeen a0 x1 x6 T n r i w (fun v41 => kw_in T 1 (r a0 21) (0 : Int32) ∧ (∀ i56 : kw_I, i56 = kw_st i (r a0 21) ((0 : Int32)).toNatClampNeg (x6 - x6 / (6 : Int32) * (6 : Int32)) → (kw_in T 1 (r a0 21) (1 : Int32) ∧ (∀ i67 : kw_I, i67 = kw_st i56 (r a0 21) ((1 : Int32)).toNatClampNeg (x6 / (6 : Int32)) → (kw_in T 1 (r a0 21) (2 : Int32) ∧ (∀ i74 : kw_I, i74 = kw_st i67 (r a0 21) ((2 : Int32)).toNatClampNeg x1 → ((v41 = 0 → w_X10_weaves_90 a0 x1 a2 x3 x4 T n r w Q k30 x5 x6 v41 ((r a0 21)) ((3 : Int32)) ((0 : Int32)) i74) ∧ (¬ v41 = 0 → w_X10_weaves_90 a0 x1 a2 x3 x4 T n r w Q k30 x5 x6 v41 ((r a0 21)) ((3 : Int32)) ((1 : Int32)) i74)))))))))
def w_X10_weaves_30 (a0 : Nat) (x1 : Int32) (a2 : Nat) (x3 : Int32) (x4 : Int32) (T : kw_T) (n : Nat) (r : kw_R) (w : kw_L) (Q : kw_I → Prop)  : Nat → Int32 → Int32 → kw_I → Prop
  | 0 => fun _ _ _ => False
  | N + 1 => s_X10_weaves_30 a0 x1 a2 x3 x4 T n r w Q  (w_X10_weaves_30 a0 x1 a2 x3 x4 T n r w Q  N)
def w_X10_weaves_24 (a0 : Nat) (x1 : Int32) (a2 : Nat) (x3 : Int32) (x4 : Int32) (T : kw_T) (n : Nat) (r : kw_R) (w : kw_L) (Q : kw_I → Prop)  (s0 : Int32) (s1 : Int32) (i : kw_I) : Prop :=
  ∃ N, w_X10_weaves_30 a0 x1 a2 x3 x4 T n r w Q  N ((s0 ||| s1)) ((0 : Int32)) i
def w_X10_weaves  (a0 : Nat) (x1 : Int32) (a2 : Nat) (x3 : Int32) (x4 : Int32) (T : kw_T) (n : Nat) (r : kw_R) (i : kw_I) (w : kw_L) (Q : kw_I → Prop) : Prop :=
  w_X10_factOf a0 x1 (5 : Int32) T n r i w (fun v3 => (¬ x1 = (i a0 28) → w_X10_weaves_24 a0 x1 a2 x3 x4 T n r w Q  v3 ((0 : Int32)) i) ∧ (x1 = (i a0 28) → w_X10_weaves_24 a0 x1 a2 x3 x4 T n r w Q  v3 (((1 : Int32) <<< ((i a0 29) &&& 31))) i))
abbrev rm_X10_weaves : Room := { frames := 126, cells := 0, slots := 0, locals := 6180 }
set_option maxHeartbeats 4000000 in
set_option maxRecDepth 100000 in
theorem q_X10_weaves_300 {a0 : Nat} {x1 : Int32} {a2 : Nat} {x3 : Int32} {x4 : Int32} {T : kw_T} {n : Nat} {r : kw_R} {w : kw_L} {Q : kw_I → Prop} {E : kw_E} {G : kw_G} (hm : kw_m E G cX10_weaves 10 RX10 none rm_X10_weaves "weaves")  (h0 : T a0 = (0, 10))  {k30 : Int32 → Int32 → kw_I → Prop} (hk30 : ∀ (x5 : Int32) (x6 : Int32) (i : kw_I), k30 x5 x6 i → kw_K E G 10 0 0 (kw_Z E G 0 0 (kw_PV (fun T' n' r' i' w' => T = T' ∧ n = n' ∧ r = r' ∧ w = w' ∧ Q i'))) 30 [(0, kw_a a0), (1, kw_i x1), (2, kw_a a2), (3, kw_i x3), (4, kw_i x4), (5, kw_i x5), (6, kw_i x6)] [] T n r i w) (x5 : Int32) (x6 : Int32) (s0 : Nat) (s1 : Int32) (s2 : Int32) (i : kw_I) (h : w_X10_weaves_300 a0 x1 a2 x3 x4 T n r w Q k30 x5 x6 s0 s1 s2 i) : kw_K E G 10 0 0 (kw_Z E G 0 0 (kw_PV (fun T' n' r' i' w' => T = T' ∧ n = n' ∧ r = r' ∧ w = w' ∧ Q i'))) 300 [(0, kw_a a0), (1, kw_i x1), (2, kw_a a2), (3, kw_i x3), (4, kw_i x4), (5, kw_i x5), (6, kw_i x6)] [kw_i s2, kw_i s1, kw_a s0] T n r i w := by
  obtain ⟨o300, h⟩ := h
  refine kn_iastore hm.1 dX10_weaves_300 o300 (fun i300 e300 => ?_)
  have h := h i300 e300
  refine kk_iinc (v := (x6 + (1 : Int32))) (L' := [(6, kw_i (x6 + (1 : Int32))), (0, kw_a a0), (1, kw_i x1), (2, kw_a a2), (3, kw_i x3), (4, kw_i x4), (5, kw_i x5)]) hm.1 6 dX10_weaves_301 rfl rfl (by decide) rfl ?_
  refine kk_goto (tgt := 30) hm.1 dX10_weaves_304 (by decide) ?_
  refine kk_loc (L' := [(0, kw_a a0), (1, kw_i x1), (2, kw_a a2), (3, kw_i x3), (4, kw_i x4), (5, kw_i x5), (6, kw_i (x6 + (1 : Int32)))]) [1, 2, 3, 4, 5, 6, 0] rfl ?_
  exact hk30 x5 ((x6 + (1 : Int32))) i300 h
set_option maxHeartbeats 4000000 in
set_option maxRecDepth 100000 in
theorem q_X10_weaves_266 {a0 : Nat} {x1 : Int32} {a2 : Nat} {x3 : Int32} {x4 : Int32} {T : kw_T} {n : Nat} {r : kw_R} {w : kw_L} {Q : kw_I → Prop} {E : kw_E} {G : kw_G} (hm : kw_m E G cX10_weaves 10 RX10 none rm_X10_weaves "weaves")  (h0 : T a0 = (0, 10))  {k30 : Int32 → Int32 → kw_I → Prop} (hk30 : ∀ (x5 : Int32) (x6 : Int32) (i : kw_I), k30 x5 x6 i → kw_K E G 10 0 0 (kw_Z E G 0 0 (kw_PV (fun T' n' r' i' w' => T = T' ∧ n = n' ∧ r = r' ∧ w = w' ∧ Q i'))) 30 [(0, kw_a a0), (1, kw_i x1), (2, kw_a a2), (3, kw_i x3), (4, kw_i x4), (5, kw_i x5), (6, kw_i x6)] [] T n r i w) (x5 : Int32) (x6 : Int32) (l8 : Int64) (i : kw_I) (h : w_X10_weaves_266 a0 x1 a2 x3 x4 T n r w Q k30 x5 x6 l8 i) : kw_K E G 10 0 0 (kw_Z E G 0 0 (kw_PV (fun T' n' r' i' w' => T = T' ∧ n = n' ∧ r = r' ∧ w = w' ∧ Q i'))) 266 [(0, kw_a a0), (1, kw_i x1), (2, kw_a a2), (3, kw_i x3), (4, kw_i x4), (5, kw_i x5), (6, kw_i x6), (8, kw_l l8)] [] T n r i w := by
  refine kk_aload_n hm.1 2 dX10_weaves_266 rfl rfl ?_
  refine kk_iload hm.1 4 dX10_weaves_267 rfl ?_
  refine kk_iload hm.1 6 dX10_weaves_269 rfl ?_
  refine kk_iadd hm.1 dX10_weaves_271 ?_
  refine kk_aload_n hm.1 0 dX10_weaves_272 rfl rfl ?_
  refine kk_getI hm.1 ff_X10_242 dX10_weaves_273 h0 ?_
  refine kk_bipush (v := (36 : Int32)) hm.1 dX10_weaves_276 (by decide) ?_
  refine kk_iload_n hm.1 1 dX10_weaves_278 rfl rfl ?_
  refine kk_imul hm.1 dX10_weaves_279 ?_
  refine kk_iload hm.1 6 dX10_weaves_280 rfl ?_
  refine kk_iadd hm.1 dX10_weaves_282 ?_
  refine kk_icmp_ne (tgt := 293) hm.1 dX10_weaves_283 (by decide) (fun c283 => ?_) (fun c283 => ?_)
  · have h := h.1 c283
    refine kk_iload hm.1 5 dX10_weaves_293 rfl ?_
    refine kk_lload hm.1 7 dX10_weaves_295 rfl ?_
    refine kk_callSi (cs' := 0) (sl' := 0) (st := [kw_i (x4 + x6), kw_a a2]) hm.1 cs_X10_262 (t_X10_nearest h) dX10_weaves_297 rfl hm.2.2.1 ⟨by decide, by decide⟩ ⟨by decide, by decide⟩ rfl rfl (Nat.le_of_ble_eq_true rfl) rfl ?_
    rintro v297 _ _ _ _ _ ⟨rfl, rfl, rfl, rfl, rfl, h⟩
    refine kk_loc (L' := [(0, kw_a a0), (1, kw_i x1), (2, kw_a a2), (3, kw_i x3), (4, kw_i x4), (5, kw_i x5), (6, kw_i x6)]) [0, 1, 2, 3, 4, 5, 6] rfl ?_
    exact q_X10_weaves_300 hm  h0  hk30 x5 x6 a2 ((x4 + x6)) v297 i h
  · have h := h.2 c283
    refine kk_aload_n hm.1 0 dX10_weaves_286 rfl rfl ?_
    refine kk_getI hm.1 ff_X10_245 dX10_weaves_287 h0 ?_
    refine kk_goto (tgt := 300) hm.1 dX10_weaves_290 (by decide) ?_
    refine kk_loc (L' := [(0, kw_a a0), (1, kw_i x1), (2, kw_a a2), (3, kw_i x3), (4, kw_i x4), (5, kw_i x5), (6, kw_i x6)]) [0, 1, 2, 3, 4, 5, 6] rfl ?_
    exact q_X10_weaves_300 hm  h0  hk30 x5 x6 a2 ((x4 + x6)) ((i a0 31)) i h
set_option maxHeartbeats 4000000 in
set_option maxRecDepth 100000 in
theorem q_X10_weaves_218 {a0 : Nat} {x1 : Int32} {a2 : Nat} {x3 : Int32} {x4 : Int32} {T : kw_T} {n : Nat} {r : kw_R} {w : kw_L} {Q : kw_I → Prop} {E : kw_E} {G : kw_G} (hm : kw_m E G cX10_weaves 10 RX10 none rm_X10_weaves "weaves")  (h0 : T a0 = (0, 10))  {k30 : Int32 → Int32 → kw_I → Prop} (hk30 : ∀ (x5 : Int32) (x6 : Int32) (i : kw_I), k30 x5 x6 i → kw_K E G 10 0 0 (kw_Z E G 0 0 (kw_PV (fun T' n' r' i' w' => T = T' ∧ n = n' ∧ r = r' ∧ w = w' ∧ Q i'))) 30 [(0, kw_a a0), (1, kw_i x1), (2, kw_a a2), (3, kw_i x3), (4, kw_i x4), (5, kw_i x5), (6, kw_i x6)] [] T n r i w) (x5 : Int32) (x6 : Int32) (s0 : Nat) (s1 : Int64) (i : kw_I) (h : w_X10_weaves_218 a0 x1 a2 x3 x4 T n r w Q k30 x5 x6 s0 s1 i) : kw_K E G 10 0 0 (kw_Z E G 0 0 (kw_PV (fun T' n' r' i' w' => T = T' ∧ n = n' ∧ r = r' ∧ w = w' ∧ Q i'))) 218 [(0, kw_a a0), (1, kw_i x1), (2, kw_a a2), (3, kw_i x3), (4, kw_i x4), (5, kw_i x5), (6, kw_i x6)] [kw_l s1, kw_a s0] T n r i w := by
  obtain ⟨o218, h⟩ := h
  refine kk_callVl (cs' := 0) (sl' := 0) (st := []) hm.1 cv_X10_255 (t_X10_wishOf o218 h) dX10_weaves_218 o218 rfl rfl hm.2.2.1 ⟨by decide, by decide⟩ ⟨by decide, by decide⟩ rfl rfl (Nat.le_of_ble_eq_true rfl) rfl ?_
  rintro v218 _ _ _ i218 _ ⟨rfl, rfl, rfl, rfl, h⟩
  refine kk_lstore (L' := [(8, kw_l v218), (0, kw_a a0), (1, kw_i x1), (2, kw_a a2), (3, kw_i x3), (4, kw_i x4), (5, kw_i x5), (6, kw_i x6)]) hm.1 dX10_weaves_221 (by decide) rfl ?_
  refine kk_aload_n hm.1 1 dX10_weaves_223 rfl rfl ?_
  refine kk_getI hm.1 ff_X10_248 dX10_weaves_224 h0 ?_
  refine kk_if_eq (tgt := 266) hm.1 dX10_weaves_227 (by decide) (fun c227 => ?_) (fun c227 => ?_)
  · have h := h.1 c227
    refine kk_loc (L' := [(0, kw_a a0), (1, kw_i x1), (2, kw_a a2), (3, kw_i x3), (4, kw_i x4), (5, kw_i x5), (6, kw_i x6), (8, kw_l v218)]) [1, 2, 3, 4, 5, 6, 7, 0] rfl ?_
    exact q_X10_weaves_266 hm  h0  hk30 x5 x6 v218 i218 h
  · have h := h.2 c227
    refine kk_aload_n hm.1 1 dX10_weaves_230 rfl rfl ?_
    refine kk_bipush (v := (100 : Int32)) hm.1 dX10_weaves_231 (by decide) ?_
    refine kk_callVi (cs' := 0) (sl' := 0) (st := []) hm.1 cv_X10_259 (t_X10_draws h0 h) dX10_weaves_233 h0 rfl rfl hm.2.2.1 ⟨by decide, by decide⟩ ⟨by decide, by decide⟩ rfl rfl (Nat.le_of_ble_eq_true rfl) rfl ?_
    rintro v233 _ _ _ i233 _ ⟨rfl, rfl, rfl, rfl, h⟩
    refine kk_aload_n hm.1 1 dX10_weaves_236 rfl rfl ?_
    refine kk_getR hm.1 ff_X10_17 dX10_weaves_237 h0 ?_
    refine kk_sipush (v := (176 : Int32)) hm.1 dX10_weaves_240 (by decide) ?_
    obtain ⟨o243, h⟩ := h
    refine kk_iaload hm.1 dX10_weaves_243 o243 ?_
    refine kk_icmp_ge (tgt := 266) hm.1 dX10_weaves_244 (by decide) (fun c244 => ?_) (fun c244 => ?_)
    · have h := h.1 c244
      refine kk_loc (L' := [(0, kw_a a0), (1, kw_i x1), (2, kw_a a2), (3, kw_i x3), (4, kw_i x4), (5, kw_i x5), (6, kw_i x6), (8, kw_l v218)]) [1, 2, 3, 4, 5, 6, 7, 0] rfl ?_
      exact q_X10_weaves_266 hm  h0  hk30 x5 x6 v218 i233 h
    · have h := h.2 c244
      refine kk_aload_n hm.1 1 dX10_weaves_247 rfl rfl ?_
      refine kk_bipush (v := (8 : Int32)) hm.1 dX10_weaves_248 (by decide) ?_
      refine kk_callVi (cs' := 0) (sl' := 0) (st := []) hm.1 cv_X10_259 (t_X10_draws h0 h) dX10_weaves_250 h0 rfl rfl hm.2.2.1 ⟨by decide, by decide⟩ ⟨by decide, by decide⟩ rfl rfl (Nat.le_of_ble_eq_true rfl) rfl ?_
      rintro v250 _ _ _ i250 _ ⟨rfl, rfl, rfl, rfl, h⟩
      refine kk_i2l hm.1 dX10_weaves_253 ?_
      refine kk_lstore (L' := [(8, kw_l (v250.toInt64)), (0, kw_a a0), (1, kw_i x1), (2, kw_a a2), (3, kw_i x3), (4, kw_i x4), (5, kw_i x5), (6, kw_i x6)]) hm.1 dX10_weaves_254 (by decide) rfl ?_
      refine kk_aload_n hm.1 1 dX10_weaves_256 rfl rfl ?_
      refine kk_getR hm.1 ff_X10_64 dX10_weaves_257 h0 ?_
      refine kk_iload_n hm.1 2 dX10_weaves_260 rfl rfl ?_
      refine kk_dup2 hm.1 dX10_weaves_261 rfl rfl ?_
      obtain ⟨o262, h⟩ := h
      refine kk_iaload hm.1 dX10_weaves_262 o262 ?_
      refine kk_iconst (v := (1 : Int32)) hm.1 dX10_weaves_263 (by decide) ?_
      refine kk_iadd hm.1 dX10_weaves_264 ?_
      obtain ⟨o265, h⟩ := h
      refine kn_iastore hm.1 dX10_weaves_265 o265 (fun i265 e265 => ?_)
      have h := h i265 e265
      refine kk_loc (L' := [(0, kw_a a0), (1, kw_i x1), (2, kw_a a2), (3, kw_i x3), (4, kw_i x4), (5, kw_i x5), (6, kw_i x6), (8, kw_l (v250.toInt64))]) [1, 2, 3, 4, 5, 6, 7, 0] rfl ?_
      exact q_X10_weaves_266 hm  h0  hk30 x5 x6 (v250.toInt64) i265 h
set_option maxHeartbeats 4000000 in
set_option maxRecDepth 100000 in
theorem q_X10_weaves_166 {a0 : Nat} {x1 : Int32} {a2 : Nat} {x3 : Int32} {x4 : Int32} {T : kw_T} {n : Nat} {r : kw_R} {w : kw_L} {Q : kw_I → Prop} {E : kw_E} {G : kw_G} (hm : kw_m E G cX10_weaves 10 RX10 none rm_X10_weaves "weaves")  (h0 : T a0 = (0, 10))  {k30 : Int32 → Int32 → kw_I → Prop} (hk30 : ∀ (x5 : Int32) (x6 : Int32) (i : kw_I), k30 x5 x6 i → kw_K E G 10 0 0 (kw_Z E G 0 0 (kw_PV (fun T' n' r' i' w' => T = T' ∧ n = n' ∧ r = r' ∧ w = w' ∧ Q i'))) 30 [(0, kw_a a0), (1, kw_i x1), (2, kw_a a2), (3, kw_i x3), (4, kw_i x4), (5, kw_i x5), (6, kw_i x6)] [] T n r i w) (x5 : Int32) (x6 : Int32) (x7 : Int32) (s0 : Nat) (s1 : Int32) (s2 : Int32) (i : kw_I) (h : w_X10_weaves_166 a0 x1 a2 x3 x4 T n r w Q k30 x5 x6 x7 s0 s1 s2 i) : kw_K E G 10 0 0 (kw_Z E G 0 0 (kw_PV (fun T' n' r' i' w' => T = T' ∧ n = n' ∧ r = r' ∧ w = w' ∧ Q i'))) 166 [(0, kw_a a0), (1, kw_i x1), (2, kw_a a2), (3, kw_i x3), (4, kw_i x4), (5, kw_i x5), (6, kw_i x6), (7, kw_i x7)] [kw_i s2, kw_i s1, kw_a s0] T n r i w := by
  obtain ⟨o166, h⟩ := h
  refine kn_iastore hm.1 dX10_weaves_166 o166 (fun i166 e166 => ?_)
  have h := h i166 e166
  refine kk_aload_n hm.1 0 dX10_weaves_167 rfl rfl ?_
  refine kk_getR hm.1 ff_X10_49 dX10_weaves_168 h0 ?_
  refine kk_bipush (v := (7 : Int32)) hm.1 dX10_weaves_171 (by decide) ?_
  refine kk_aload_n hm.1 0 dX10_weaves_173 rfl rfl ?_
  refine kk_iload_n hm.1 1 dX10_weaves_174 rfl rfl ?_
  refine kk_iconst (v := (4 : Int32)) hm.1 dX10_weaves_175 (by decide) ?_
  refine kk_callVi (cs' := 0) (sl' := 0) (st := [kw_i (7 : Int32), kw_a (r a0 21)]) hm.1 cv_X10_100 (t_X10_factOf h0 h) dX10_weaves_176 h0 rfl rfl hm.2.2.1 ⟨by decide, by decide⟩ ⟨by decide, by decide⟩ rfl rfl (Nat.le_of_ble_eq_true rfl) rfl ?_
  rintro v176 _ _ _ _ _ ⟨rfl, rfl, rfl, rfl, rfl, h⟩
  obtain ⟨o179, h⟩ := h
  refine kn_iastore hm.1 dX10_weaves_179 o179 (fun i179 e179 => ?_)
  have h := h i179 e179
  refine kk_aload_n hm.1 0 dX10_weaves_180 rfl rfl ?_
  refine kk_getR hm.1 ff_X10_49 dX10_weaves_181 h0 ?_
  refine kk_bipush (v := (8 : Int32)) hm.1 dX10_weaves_184 (by decide) ?_
  refine kk_aload_n hm.1 0 dX10_weaves_186 rfl rfl ?_
  refine kk_getR hm.1 ff_X10_17 dX10_weaves_187 h0 ?_
  refine kk_sipush (v := (177 : Int32)) hm.1 dX10_weaves_190 (by decide) ?_
  obtain ⟨o193, h⟩ := h
  refine kk_iaload hm.1 dX10_weaves_193 o193 ?_
  obtain ⟨o194, h⟩ := h
  refine kn_iastore hm.1 dX10_weaves_194 o194 (fun i194 e194 => ?_)
  have h := h i194 e194
  refine kk_aload_n hm.1 0 dX10_weaves_195 rfl rfl ?_
  refine kk_iload hm.1 7 dX10_weaves_196 rfl ?_
  refine kk_if_eq (tgt := 211) hm.1 dX10_weaves_198 (by decide) (fun c198 => ?_) (fun c198 => ?_)
  · have h := h.1 c198
    refine kk_aload_n hm.1 0 dX10_weaves_211 rfl rfl ?_
    refine kk_iload_n hm.1 1 dX10_weaves_212 rfl rfl ?_
    refine kk_iconst (v := (4 : Int32)) hm.1 dX10_weaves_213 (by decide) ?_
    refine kk_callVi (cs' := 0) (sl' := 0) (st := [kw_a a0]) hm.1 cv_X10_100 (t_X10_factOf h0 h) dX10_weaves_214 h0 rfl rfl hm.2.2.1 ⟨by decide, by decide⟩ ⟨by decide, by decide⟩ rfl rfl (Nat.le_of_ble_eq_true rfl) rfl ?_
    rintro v214 _ _ _ _ _ ⟨rfl, rfl, rfl, rfl, rfl, h⟩
    refine kk_i2l hm.1 dX10_weaves_217 ?_
    refine kk_loc (L' := [(0, kw_a a0), (1, kw_i x1), (2, kw_a a2), (3, kw_i x3), (4, kw_i x4), (5, kw_i x5), (6, kw_i x6)]) [0, 1, 2, 3, 4, 5, 6] rfl ?_
    exact q_X10_weaves_218 hm  h0  hk30 x5 x6 a0 (v214.toInt64) i194 h
  · have h := h.2 c198
    refine kk_aload_n hm.1 2 dX10_weaves_201 rfl rfl ?_
    refine kk_iload_n hm.1 3 dX10_weaves_202 rfl rfl ?_
    refine kk_iload hm.1 6 dX10_weaves_203 rfl ?_
    refine kk_iadd hm.1 dX10_weaves_205 ?_
    obtain ⟨o206, h⟩ := h
    refine kk_iaload hm.1 dX10_weaves_206 o206 ?_
    refine kk_i2l hm.1 dX10_weaves_207 ?_
    refine kk_goto (tgt := 218) hm.1 dX10_weaves_208 (by decide) ?_
    refine kk_loc (L' := [(0, kw_a a0), (1, kw_i x1), (2, kw_a a2), (3, kw_i x3), (4, kw_i x4), (5, kw_i x5), (6, kw_i x6)]) [0, 1, 2, 3, 4, 5, 6] rfl ?_
    exact q_X10_weaves_218 hm  h0  hk30 x5 x6 a0 (((i194 a2 ((x3 + x6)).toNatClampNeg).toInt64)) i194 h
set_option maxHeartbeats 4000000 in
set_option maxRecDepth 100000 in
theorem q_X10_weaves_138 {a0 : Nat} {x1 : Int32} {a2 : Nat} {x3 : Int32} {x4 : Int32} {T : kw_T} {n : Nat} {r : kw_R} {w : kw_L} {Q : kw_I → Prop} {E : kw_E} {G : kw_G} (hm : kw_m E G cX10_weaves 10 RX10 none rm_X10_weaves "weaves")  (h0 : T a0 = (0, 10))  {k30 : Int32 → Int32 → kw_I → Prop} (hk30 : ∀ (x5 : Int32) (x6 : Int32) (i : kw_I), k30 x5 x6 i → kw_K E G 10 0 0 (kw_Z E G 0 0 (kw_PV (fun T' n' r' i' w' => T = T' ∧ n = n' ∧ r = r' ∧ w = w' ∧ Q i'))) 30 [(0, kw_a a0), (1, kw_i x1), (2, kw_a a2), (3, kw_i x3), (4, kw_i x4), (5, kw_i x5), (6, kw_i x6)] [] T n r i w) (x5 : Int32) (x6 : Int32) (x7 : Int32) (s0 : Nat) (s1 : Int32) (s2 : Int32) (i : kw_I) (h : w_X10_weaves_138 a0 x1 a2 x3 x4 T n r w Q k30 x5 x6 x7 s0 s1 s2 i) : kw_K E G 10 0 0 (kw_Z E G 0 0 (kw_PV (fun T' n' r' i' w' => T = T' ∧ n = n' ∧ r = r' ∧ w = w' ∧ Q i'))) 138 [(0, kw_a a0), (1, kw_i x1), (2, kw_a a2), (3, kw_i x3), (4, kw_i x4), (5, kw_i x5), (6, kw_i x6), (7, kw_i x7)] [kw_i s2, kw_i s1, kw_a s0] T n r i w := by
  obtain ⟨o138, h⟩ := h
  refine kn_iastore hm.1 dX10_weaves_138 o138 (fun i138 e138 => ?_)
  have h := h i138 e138
  refine kk_aload_n hm.1 0 dX10_weaves_139 rfl rfl ?_
  refine kk_getR hm.1 ff_X10_49 dX10_weaves_140 h0 ?_
  refine kk_bipush (v := (6 : Int32)) hm.1 dX10_weaves_143 (by decide) ?_
  refine kk_iload hm.1 6 dX10_weaves_145 rfl ?_
  refine kk_bipush (v := (6 : Int32)) hm.1 dX10_weaves_147 (by decide) ?_
  refine kk_icmp_ge (tgt := 156) hm.1 dX10_weaves_149 (by decide) (fun c149 => ?_) (fun c149 => ?_)
  · have h := h.1 c149
    refine kk_aload_n hm.1 2 dX10_weaves_156 rfl rfl ?_
    refine kk_iload hm.1 4 dX10_weaves_157 rfl ?_
    refine kk_iload hm.1 6 dX10_weaves_159 rfl ?_
    refine kk_iadd hm.1 dX10_weaves_161 ?_
    refine kk_bipush (v := (6 : Int32)) hm.1 dX10_weaves_162 (by decide) ?_
    refine kk_isub hm.1 dX10_weaves_164 ?_
    obtain ⟨o165, h⟩ := h
    refine kk_iaload hm.1 dX10_weaves_165 o165 ?_
    exact q_X10_weaves_166 hm  h0  hk30 x5 x6 x7 ((r a0 21)) ((6 : Int32)) ((i138 a2 (((x4 + x6) - (6 : Int32))).toNatClampNeg)) i138 h
  · have h := h.2 c149
    refine kk_iconst (v := (-1 : Int32)) hm.1 dX10_weaves_152 (by decide) ?_
    refine kk_goto (tgt := 166) hm.1 dX10_weaves_153 (by decide) ?_
    exact q_X10_weaves_166 hm  h0  hk30 x5 x6 x7 ((r a0 21)) ((6 : Int32)) ((-1 : Int32)) i138 h
set_option maxHeartbeats 4000000 in
set_option maxRecDepth 100000 in
theorem q_X10_weaves_111 {a0 : Nat} {x1 : Int32} {a2 : Nat} {x3 : Int32} {x4 : Int32} {T : kw_T} {n : Nat} {r : kw_R} {w : kw_L} {Q : kw_I → Prop} {E : kw_E} {G : kw_G} (hm : kw_m E G cX10_weaves 10 RX10 none rm_X10_weaves "weaves")  (h0 : T a0 = (0, 10))  {k30 : Int32 → Int32 → kw_I → Prop} (hk30 : ∀ (x5 : Int32) (x6 : Int32) (i : kw_I), k30 x5 x6 i → kw_K E G 10 0 0 (kw_Z E G 0 0 (kw_PV (fun T' n' r' i' w' => T = T' ∧ n = n' ∧ r = r' ∧ w = w' ∧ Q i'))) 30 [(0, kw_a a0), (1, kw_i x1), (2, kw_a a2), (3, kw_i x3), (4, kw_i x4), (5, kw_i x5), (6, kw_i x6)] [] T n r i w) (x5 : Int32) (x6 : Int32) (x7 : Int32) (s0 : Nat) (s1 : Int32) (s2 : Int32) (i : kw_I) (h : w_X10_weaves_111 a0 x1 a2 x3 x4 T n r w Q k30 x5 x6 x7 s0 s1 s2 i) : kw_K E G 10 0 0 (kw_Z E G 0 0 (kw_PV (fun T' n' r' i' w' => T = T' ∧ n = n' ∧ r = r' ∧ w = w' ∧ Q i'))) 111 [(0, kw_a a0), (1, kw_i x1), (2, kw_a a2), (3, kw_i x3), (4, kw_i x4), (5, kw_i x5), (6, kw_i x6), (7, kw_i x7)] [kw_i s2, kw_i s1, kw_a s0] T n r i w := by
  obtain ⟨o111, h⟩ := h
  refine kn_iastore hm.1 dX10_weaves_111 o111 (fun i111 e111 => ?_)
  have h := h i111 e111
  refine kk_aload_n hm.1 0 dX10_weaves_112 rfl rfl ?_
  refine kk_getR hm.1 ff_X10_49 dX10_weaves_113 h0 ?_
  refine kk_iconst (v := (5 : Int32)) hm.1 dX10_weaves_116 (by decide) ?_
  refine kk_iload hm.1 6 dX10_weaves_117 rfl ?_
  refine kk_bipush (v := (6 : Int32)) hm.1 dX10_weaves_119 (by decide) ?_
  refine kk_irem hm.1 dX10_weaves_121 (by decide) ?_
  refine kk_if_ne (tgt := 129) hm.1 dX10_weaves_122 (by decide) (fun c122 => ?_) (fun c122 => ?_)
  · have h := h.1 c122
    refine kk_aload_n hm.1 2 dX10_weaves_129 rfl rfl ?_
    refine kk_iload hm.1 4 dX10_weaves_130 rfl ?_
    refine kk_iload hm.1 6 dX10_weaves_132 rfl ?_
    refine kk_iadd hm.1 dX10_weaves_134 ?_
    refine kk_iconst (v := (1 : Int32)) hm.1 dX10_weaves_135 (by decide) ?_
    refine kk_isub hm.1 dX10_weaves_136 ?_
    obtain ⟨o137, h⟩ := h
    refine kk_iaload hm.1 dX10_weaves_137 o137 ?_
    exact q_X10_weaves_138 hm  h0  hk30 x5 x6 x7 ((r a0 21)) ((5 : Int32)) ((i111 a2 (((x4 + x6) - (1 : Int32))).toNatClampNeg)) i111 h
  · have h := h.2 c122
    refine kk_iconst (v := (-1 : Int32)) hm.1 dX10_weaves_125 (by decide) ?_
    refine kk_goto (tgt := 138) hm.1 dX10_weaves_126 (by decide) ?_
    exact q_X10_weaves_138 hm  h0  hk30 x5 x6 x7 ((r a0 21)) ((5 : Int32)) ((-1 : Int32)) i111 h
set_option maxHeartbeats 4000000 in
set_option maxRecDepth 100000 in
theorem q_X10_weaves_90 {a0 : Nat} {x1 : Int32} {a2 : Nat} {x3 : Int32} {x4 : Int32} {T : kw_T} {n : Nat} {r : kw_R} {w : kw_L} {Q : kw_I → Prop} {E : kw_E} {G : kw_G} (hm : kw_m E G cX10_weaves 10 RX10 none rm_X10_weaves "weaves")  (h0 : T a0 = (0, 10))  {k30 : Int32 → Int32 → kw_I → Prop} (hk30 : ∀ (x5 : Int32) (x6 : Int32) (i : kw_I), k30 x5 x6 i → kw_K E G 10 0 0 (kw_Z E G 0 0 (kw_PV (fun T' n' r' i' w' => T = T' ∧ n = n' ∧ r = r' ∧ w = w' ∧ Q i'))) 30 [(0, kw_a a0), (1, kw_i x1), (2, kw_a a2), (3, kw_i x3), (4, kw_i x4), (5, kw_i x5), (6, kw_i x6)] [] T n r i w) (x5 : Int32) (x6 : Int32) (x7 : Int32) (s0 : Nat) (s1 : Int32) (s2 : Int32) (i : kw_I) (h : w_X10_weaves_90 a0 x1 a2 x3 x4 T n r w Q k30 x5 x6 x7 s0 s1 s2 i) : kw_K E G 10 0 0 (kw_Z E G 0 0 (kw_PV (fun T' n' r' i' w' => T = T' ∧ n = n' ∧ r = r' ∧ w = w' ∧ Q i'))) 90 [(0, kw_a a0), (1, kw_i x1), (2, kw_a a2), (3, kw_i x3), (4, kw_i x4), (5, kw_i x5), (6, kw_i x6), (7, kw_i x7)] [kw_i s2, kw_i s1, kw_a s0] T n r i w := by
  obtain ⟨o90, h⟩ := h
  refine kn_iastore hm.1 dX10_weaves_90 o90 (fun i90 e90 => ?_)
  have h := h i90 e90
  refine kk_aload_n hm.1 0 dX10_weaves_91 rfl rfl ?_
  refine kk_getR hm.1 ff_X10_49 dX10_weaves_92 h0 ?_
  refine kk_iconst (v := (4 : Int32)) hm.1 dX10_weaves_95 (by decide) ?_
  refine kk_iload hm.1 7 dX10_weaves_96 rfl ?_
  refine kk_if_eq (tgt := 110) hm.1 dX10_weaves_98 (by decide) (fun c98 => ?_) (fun c98 => ?_)
  · have h := h.1 c98
    refine kk_iconst (v := (-1 : Int32)) hm.1 dX10_weaves_110 (by decide) ?_
    exact q_X10_weaves_111 hm  h0  hk30 x5 x6 x7 ((r a0 21)) ((4 : Int32)) ((-1 : Int32)) i90 h
  · have h := h.2 c98
    refine kk_aload_n hm.1 2 dX10_weaves_101 rfl rfl ?_
    refine kk_iload_n hm.1 3 dX10_weaves_102 rfl rfl ?_
    refine kk_iload hm.1 6 dX10_weaves_103 rfl ?_
    refine kk_iadd hm.1 dX10_weaves_105 ?_
    obtain ⟨o106, h⟩ := h
    refine kk_iaload hm.1 dX10_weaves_106 o106 ?_
    refine kk_goto (tgt := 111) hm.1 dX10_weaves_107 (by decide) ?_
    exact q_X10_weaves_111 hm  h0  hk30 x5 x6 x7 ((r a0 21)) ((4 : Int32)) ((i90 a2 ((x3 + x6)).toNatClampNeg)) i90 h
set_option maxHeartbeats 4000000 in
set_option maxRecDepth 100000 in
theorem qs_X10_weaves_30 {a0 : Nat} {x1 : Int32} {a2 : Nat} {x3 : Int32} {x4 : Int32} {T : kw_T} {n : Nat} {r : kw_R} {w : kw_L} {Q : kw_I → Prop} {E : kw_E} {G : kw_G} (hm : kw_m E G cX10_weaves 10 RX10 none rm_X10_weaves "weaves")  (h0 : T a0 = (0, 10))    {k30 : Int32 → Int32 → kw_I → Prop} (hk30 : ∀ (x5 : Int32) (x6 : Int32) (i : kw_I), k30 x5 x6 i → kw_K E G 10 0 0 (kw_Z E G 0 0 (kw_PV (fun T' n' r' i' w' => T = T' ∧ n = n' ∧ r = r' ∧ w = w' ∧ Q i'))) 30 [(0, kw_a a0), (1, kw_i x1), (2, kw_a a2), (3, kw_i x3), (4, kw_i x4), (5, kw_i x5), (6, kw_i x6)] [] T n r i w) (x5 : Int32) (x6 : Int32) (i : kw_I) (h : s_X10_weaves_30 a0 x1 a2 x3 x4 T n r w Q  k30 x5 x6 i) : kw_K E G 10 0 0 (kw_Z E G 0 0 (kw_PV (fun T' n' r' i' w' => T = T' ∧ n = n' ∧ r = r' ∧ w = w' ∧ Q i'))) 30 [(0, kw_a a0), (1, kw_i x1), (2, kw_a a2), (3, kw_i x3), (4, kw_i x4), (5, kw_i x5), (6, kw_i x6)] [] T n r i w := by
  refine kk_iload hm.1 6 dX10_weaves_30 rfl ?_
  refine kk_bipush (v := (36 : Int32)) hm.1 dX10_weaves_32 (by decide) ?_
  refine kk_icmp_ge (tgt := 307) hm.1 dX10_weaves_34 (by decide) (fun c34 => ?_) (fun c34 => ?_)
  · have h := h.1 c34
    exact kk_vret hm.1 hm.2.1 dX10_weaves_307 ⟨rfl, rfl, rfl, rfl, rfl, h⟩
  · have h := h.2 c34
    refine kk_aload_n hm.1 0 dX10_weaves_37 rfl rfl ?_
    refine kk_iload_n hm.1 1 dX10_weaves_38 rfl rfl ?_
    refine kk_iload hm.1 6 dX10_weaves_39 rfl ?_
    refine kk_callVi (cs' := 0) (sl' := 0) (st := []) hm.1 cv_X10_251 (t_X10_isSeen h0 h) dX10_weaves_41 h0 rfl rfl hm.2.2.1 ⟨by decide, by decide⟩ ⟨by decide, by decide⟩ rfl rfl (Nat.le_of_ble_eq_true rfl) rfl ?_
    rintro v41 _ _ _ _ _ ⟨rfl, rfl, rfl, rfl, rfl, h⟩
    refine kk_istore (L' := [(7, kw_i v41), (0, kw_a a0), (1, kw_i x1), (2, kw_a a2), (3, kw_i x3), (4, kw_i x4), (5, kw_i x5), (6, kw_i x6)]) hm.1 dX10_weaves_44 (by decide) rfl ?_
    refine kk_aload_n hm.1 1 dX10_weaves_46 rfl rfl ?_
    refine kk_getR hm.1 ff_X10_49 dX10_weaves_47 h0 ?_
    refine kk_iconst (v := (0 : Int32)) hm.1 dX10_weaves_50 (by decide) ?_
    refine kk_iload hm.1 7 dX10_weaves_51 rfl ?_
    refine kk_bipush (v := (6 : Int32)) hm.1 dX10_weaves_53 (by decide) ?_
    refine kk_irem hm.1 dX10_weaves_55 (by decide) ?_
    obtain ⟨o56, h⟩ := h
    refine kn_iastore hm.1 dX10_weaves_56 o56 (fun i56 e56 => ?_)
    have h := h i56 e56
    refine kk_aload_n hm.1 1 dX10_weaves_57 rfl rfl ?_
    refine kk_getR hm.1 ff_X10_49 dX10_weaves_58 h0 ?_
    refine kk_iconst (v := (1 : Int32)) hm.1 dX10_weaves_61 (by decide) ?_
    refine kk_iload hm.1 7 dX10_weaves_62 rfl ?_
    refine kk_bipush (v := (6 : Int32)) hm.1 dX10_weaves_64 (by decide) ?_
    refine kk_idiv hm.1 dX10_weaves_66 (by decide) ?_
    obtain ⟨o67, h⟩ := h
    refine kn_iastore hm.1 dX10_weaves_67 o67 (fun i67 e67 => ?_)
    have h := h i67 e67
    refine kk_aload_n hm.1 1 dX10_weaves_68 rfl rfl ?_
    refine kk_getR hm.1 ff_X10_49 dX10_weaves_69 h0 ?_
    refine kk_iconst (v := (2 : Int32)) hm.1 dX10_weaves_72 (by decide) ?_
    refine kk_iload_n hm.1 2 dX10_weaves_73 rfl rfl ?_
    obtain ⟨o74, h⟩ := h
    refine kn_iastore hm.1 dX10_weaves_74 o74 (fun i74 e74 => ?_)
    have h := h i74 e74
    refine kk_aload_n hm.1 1 dX10_weaves_75 rfl rfl ?_
    refine kk_getR hm.1 ff_X10_49 dX10_weaves_76 h0 ?_
    refine kk_iconst (v := (3 : Int32)) hm.1 dX10_weaves_79 (by decide) ?_
    refine kk_iload hm.1 0 dX10_weaves_80 rfl ?_
    refine kk_if_eq (tgt := 89) hm.1 dX10_weaves_82 (by decide) (fun c82 => ?_) (fun c82 => ?_)
    · have h := h.1 c82
      refine kk_iconst (v := (0 : Int32)) hm.1 dX10_weaves_89 (by decide) ?_
      refine kk_loc (L' := [(0, kw_a a0), (1, kw_i x1), (2, kw_a a2), (3, kw_i x3), (4, kw_i x4), (5, kw_i x5), (6, kw_i x6), (7, kw_i v41)]) [1, 2, 3, 4, 5, 6, 7, 0] rfl ?_
      exact q_X10_weaves_90 hm  h0  hk30 x5 x6 v41 ((r a0 21)) ((3 : Int32)) ((0 : Int32)) i74 h
    · have h := h.2 c82
      refine kk_iconst (v := (1 : Int32)) hm.1 dX10_weaves_85 (by decide) ?_
      refine kk_goto (tgt := 90) hm.1 dX10_weaves_86 (by decide) ?_
      refine kk_loc (L' := [(0, kw_a a0), (1, kw_i x1), (2, kw_a a2), (3, kw_i x3), (4, kw_i x4), (5, kw_i x5), (6, kw_i x6), (7, kw_i v41)]) [1, 2, 3, 4, 5, 6, 7, 0] rfl ?_
      exact q_X10_weaves_90 hm  h0  hk30 x5 x6 v41 ((r a0 21)) ((3 : Int32)) ((1 : Int32)) i74 h
set_option maxHeartbeats 4000000 in
set_option maxRecDepth 100000 in
theorem q_X10_weaves_30 {a0 : Nat} {x1 : Int32} {a2 : Nat} {x3 : Int32} {x4 : Int32} {T : kw_T} {n : Nat} {r : kw_R} {w : kw_L} {Q : kw_I → Prop} {E : kw_E} {G : kw_G} (hm : kw_m E G cX10_weaves 10 RX10 none rm_X10_weaves "weaves")  (h0 : T a0 = (0, 10))    : ∀ (N : Nat) (x5 : Int32) (x6 : Int32) (i : kw_I), w_X10_weaves_30 a0 x1 a2 x3 x4 T n r w Q  N x5 x6 i → kw_K E G 10 0 0 (kw_Z E G 0 0 (kw_PV (fun T' n' r' i' w' => T = T' ∧ n = n' ∧ r = r' ∧ w = w' ∧ Q i'))) 30 [(0, kw_a a0), (1, kw_i x1), (2, kw_a a2), (3, kw_i x3), (4, kw_i x4), (5, kw_i x5), (6, kw_i x6)] [] T n r i w := by
  intro N
  induction N with
  | zero => intro x5 x6 i h; exact h.elim
  | succ N ih => intro x5 x6 i h; exact qs_X10_weaves_30 hm  h0  ih x5 x6 i h
set_option maxHeartbeats 4000000 in
set_option maxRecDepth 100000 in
theorem q_X10_weaves_24 {a0 : Nat} {x1 : Int32} {a2 : Nat} {x3 : Int32} {x4 : Int32} {T : kw_T} {n : Nat} {r : kw_R} {w : kw_L} {Q : kw_I → Prop} {E : kw_E} {G : kw_G} (hm : kw_m E G cX10_weaves 10 RX10 none rm_X10_weaves "weaves")  (h0 : T a0 = (0, 10))    (s0 : Int32) (s1 : Int32) (i : kw_I) (h : w_X10_weaves_24 a0 x1 a2 x3 x4 T n r w Q  s0 s1 i) : kw_K E G 10 0 0 (kw_Z E G 0 0 (kw_PV (fun T' n' r' i' w' => T = T' ∧ n = n' ∧ r = r' ∧ w = w' ∧ Q i'))) 24 [(0, kw_a a0), (1, kw_i x1), (2, kw_a a2), (3, kw_i x3), (4, kw_i x4)] [kw_i s1, kw_i s0] T n r i w := by
  refine kk_ior hm.1 dX10_weaves_24 ?_
  refine kk_istore (L' := [(5, kw_i (s0 ||| s1)), (0, kw_a a0), (1, kw_i x1), (2, kw_a a2), (3, kw_i x3), (4, kw_i x4)]) hm.1 dX10_weaves_25 (by decide) rfl ?_
  refine kk_iconst (v := (0 : Int32)) hm.1 dX10_weaves_27 (by decide) ?_
  refine kk_istore (L' := [(6, kw_i (0 : Int32)), (5, kw_i (s0 ||| s1)), (0, kw_a a0), (1, kw_i x1), (2, kw_a a2), (3, kw_i x3), (4, kw_i x4)]) hm.1 dX10_weaves_28 (by decide) rfl ?_
  refine kk_loc (L' := [(0, kw_a a0), (1, kw_i x1), (2, kw_a a2), (3, kw_i x3), (4, kw_i x4), (5, kw_i (s0 ||| s1)), (6, kw_i (0 : Int32))]) [2, 3, 4, 5, 6, 1, 0] rfl ?_
  obtain ⟨N, h⟩ := h
  exact q_X10_weaves_30 hm  h0   N ((s0 ||| s1)) ((0 : Int32)) i h
set_option maxHeartbeats 4000000 in
set_option maxRecDepth 100000 in
theorem t_X10_weaves {l : Launch} {G : kw_G} {a0 : Nat} {x1 : Int32} {a2 : Nat} {x3 : Int32} {x4 : Int32} {T : kw_T} {n : Nat} {r : kw_R} {i : kw_I} {w : kw_L} {Q : kw_I → Prop} (h0 : T a0 = (0, 10)) (h : w_X10_weaves a0 x1 a2 x3 x4 T n r i w Q) : kw_Met l G yX10_weaves cX10_weaves 10 none rm_X10_weaves [kw_a a0, kw_i x1, kw_a a2, kw_i x3, kw_i x4] (T, n, r, i, w) (kw_PV (fun T' n' r' i' w' => T = T' ∧ n = n' ∧ r = r' ∧ w = w' ∧ Q i')) := by
  refine kw_Met.of (by decide) (Nat.le_of_ble_eq_true rfl) fun E hl hRm hE hT hnm => ?_
  have hm : kw_m E G cX10_weaves 10 RX10 none rm_X10_weaves "weaves" := ⟨hE, hT, hRm, hnm⟩
  subst hl
  show kw_K E G 10 0 0 (kw_Z E G 0 0 (kw_PV (fun T' n' r' i' w' => T = T' ∧ n = n' ∧ r = r' ∧ w = w' ∧ Q i'))) 0 [(0, kw_a a0), (1, kw_i x1), (2, kw_a a2), (3, kw_i x3), (4, kw_i x4)] [] T n r i w
  refine kk_aload_n hm.1 0 dX10_weaves_0 rfl rfl ?_
  refine kk_iload_n hm.1 1 dX10_weaves_1 rfl rfl ?_
  refine kk_iconst (v := (5 : Int32)) hm.1 dX10_weaves_2 (by decide) ?_
  refine kk_callVi (cs' := 0) (sl' := 0) (st := []) hm.1 cv_X10_100 (t_X10_factOf h0 h) dX10_weaves_3 h0 rfl rfl hm.2.2.1 ⟨by decide, by decide⟩ ⟨by decide, by decide⟩ rfl rfl (Nat.le_of_ble_eq_true rfl) rfl ?_
  rintro v3 _ _ _ _ _ ⟨rfl, rfl, rfl, rfl, rfl, h⟩
  refine kk_iload_n hm.1 1 dX10_weaves_6 rfl rfl ?_
  refine kk_aload_n hm.1 0 dX10_weaves_7 rfl rfl ?_
  refine kk_getI hm.1 ff_X10_236 dX10_weaves_8 h0 ?_
  refine kk_icmp_ne (tgt := 23) hm.1 dX10_weaves_11 (by decide) (fun c11 => ?_) (fun c11 => ?_)
  · have h := h.1 c11
    refine kk_iconst (v := (0 : Int32)) hm.1 dX10_weaves_23 (by decide) ?_
    exact q_X10_weaves_24 hm  h0   v3 ((0 : Int32)) i h
  · have h := h.2 c11
    refine kk_iconst (v := (1 : Int32)) hm.1 dX10_weaves_14 (by decide) ?_
    refine kk_aload_n hm.1 0 dX10_weaves_15 rfl rfl ?_
    refine kk_getI hm.1 ff_X10_239 dX10_weaves_16 h0 ?_
    refine kk_ishl hm.1 dX10_weaves_19 ?_
    refine kk_goto (tgt := 24) hm.1 dX10_weaves_20 (by decide) ?_
    exact q_X10_weaves_24 hm  h0   v3 (((1 : Int32) <<< ((i a0 29) &&& 31))) i h
def s_X10_goes_2 (a0 : Nat) (a1 : Nat) (x2 : Int32) (T : kw_T) (n : Nat) (r : kw_R) (w : kw_L) (Q : kw_I → Prop)  (k2 : Int32 → kw_I → Prop) (x3 : Int32) (i : kw_I) : Prop :=
  w_X10_villages a0 T n r i w (fun v4 => (v4 ≤ x3 → Q i) ∧ (¬ v4 ≤ x3 → w_X10_weaves a0 x3 a1 ((36 : Int32) * x3) ((36 : Int32) * (x3 + (1 : Int32))) T n r i w (fun i23 => k2 ((x3 + (1 : Int32))) i23)))
def w_X10_goes_2 (a0 : Nat) (a1 : Nat) (x2 : Int32) (T : kw_T) (n : Nat) (r : kw_R) (w : kw_L) (Q : kw_I → Prop)  : Nat → Int32 → kw_I → Prop
  | 0 => fun _ _ => False
  | N + 1 => s_X10_goes_2 a0 a1 x2 T n r w Q  (w_X10_goes_2 a0 a1 x2 T n r w Q  N)
def w_X10_goes  (a0 : Nat) (a1 : Nat) (x2 : Int32) (T : kw_T) (n : Nat) (r : kw_R) (i : kw_I) (w : kw_L) (Q : kw_I → Prop) : Prop :=
  ∃ N, w_X10_goes_2 a0 a1 x2 T n r w Q  N x2 i
abbrev rm_X10_goes : Room := { frames := 127, cells := 0, slots := 0, locals := 6209 }
set_option maxHeartbeats 4000000 in
set_option maxRecDepth 100000 in
theorem qs_X10_goes_2 {a0 : Nat} {a1 : Nat} {x2 : Int32} {T : kw_T} {n : Nat} {r : kw_R} {w : kw_L} {Q : kw_I → Prop} {E : kw_E} {G : kw_G} (hm : kw_m E G cX10_goes 4 RX10 none rm_X10_goes "goes")  (h0 : T a0 = (0, 10))    {k2 : Int32 → kw_I → Prop} (hk2 : ∀ (x3 : Int32) (i : kw_I), k2 x3 i → kw_K E G 4 0 0 (kw_Z E G 0 0 (kw_PV (fun T' n' r' i' w' => T = T' ∧ n = n' ∧ r = r' ∧ w = w' ∧ Q i'))) 2 [(0, kw_a a0), (1, kw_a a1), (2, kw_i x2), (3, kw_i x3)] [] T n r i w) (x3 : Int32) (i : kw_I) (h : s_X10_goes_2 a0 a1 x2 T n r w Q  k2 x3 i) : kw_K E G 4 0 0 (kw_Z E G 0 0 (kw_PV (fun T' n' r' i' w' => T = T' ∧ n = n' ∧ r = r' ∧ w = w' ∧ Q i'))) 2 [(0, kw_a a0), (1, kw_a a1), (2, kw_i x2), (3, kw_i x3)] [] T n r i w := by
  refine kk_iload_n hm.1 3 dX10_goes_2 rfl rfl ?_
  refine kk_aload_n hm.1 0 dX10_goes_3 rfl rfl ?_
  refine kk_callVi (cs' := 0) (sl' := 0) (st := [kw_i x3]) hm.1 cv_X10_84 (t_X10_villages h0 h) dX10_goes_4 h0 rfl rfl hm.2.2.1 ⟨by decide, by decide⟩ ⟨by decide, by decide⟩ rfl rfl (Nat.le_of_ble_eq_true rfl) rfl ?_
  rintro v4 _ _ _ _ _ ⟨rfl, rfl, rfl, rfl, rfl, h⟩
  refine kk_icmp_ge (tgt := 32) hm.1 dX10_goes_7 (by decide) (fun c7 => ?_) (fun c7 => ?_)
  · have h := h.1 c7
    exact kk_vret hm.1 hm.2.1 dX10_goes_32 ⟨rfl, rfl, rfl, rfl, rfl, h⟩
  · have h := h.2 c7
    refine kk_aload_n hm.1 0 dX10_goes_10 rfl rfl ?_
    refine kk_iload_n hm.1 3 dX10_goes_11 rfl rfl ?_
    refine kk_aload_n hm.1 1 dX10_goes_12 rfl rfl ?_
    refine kk_bipush (v := (36 : Int32)) hm.1 dX10_goes_13 (by decide) ?_
    refine kk_iload_n hm.1 3 dX10_goes_15 rfl rfl ?_
    refine kk_imul hm.1 dX10_goes_16 ?_
    refine kk_bipush (v := (36 : Int32)) hm.1 dX10_goes_17 (by decide) ?_
    refine kk_iload_n hm.1 3 dX10_goes_19 rfl rfl ?_
    refine kk_iconst (v := (1 : Int32)) hm.1 dX10_goes_20 (by decide) ?_
    refine kk_iadd hm.1 dX10_goes_21 ?_
    refine kk_imul hm.1 dX10_goes_22 ?_
    refine kk_callVv (cs' := 0) (sl' := 0) (st := []) hm.1 cv_X10_266 (t_X10_weaves h0 h) dX10_goes_23 h0 rfl rfl hm.2.2.1 ⟨by decide, by decide⟩ ⟨by decide, by decide⟩ rfl rfl (Nat.le_of_ble_eq_true rfl) rfl ?_
    rintro _ _ _ i23 _ ⟨rfl, rfl, rfl, rfl, h⟩
    refine kk_iinc (v := (x3 + (1 : Int32))) (L' := [(3, kw_i (x3 + (1 : Int32))), (0, kw_a a0), (1, kw_a a1), (2, kw_i x2)]) hm.1 3 dX10_goes_26 rfl rfl (by decide) rfl ?_
    refine kk_goto (tgt := 2) hm.1 dX10_goes_29 (by decide) ?_
    refine kk_loc (L' := [(0, kw_a a0), (1, kw_a a1), (2, kw_i x2), (3, kw_i (x3 + (1 : Int32)))]) [1, 2, 3, 0] rfl ?_
    exact hk2 ((x3 + (1 : Int32))) i23 h
set_option maxHeartbeats 4000000 in
set_option maxRecDepth 100000 in
theorem q_X10_goes_2 {a0 : Nat} {a1 : Nat} {x2 : Int32} {T : kw_T} {n : Nat} {r : kw_R} {w : kw_L} {Q : kw_I → Prop} {E : kw_E} {G : kw_G} (hm : kw_m E G cX10_goes 4 RX10 none rm_X10_goes "goes")  (h0 : T a0 = (0, 10))    : ∀ (N : Nat) (x3 : Int32) (i : kw_I), w_X10_goes_2 a0 a1 x2 T n r w Q  N x3 i → kw_K E G 4 0 0 (kw_Z E G 0 0 (kw_PV (fun T' n' r' i' w' => T = T' ∧ n = n' ∧ r = r' ∧ w = w' ∧ Q i'))) 2 [(0, kw_a a0), (1, kw_a a1), (2, kw_i x2), (3, kw_i x3)] [] T n r i w := by
  intro N
  induction N with
  | zero => intro x3 i h; exact h.elim
  | succ N ih => intro x3 i h; exact qs_X10_goes_2 hm  h0  ih x3 i h
set_option maxHeartbeats 4000000 in
set_option maxRecDepth 100000 in
theorem t_X10_goes {l : Launch} {G : kw_G} {a0 : Nat} {a1 : Nat} {x2 : Int32} {T : kw_T} {n : Nat} {r : kw_R} {i : kw_I} {w : kw_L} {Q : kw_I → Prop} (h0 : T a0 = (0, 10)) (h : w_X10_goes a0 a1 x2 T n r i w Q) : kw_Met l G yX10_goes cX10_goes 4 none rm_X10_goes [kw_a a0, kw_a a1, kw_i x2] (T, n, r, i, w) (kw_PV (fun T' n' r' i' w' => T = T' ∧ n = n' ∧ r = r' ∧ w = w' ∧ Q i')) := by
  refine kw_Met.of (by decide) (Nat.le_of_ble_eq_true rfl) fun E hl hRm hE hT hnm => ?_
  have hm : kw_m E G cX10_goes 4 RX10 none rm_X10_goes "goes" := ⟨hE, hT, hRm, hnm⟩
  subst hl
  show kw_K E G 4 0 0 (kw_Z E G 0 0 (kw_PV (fun T' n' r' i' w' => T = T' ∧ n = n' ∧ r = r' ∧ w = w' ∧ Q i'))) 0 [(0, kw_a a0), (1, kw_a a1), (2, kw_i x2)] [] T n r i w
  refine kk_iload_n hm.1 2 dX10_goes_0 rfl rfl ?_
  refine kk_istore_n (L' := [(3, kw_i x2), (0, kw_a a0), (1, kw_a a1), (2, kw_i x2)]) hm.1 dX10_goes_1 rfl (by decide) rfl ?_
  refine kk_loc (L' := [(0, kw_a a0), (1, kw_a a1), (2, kw_i x2), (3, kw_i x2)]) [1, 2, 3, 0] rfl ?_
  obtain ⟨N, h⟩ := h
  exact q_X10_goes_2 hm  h0   N x2 i h
def s_X10_looks_6 (a0 : Nat) (T : kw_T) (n : Nat) (r : kw_R) (w : kw_L) (Q : kw_I → Prop)  (k6 : Int32 → kw_I → Prop) (x1 : Int32) (i : kw_I) : Prop :=
  ((36 : Int32) ≤ x1 → w_X10_goes a0 (r a0 22) (0 : Int32) T n r i w (fun i39 => Q i39)) ∧ (¬ (36 : Int32) ≤ x1 → kw_in T 1 (r a0 2) ((60 : Int32) + x1) ∧ (kw_in T 1 (r a0 22) x1 ∧ (∀ i26 : kw_I, i26 = kw_st i (r a0 22) (x1).toNatClampNeg (i (r a0 2) (((60 : Int32) + x1)).toNatClampNeg) → (k6 ((x1 + (1 : Int32))) i26))))
def w_X10_looks_6 (a0 : Nat) (T : kw_T) (n : Nat) (r : kw_R) (w : kw_L) (Q : kw_I → Prop)  : Nat → Int32 → kw_I → Prop
  | 0 => fun _ _ => False
  | N + 1 => s_X10_looks_6 a0 T n r w Q  (w_X10_looks_6 a0 T n r w Q  N)
def w_X10_looks  (a0 : Nat) (T : kw_T) (n : Nat) (r : kw_R) (i : kw_I) (w : kw_L) (Q : kw_I → Prop) : Prop :=
  w_X10_plain a0 T n r i w (fun i1 => ∃ N, w_X10_looks_6 a0 T n r w Q  N ((0 : Int32)) i1)
abbrev rm_X10_looks : Room := { frames := 128, cells := 0, slots := 0, locals := 6232 }
set_option maxHeartbeats 4000000 in
set_option maxRecDepth 100000 in
theorem qs_X10_looks_6 {a0 : Nat} {T : kw_T} {n : Nat} {r : kw_R} {w : kw_L} {Q : kw_I → Prop} {E : kw_E} {G : kw_G} (hm : kw_m E G cX10_looks 2 RX10 none rm_X10_looks "looks")  (h0 : T a0 = (0, 10))    {k6 : Int32 → kw_I → Prop} (hk6 : ∀ (x1 : Int32) (i : kw_I), k6 x1 i → kw_K E G 2 0 0 (kw_Z E G 0 0 (kw_PV (fun T' n' r' i' w' => T = T' ∧ n = n' ∧ r = r' ∧ w = w' ∧ Q i'))) 6 [(0, kw_a a0), (1, kw_i x1)] [] T n r i w) (x1 : Int32) (i : kw_I) (h : s_X10_looks_6 a0 T n r w Q  k6 x1 i) : kw_K E G 2 0 0 (kw_Z E G 0 0 (kw_PV (fun T' n' r' i' w' => T = T' ∧ n = n' ∧ r = r' ∧ w = w' ∧ Q i'))) 6 [(0, kw_a a0), (1, kw_i x1)] [] T n r i w := by
  refine kk_iload_n hm.1 1 dX10_looks_6 rfl rfl ?_
  refine kk_bipush (v := (36 : Int32)) hm.1 dX10_looks_7 (by decide) ?_
  refine kk_icmp_ge (tgt := 33) hm.1 dX10_looks_9 (by decide) (fun c9 => ?_) (fun c9 => ?_)
  · have h := h.1 c9
    refine kk_aload_n hm.1 0 dX10_looks_33 rfl rfl ?_
    refine kk_aload_n hm.1 0 dX10_looks_34 rfl rfl ?_
    refine kk_getR hm.1 ff_X10_52 dX10_looks_35 h0 ?_
    refine kk_iconst (v := (0 : Int32)) hm.1 dX10_looks_38 (by decide) ?_
    refine kk_callVv (cs' := 0) (sl' := 0) (st := []) hm.1 cv_X10_273 (t_X10_goes h0 h) dX10_looks_39 h0 rfl rfl hm.2.2.1 ⟨by decide, by decide⟩ ⟨by decide, by decide⟩ rfl rfl (Nat.le_of_ble_eq_true rfl) rfl ?_
    rintro _ _ _ i39 _ ⟨rfl, rfl, rfl, rfl, h⟩
    exact kk_vret hm.1 hm.2.1 dX10_looks_42 ⟨rfl, rfl, rfl, rfl, rfl, h⟩
  · have h := h.2 c9
    refine kk_aload_n hm.1 0 dX10_looks_12 rfl rfl ?_
    refine kk_getR hm.1 ff_X10_52 dX10_looks_13 h0 ?_
    refine kk_iload_n hm.1 1 dX10_looks_16 rfl rfl ?_
    refine kk_aload_n hm.1 0 dX10_looks_17 rfl rfl ?_
    refine kk_getR hm.1 ff_X10_17 dX10_looks_18 h0 ?_
    refine kk_bipush (v := (60 : Int32)) hm.1 dX10_looks_21 (by decide) ?_
    refine kk_iload_n hm.1 1 dX10_looks_23 rfl rfl ?_
    refine kk_iadd hm.1 dX10_looks_24 ?_
    obtain ⟨o25, h⟩ := h
    refine kk_iaload hm.1 dX10_looks_25 o25 ?_
    obtain ⟨o26, h⟩ := h
    refine kn_iastore hm.1 dX10_looks_26 o26 (fun i26 e26 => ?_)
    have h := h i26 e26
    refine kk_iinc (v := (x1 + (1 : Int32))) (L' := [(1, kw_i (x1 + (1 : Int32))), (0, kw_a a0)]) hm.1 1 dX10_looks_27 rfl rfl (by decide) rfl ?_
    refine kk_goto (tgt := 6) hm.1 dX10_looks_30 (by decide) ?_
    refine kk_loc (L' := [(0, kw_a a0), (1, kw_i (x1 + (1 : Int32)))]) [1, 0] rfl ?_
    exact hk6 ((x1 + (1 : Int32))) i26 h
set_option maxHeartbeats 4000000 in
set_option maxRecDepth 100000 in
theorem q_X10_looks_6 {a0 : Nat} {T : kw_T} {n : Nat} {r : kw_R} {w : kw_L} {Q : kw_I → Prop} {E : kw_E} {G : kw_G} (hm : kw_m E G cX10_looks 2 RX10 none rm_X10_looks "looks")  (h0 : T a0 = (0, 10))    : ∀ (N : Nat) (x1 : Int32) (i : kw_I), w_X10_looks_6 a0 T n r w Q  N x1 i → kw_K E G 2 0 0 (kw_Z E G 0 0 (kw_PV (fun T' n' r' i' w' => T = T' ∧ n = n' ∧ r = r' ∧ w = w' ∧ Q i'))) 6 [(0, kw_a a0), (1, kw_i x1)] [] T n r i w := by
  intro N
  induction N with
  | zero => intro x1 i h; exact h.elim
  | succ N ih => intro x1 i h; exact qs_X10_looks_6 hm  h0  ih x1 i h
set_option maxHeartbeats 4000000 in
set_option maxRecDepth 100000 in
theorem t_X10_looks {l : Launch} {G : kw_G} {a0 : Nat} {T : kw_T} {n : Nat} {r : kw_R} {i : kw_I} {w : kw_L} {Q : kw_I → Prop} (h0 : T a0 = (0, 10)) (h : w_X10_looks a0 T n r i w Q) : kw_Met l G yX10_looks cX10_looks 2 none rm_X10_looks [kw_a a0] (T, n, r, i, w) (kw_PV (fun T' n' r' i' w' => T = T' ∧ n = n' ∧ r = r' ∧ w = w' ∧ Q i')) := by
  refine kw_Met.of (by decide) (Nat.le_of_ble_eq_true rfl) fun E hl hRm hE hT hnm => ?_
  have hm : kw_m E G cX10_looks 2 RX10 none rm_X10_looks "looks" := ⟨hE, hT, hRm, hnm⟩
  subst hl
  show kw_K E G 2 0 0 (kw_Z E G 0 0 (kw_PV (fun T' n' r' i' w' => T = T' ∧ n = n' ∧ r = r' ∧ w = w' ∧ Q i'))) 0 [(0, kw_a a0)] [] T n r i w
  refine kk_aload_n hm.1 0 dX10_looks_0 rfl rfl ?_
  refine kk_callVv (cs' := 0) (sl' := 0) (st := []) hm.1 cv_X10_270 (t_X10_plain h0 h) dX10_looks_1 h0 rfl rfl hm.2.2.1 ⟨by decide, by decide⟩ ⟨by decide, by decide⟩ rfl rfl (Nat.le_of_ble_eq_true rfl) rfl ?_
  rintro _ _ _ i1 _ ⟨rfl, rfl, rfl, rfl, h⟩
  refine kk_iconst (v := (0 : Int32)) hm.1 dX10_looks_4 (by decide) ?_
  refine kk_istore_n (L' := [(1, kw_i (0 : Int32)), (0, kw_a a0)]) hm.1 dX10_looks_5 rfl (by decide) rfl ?_
  refine kk_loc (L' := [(0, kw_a a0), (1, kw_i (0 : Int32))]) [1, 0] rfl ?_
  obtain ⟨N, h⟩ := h
  exact q_X10_looks_6 hm  h0   N ((0 : Int32)) i1 h
