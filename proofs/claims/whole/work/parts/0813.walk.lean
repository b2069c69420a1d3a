def w_X10_wordOf_96 (a0 : Nat) (x1 : Int32) (x2 : Int32) (T : kw_T) (n : Nat) (r : kw_R) (i : kw_I) (w : kw_L) (Q : Int32 → Prop) (k5 : Int32 → Int32 → Prop) (k57 : Int32 → Int32 → Int32 → Int32 → Int32 → Prop) (x3 : Int32) (x4 : Int32) (x5 : Int32) (x7 : Int32) (s0 : Int32) : Prop :=
  k57 x3 x4 x5 s0 ((x7 + (1 : Int32)))
def w_X10_wordOf_104 (a0 : Nat) (x1 : Int32) (x2 : Int32) (T : kw_T) (n : Nat) (r : kw_R) (i : kw_I) (w : kw_L) (Q : Int32 → Prop) (k5 : Int32 → Int32 → Prop) (x3 : Int32) (x4 : Int32) (x5 : Int32) (x6 : Int32) : Prop :=
  (x6 = 0 → k5 ((x3 + (1 : Int32))) ((x4 + (x5 + (1 : Int32))))) ∧ (¬ x6 = 0 → Q x3)
def s_X10_wordOf_57 (a0 : Nat) (x1 : Int32) (x2 : Int32) (T : kw_T) (n : Nat) (r : kw_R) (i : kw_I) (w : kw_L) (Q : Int32 → Prop) (k5 : Int32 → Int32 → Prop) (k57 : Int32 → Int32 → Int32 → Int32 → Int32 → Prop) (x3 : Int32) (x4 : Int32) (x5 : Int32) (x6 : Int32) (x7 : Int32) : Prop :=
  (x5 ≤ x7 → w_X10_wordOf_104 a0 x1 x2 T n r i w Q k5 x3 x4 x5 x6) ∧ (¬ x5 ≤ x7 → (x6 = 0 → w_X10_wordOf_104 a0 x1 x2 T n r i w Q k5 x3 x4 x5 x6) ∧ (¬ x6 = 0 → kw_in T 2 (r a0 6) (x4 + x7) ∧ (kw_in T 2 (r a0 7) (x1 + x7) ∧ ((¬ (i (r a0 6) ((x4 + x7)).toNatClampNeg) = (i (r a0 7) ((x1 + x7)).toNatClampNeg) → w_X10_wordOf_96 a0 x1 x2 T n r i w Q k5 k57 x3 x4 x5 x7 ((0 : Int32))) ∧ ((i (r a0 6) ((x4 + x7)).toNatClampNeg) = (i (r a0 7) ((x1 + x7)).toNatClampNeg) → w_X10_wordOf_96 a0 x1 x2 T n r i w Q k5 k57 x3 x4 x5 x7 ((1 : Int32)))))))
def w_X10_wordOf_57 (a0 : Nat) (x1 : Int32) (x2 : Int32) (T : kw_T) (n : Nat) (r : kw_R) (i : kw_I) (w : kw_L) (Q : Int32 → Prop) (k5 : Int32 → Int32 → Prop) : Nat → Int32 → Int32 → Int32 → Int32 → Int32 → Prop
  | 0 => fun _ _ _ _ _ => False
  | N + 1 => s_X10_wordOf_57 a0 x1 x2 T n r i w Q k5 (w_X10_wordOf_57 a0 x1 x2 T n r i w Q k5 N)
def w_X10_wordOf_52 (a0 : Nat) (x1 : Int32) (x2 : Int32) (T : kw_T) (n : Nat) (r : kw_R) (i : kw_I) (w : kw_L) (Q : Int32 → Prop) (k5 : Int32 → Int32 → Prop) (x3 : Int32) (x4 : Int32) (x5 : Int32) (s0 : Int32) : Prop :=
  ∃ N, w_X10_wordOf_57 a0 x1 x2 T n r i w Q k5 N x3 x4 x5 s0 ((0 : Int32))
def s_X10_wordOf_18 (a0 : Nat) (x1 : Int32) (x2 : Int32) (T : kw_T) (n : Nat) (r : kw_R) (i : kw_I) (w : kw_L) (Q : Int32 → Prop) (k5 : Int32 → Int32 → Prop) (k18 : Int32 → Int32 → Int32 → Prop) (x3 : Int32) (x4 : Int32) (x5 : Int32) : Prop :=
  kw_in T 2 (r a0 6) (x4 + x5) ∧ (((i (r a0 6) ((x4 + x5)).toNatClampNeg) = (32 : Int32) → (¬ x5 = (x2 - x1) → w_X10_wordOf_52 a0 x1 x2 T n r i w Q k5 x3 x4 x5 ((0 : Int32))) ∧ (x5 = (x2 - x1) → w_X10_wordOf_52 a0 x1 x2 T n r i w Q k5 x3 x4 x5 ((1 : Int32)))) ∧ (¬ (i (r a0 6) ((x4 + x5)).toNatClampNeg) = (32 : Int32) → k18 x3 x4 ((x5 + (1 : Int32)))))
def w_X10_wordOf_18 (a0 : Nat) (x1 : Int32) (x2 : Int32) (T : kw_T) (n : Nat) (r : kw_R) (i : kw_I) (w : kw_L) (Q : Int32 → Prop) (k5 : Int32 → Int32 → Prop) : Nat → Int32 → Int32 → Int32 → Prop
  | 0 => fun _ _ _ => False
  | N + 1 => s_X10_wordOf_18 a0 x1 x2 T n r i w Q k5 (w_X10_wordOf_18 a0 x1 x2 T n r i w Q k5 N)
def s_X10_wordOf_5 (a0 : Nat) (x1 : Int32) (x2 : Int32) (T : kw_T) (n : Nat) (r : kw_R) (i : kw_I) (w : kw_L) (Q : Int32 → Prop)  (k5 : Int32 → Int32 → Prop) (x3 : Int32) (x4 : Int32) : Prop :=
  (T (r a0 6)).1 = 2 ∧ ((((T (r a0 6)).2.toInt32) ≤ x4 → Q (0 : Int32)) ∧ (¬ ((T (r a0 6)).2.toInt32) ≤ x4 → ∃ N, w_X10_wordOf_18 a0 x1 x2 T n r i w Q k5 N x3 x4 ((0 : Int32))))
def w_X10_wordOf_5 (a0 : Nat) (x1 : Int32) (x2 : Int32) (T : kw_T) (n : Nat) (r : kw_R) (i : kw_I) (w : kw_L) (Q : Int32 → Prop)  : Nat → Int32 → Int32 → Prop
  | 0 => fun _ _ => False
  | N + 1 => s_X10_wordOf_5 a0 x1 x2 T n r i w Q  (w_X10_wordOf_5 a0 x1 x2 T n r i w Q  N)
def w_X10_wordOf  (a0 : Nat) (x1 : Int32) (x2 : Int32) (T : kw_T) (n : Nat) (r : kw_R) (i : kw_I) (w : kw_L) (Q : Int32 → Prop) : Prop :=
  ∃ N, w_X10_wordOf_5 a0 x1 x2 T n r i w Q  N ((1 : Int32)) ((0 : Int32))
abbrev rm_X10_wordOf : Room := { frames := 1, cells := 0, slots := 0, locals := 60 }
set_option maxHeartbeats 4000000 in
set_option maxRecDepth 100000 in
theorem q_X10_wordOf_96 {a0 : Nat} {x1 : Int32} {x2 : Int32} {T : kw_T} {n : Nat} {r : kw_R} {i : kw_I} {w : kw_L} {Q : Int32 → Prop} {E : kw_E} {G : kw_G} (hm : kw_m E G cX10_wordOf 8 RX10 (some .int) rm_X10_wordOf "wordOf")  (h0 : T a0 = (0, 10))  {k5 : Int32 → Int32 → Prop} {k57 : Int32 → Int32 → Int32 → Int32 → Int32 → Prop} (hk5 : ∀ (x3 : Int32) (x4 : Int32), k5 x3 x4 → kw_K E G 8 0 0 (kw_Z E G 0 0 (kw_PI (fun v T' n' r' i' w' => T = T' ∧ n = n' ∧ r = r' ∧ i = i' ∧ w = w' ∧ Q v))) 5 [(0, kw_a a0), (1, kw_i x1), (2, kw_i x2), (3, kw_i x3), (4, kw_i x4)] [] T n r i w) (hk57 : ∀ (x3 : Int32) (x4 : Int32) (x5 : Int32) (x6 : Int32) (x7 : Int32), k57 x3 x4 x5 x6 x7 → kw_K E G 8 0 0 (kw_Z E G 0 0 (kw_PI (fun v T' n' r' i' w' => T = T' ∧ n = n' ∧ r = r' ∧ i = i' ∧ w = w' ∧ Q v))) 57 [(0, kw_a a0), (1, kw_i x1), (2, kw_i x2), (3, kw_i x3), (4, kw_i x4), (5, kw_i x5), (6, kw_i x6), (7, kw_i x7)] [] T n r i w) (x3 : Int32) (x4 : Int32) (x5 : Int32) (x7 : Int32) (s0 : Int32) (h : w_X10_wordOf_96 a0 x1 x2 T n r i w Q k5 k57 x3 x4 x5 x7 s0) : kw_K E G 8 0 0 (kw_Z E G 0 0 (kw_PI (fun v T' n' r' i' w' => T = T' ∧ n = n' ∧ r = r' ∧ i = i' ∧ w = w' ∧ Q v))) 96 [(0, kw_a a0), (1, kw_i x1), (2, kw_i x2), (3, kw_i x3), (4, kw_i x4), (5, kw_i x5), (7, kw_i x7)] [kw_i s0] T n r i w := by
  refine kk_istore (L' := [(6, kw_i s0), (0, kw_a a0), (1, kw_i x1), (2, kw_i x2), (3, kw_i x3), (4, kw_i x4), (5, kw_i x5), (7, kw_i x7)]) hm.1 dX10_wordOf_96 (by decide) rfl ?_
  refine kk_iinc (v := (x7 + (1 : Int32))) (L' := [(7, kw_i (x7 + (1 : Int32))), (6, kw_i s0), (0, kw_a a0), (1, kw_i x1), (2, kw_i x2), (3, kw_i x3), (4, kw_i x4), (5, kw_i x5)]) hm.1 7 dX10_wordOf_98 rfl rfl (by decide) rfl ?_
  refine kk_goto (tgt := 57) hm.1 dX10_wordOf_101 (by decide) ?_
  refine kk_loc (L' := [(0, kw_a a0), (1, kw_i x1), (2, kw_i x2), (3, kw_i x3), (4, kw_i x4), (5, kw_i x5), (6, kw_i s0), (7, kw_i (x7 + (1 : Int32)))]) [2, 3, 4, 5, 6, 7, 1, 0] rfl ?_
  exact hk57 x3 x4 x5 s0 ((x7 + (1 : Int32))) h
set_option maxHeartbeats 4000000 in
set_option maxRecDepth 100000 in
theorem q_X10_wordOf_104 {a0 : Nat} {x1 : Int32} {x2 : Int32} {T : kw_T} {n : Nat} {r : kw_R} {i : kw_I} {w : kw_L} {Q : Int32 → Prop} {E : kw_E} {G : kw_G} (hm : kw_m E G cX10_wordOf 8 RX10 (some .int) rm_X10_wordOf "wordOf")  (h0 : T a0 = (0, 10))  {k5 : Int32 → Int32 → Prop} (hk5 : ∀ (x3 : Int32) (x4 : Int32), k5 x3 x4 → kw_K E G 8 0 0 (kw_Z E G 0 0 (kw_PI (fun v T' n' r' i' w' => T = T' ∧ n = n' ∧ r = r' ∧ i = i' ∧ w = w' ∧ Q v))) 5 [(0, kw_a a0), (1, kw_i x1), (2, kw_i x2), (3, kw_i x3), (4, kw_i x4)] [] T n r i w) (x3 : Int32) (x4 : Int32) (x5 : Int32) (x6 : Int32) (h : w_X10_wordOf_104 a0 x1 x2 T n r i w Q k5 x3 x4 x5 x6) : kw_K E G 8 0 0 (kw_Z E G 0 0 (kw_PI (fun v T' n' r' i' w' => T = T' ∧ n = n' ∧ r = r' ∧ i = i' ∧ w = w' ∧ Q v))) 104 [(0, kw_a a0), (1, kw_i x1), (2, kw_i x2), (3, kw_i x3), (4, kw_i x4), (5, kw_i x5), (6, kw_i x6)] [] T n r i w := by
  refine kk_iload hm.1 6 dX10_wordOf_104 rfl ?_
  refine kk_if_eq (tgt := 111) hm.1 dX10_wordOf_106 (by decide) (fun c106 => ?_) (fun c106 => ?_)
  · have h := h.1 c106
    refine kk_iload hm.1 4 dX10_wordOf_111 rfl ?_
    refine kk_iload hm.1 5 dX10_wordOf_113 rfl ?_
    refine kk_iconst (v := (1 : Int32)) hm.1 dX10_wordOf_115 (by decide) ?_
    refine kk_iadd hm.1 dX10_wordOf_116 ?_
    refine kk_iadd hm.1 dX10_wordOf_117 ?_
    refine kk_istore (L' := [(4, kw_i (x4 + (x5 + (1 : Int32)))), (0, kw_a a0), (1, kw_i x1), (2, kw_i x2), (3, kw_i x3), (5, kw_i x5), (6, kw_i x6)]) hm.1 dX10_wordOf_118 (by decide) rfl ?_
    refine kk_iinc (v := (x3 + (1 : Int32))) (L' := [(3, kw_i (x3 + (1 : Int32))), (4, kw_i (x4 + (x5 + (1 : Int32)))), (0, kw_a a0), (1, kw_i x1), (2, kw_i x2), (5, kw_i x5), (6, kw_i x6)]) hm.1 4 dX10_wordOf_120 rfl rfl (by decide) rfl ?_
    refine kk_goto (tgt := 5) hm.1 dX10_wordOf_123 (by decide) ?_
    refine kk_loc (L' := [(0, kw_a a0), (1, kw_i x1), (2, kw_i x2), (3, kw_i (x3 + (1 : Int32))), (4, kw_i (x4 + (x5 + (1 : Int32))))]) [2, 3, 4, 0, 1] rfl ?_
    exact hk5 ((x3 + (1 : Int32))) ((x4 + (x5 + (1 : Int32)))) h
  · have h := h.2 c106
    refine kk_iload_n hm.1 3 dX10_wordOf_109 rfl rfl ?_
    exact kk_iret hm.1 hm.2.1 dX10_wordOf_110 ⟨_, rfl, rfl, rfl, rfl, rfl, rfl, h⟩
set_option maxHeartbeats 4000000 in
set_option maxRecDepth 100000 in
theorem qs_X10_wordOf_57 {a0 : Nat} {x1 : Int32} {x2 : Int32} {T : kw_T} {n : Nat} {r : kw_R} {i : kw_I} {w : kw_L} {Q : Int32 → Prop} {E : kw_E} {G : kw_G} (hm : kw_m E G cX10_wordOf 8 RX10 (some .int) rm_X10_wordOf "wordOf")  (h0 : T a0 = (0, 10))  {k5 : Int32 → Int32 → Prop} (hk5 : ∀ (x3 : Int32) (x4 : Int32), k5 x3 x4 → kw_K E G 8 0 0 (kw_Z E G 0 0 (kw_PI (fun v T' n' r' i' w' => T = T' ∧ n = n' ∧ r = r' ∧ i = i' ∧ w = w' ∧ Q v))) 5 [(0, kw_a a0), (1, kw_i x1), (2, kw_i x2), (3, kw_i x3), (4, kw_i x4)] [] T n r i w) {k57 : Int32 → Int32 → Int32 → Int32 → Int32 → Prop} (hk57 : ∀ (x3 : Int32) (x4 : Int32) (x5 : Int32) (x6 : Int32) (x7 : Int32), k57 x3 x4 x5 x6 x7 → kw_K E G 8 0 0 (kw_Z E G 0 0 (kw_PI (fun v T' n' r' i' w' => T = T' ∧ n = n' ∧ r = r' ∧ i = i' ∧ w = w' ∧ Q v))) 57 [(0, kw_a a0), (1, kw_i x1), (2, kw_i x2), (3, kw_i x3), (4, kw_i x4), (5, kw_i x5), (6, kw_i x6), (7, kw_i x7)] [] T n r i w) (x3 : Int32) (x4 : Int32) (x5 : Int32) (x6 : Int32) (x7 : Int32) (h : s_X10_wordOf_57 a0 x1 x2 T n r i w Q k5 k57 x3 x4 x5 x6 x7) : kw_K E G 8 0 0 (kw_Z E G 0 0 (kw_PI (fun v T' n' r' i' w' => T = T' ∧ n = n' ∧ r = r' ∧ i = i' ∧ w = w' ∧ Q v))) 57 [(0, kw_a a0), (1, kw_i x1), (2, kw_i x2), (3, kw_i x3), (4, kw_i x4), (5, kw_i x5), (6, kw_i x6), (7, kw_i x7)] [] T n r i w := by
  refine kk_iload hm.1 7 dX10_wordOf_57 rfl ?_
  refine kk_iload hm.1 5 dX10_wordOf_59 rfl ?_
  refine kk_icmp_ge (tgt := 104) hm.1 dX10_wordOf_61 (by decide) (fun c61 => ?_) (fun c61 => ?_)
  · have h := h.1 c61
    refine kk_loc (L' := [(0, kw_a a0), (1, kw_i x1), (2, kw_i x2), (3, kw_i x3), (4, kw_i x4), (5, kw_i x5), (6, kw_i x6)]) [0, 1, 2, 3, 4, 5, 6] rfl ?_
    exact q_X10_wordOf_104 hm  h0  hk5 x3 x4 x5 x6 h
  · have h := h.2 c61
    refine kk_iload hm.1 6 dX10_wordOf_64 rfl ?_
    refine kk_if_eq (tgt := 104) hm.1 dX10_wordOf_66 (by decide) (fun c66 => ?_) (fun c66 => ?_)
    · have h := h.1 c66
      refine kk_loc (L' := [(0, kw_a a0), (1, kw_i x1), (2, kw_i x2), (3, kw_i x3), (4, kw_i x4), (5, kw_i x5), (6, kw_i x6)]) [0, 1, 2, 3, 4, 5, 6] rfl ?_
      exact q_X10_wordOf_104 hm  h0  hk5 x3 x4 x5 x6 h
    · have h := h.2 c66
      refine kk_aload_n hm.1 0 dX10_wordOf_69 rfl rfl ?_
      refine kk_getR hm.1 ff_X10_27 dX10_wordOf_70 h0 ?_
      refine kk_iload hm.1 4 dX10_wordOf_73 rfl ?_
      refine kk_iload hm.1 7 dX10_wordOf_75 rfl ?_
      refine kk_iadd hm.1 dX10_wordOf_77 ?_
      obtain ⟨o78, h⟩ := h
      refine kk_baload hm.1 dX10_wordOf_78 o78 ?_
      refine kk_aload_n hm.1 0 dX10_wordOf_79 rfl rfl ?_
      refine kk_getR hm.1 ff_X10_31 dX10_wordOf_80 h0 ?_
      refine kk_iload_n hm.1 1 dX10_wordOf_83 rfl rfl ?_
      refine kk_iload hm.1 7 dX10_wordOf_84 rfl ?_
      refine kk_iadd hm.1 dX10_wordOf_86 ?_
      obtain ⟨o87, h⟩ := h
      refine kk_baload hm.1 dX10_wordOf_87 o87 ?_
      refine kk_icmp_ne (tgt := 95) hm.1 dX10_wordOf_88 (by decide) (fun c88 => ?_) (fun c88 => ?_)
      · have h := h.1 c88
        refine kk_iconst (v := (0 : Int32)) hm.1 dX10_wordOf_95 (by decide) ?_
        refine kk_loc (L' := [(0, kw_a a0), (1, kw_i x1), (2, kw_i x2), (3, kw_i x3), (4, kw_i x4), (5, kw_i x5), (7, kw_i x7)]) [0, 1, 2, 3, 4, 5, 7] rfl ?_
        exact q_X10_wordOf_96 hm  h0  hk5 hk57 x3 x4 x5 x7 ((0 : Int32)) h
      · have h := h.2 c88
        refine kk_iconst (v := (1 : Int32)) hm.1 dX10_wordOf_91 (by decide) ?_
        refine kk_goto (tgt := 96) hm.1 dX10_wordOf_92 (by decide) ?_
        refine kk_loc (L' := [(0, kw_a a0), (1, kw_i x1), (2, kw_i x2), (3, kw_i x3), (4, kw_i x4), (5, kw_i x5), (7, kw_i x7)]) [0, 1, 2, 3, 4, 5, 7] rfl ?_
        exact q_X10_wordOf_96 hm  h0  hk5 hk57 x3 x4 x5 x7 ((1 : Int32)) h
set_option maxHeartbeats 4000000 in
set_option maxRecDepth 100000 in
theorem q_X10_wordOf_57 {a0 : Nat} {x1 : Int32} {x2 : Int32} {T : kw_T} {n : Nat} {r : kw_R} {i : kw_I} {w : kw_L} {Q : Int32 → Prop} {E : kw_E} {G : kw_G} (hm : kw_m E G cX10_wordOf 8 RX10 (some .int) rm_X10_wordOf "wordOf")  (h0 : T a0 = (0, 10))  {k5 : Int32 → Int32 → Prop} (hk5 : ∀ (x3 : Int32) (x4 : Int32), k5 x3 x4 → kw_K E G 8 0 0 (kw_Z E G 0 0 (kw_PI (fun v T' n' r' i' w' => T = T' ∧ n = n' ∧ r = r' ∧ i = i' ∧ w = w' ∧ Q v))) 5 [(0, kw_a a0), (1, kw_i x1), (2, kw_i x2), (3, kw_i x3), (4, kw_i x4)] [] T n r i w) : ∀ (N : Nat) (x3 : Int32) (x4 : Int32) (x5 : Int32) (x6 : Int32) (x7 : Int32), w_X10_wordOf_57 a0 x1 x2 T n r i w Q k5 N x3 x4 x5 x6 x7 → kw_K E G 8 0 0 (kw_Z E G 0 0 (kw_PI (fun v T' n' r' i' w' => T = T' ∧ n = n' ∧ r = r' ∧ i = i' ∧ w = w' ∧ Q v))) 57 [(0, kw_a a0), (1, kw_i x1), (2, kw_i x2), (3, kw_i x3), (4, kw_i x4), (5, kw_i x5), (6, kw_i x6), (7, kw_i x7)] [] T n r i w := by
  intro N
  induction N with
  | zero => intro x3 x4 x5 x6 x7 h; exact h.elim
  | succ N ih => intro x3 x4 x5 x6 x7 h; exact qs_X10_wordOf_57 hm  h0 hk5 ih x3 x4 x5 x6 x7 h
set_option maxHeartbeats 4000000 in
set_option maxRecDepth 100000 in
theorem q_X10_wordOf_52 {a0 : Nat} {x1 : Int32} {x2 : Int32} {T : kw_T} {n : Nat} {r : kw_R} {i : kw_I} {w : kw_L} {Q : Int32 → Prop} {E : kw_E} {G : kw_G} (hm : kw_m E G cX10_wordOf 8 RX10 (some .int) rm_X10_wordOf "wordOf")  (h0 : T a0 = (0, 10))  {k5 : Int32 → Int32 → Prop} (hk5 : ∀ (x3 : Int32) (x4 : Int32), k5 x3 x4 → kw_K E G 8 0 0 (kw_Z E G 0 0 (kw_PI (fun v T' n' r' i' w' => T = T' ∧ n = n' ∧ r = r' ∧ i = i' ∧ w = w' ∧ Q v))) 5 [(0, kw_a a0), (1, kw_i x1), (2, kw_i x2), (3, kw_i x3), (4, kw_i x4)] [] T n r i w) (x3 : Int32) (x4 : Int32) (x5 : Int32) (s0 : Int32) (h : w_X10_wordOf_52 a0 x1 x2 T n r i w Q k5 x3 x4 x5 s0) : kw_K E G 8 0 0 (kw_Z E G 0 0 (kw_PI (fun v T' n' r' i' w' => T = T' ∧ n = n' ∧ r = r' ∧ i = i' ∧ w = w' ∧ Q v))) 52 [(0, kw_a a0), (1, kw_i x1), (2, kw_i x2), (3, kw_i x3), (4, kw_i x4), (5, kw_i x5)] [kw_i s0] T n r i w := by
  refine kk_istore (L' := [(6, kw_i s0), (0, kw_a a0), (1, kw_i x1), (2, kw_i x2), (3, kw_i x3), (4, kw_i x4), (5, kw_i x5)]) hm.1 dX10_wordOf_52 (by decide) rfl ?_
  refine kk_iconst (v := (0 : Int32)) hm.1 dX10_wordOf_54 (by decide) ?_
  refine kk_istore (L' := [(7, kw_i (0 : Int32)), (6, kw_i s0), (0, kw_a a0), (1, kw_i x1), (2, kw_i x2), (3, kw_i x3), (4, kw_i x4), (5, kw_i x5)]) hm.1 dX10_wordOf_55 (by decide) rfl ?_
  refine kk_loc (L' := [(0, kw_a a0), (1, kw_i x1), (2, kw_i x2), (3, kw_i x3), (4, kw_i x4), (5, kw_i x5), (6, kw_i s0), (7, kw_i (0 : Int32))]) [2, 3, 4, 5, 6, 7, 1, 0] rfl ?_
  obtain ⟨N, h⟩ := h
  exact q_X10_wordOf_57 hm  h0  hk5 N x3 x4 x5 s0 ((0 : Int32)) h
set_option maxHeartbeats 4000000 in
set_option maxRecDepth 100000 in
theorem qs_X10_wordOf_18 {a0 : Nat} {x1 : Int32} {x2 : Int32} {T : kw_T} {n : Nat} {r : kw_R} {i : kw_I} {w : kw_L} {Q : Int32 → Prop} {E : kw_E} {G : kw_G} (hm : kw_m E G cX10_wordOf 8 RX10 (some .int) rm_X10_wordOf "wordOf")  (h0 : T a0 = (0, 10))  {k5 : Int32 → Int32 → Prop} (hk5 : ∀ (x3 : Int32) (x4 : Int32), k5 x3 x4 → kw_K E G 8 0 0 (kw_Z E G 0 0 (kw_PI (fun v T' n' r' i' w' => T = T' ∧ n = n' ∧ r = r' ∧ i = i' ∧ w = w' ∧ Q v))) 5 [(0, kw_a a0), (1, kw_i x1), (2, kw_i x2), (3, kw_i x3), (4, kw_i x4)] [] T n r i w) {k18 : Int32 → Int32 → Int32 → Prop} (hk18 : ∀ (x3 : Int32) (x4 : Int32) (x5 : Int32), k18 x3 x4 x5 → kw_K E G 8 0 0 (kw_Z E G 0 0 (kw_PI (fun v T' n' r' i' w' => T = T' ∧ n = n' ∧ r = r' ∧ i = i' ∧ w = w' ∧ Q v))) 18 [(0, kw_a a0), (1, kw_i x1), (2, kw_i x2), (3, kw_i x3), (4, kw_i x4), (5, kw_i x5)] [] T n r i w) (x3 : Int32) (x4 : Int32) (x5 : Int32) (h : s_X10_wordOf_18 a0 x1 x2 T n r i w Q k5 k18 x3 x4 x5) : kw_K E G 8 0 0 (kw_Z E G 0 0 (kw_PI (fun v T' n' r' i' w' => T = T' ∧ n = n' ∧ r = r' ∧ i = i' ∧ w = w' ∧ Q v))) 18 [(0, kw_a a0), (1, kw_i x1), (2, kw_i x2), (3, kw_i x3), (4, kw_i x4), (5, kw_i x5)] [] T n r i w := by
  refine kk_aload_n hm.1 0 dX10_wordOf_18 rfl rfl ?_
  refine kk_getR hm.1 ff_X10_27 dX10_wordOf_19 h0 ?_
  refine kk_iload hm.1 4 dX10_wordOf_22 rfl ?_
  refine kk_iload hm.1 5 dX10_wordOf_24 rfl ?_
  refine kk_iadd hm.1 dX10_wordOf_26 ?_
  obtain ⟨o27, h⟩ := h
  refine kk_baload hm.1 dX10_wordOf_27 o27 ?_
  refine kk_bipush (v := (32 : Int32)) hm.1 dX10_wordOf_28 (by decide) ?_
  refine kk_icmp_eq (tgt := 39) hm.1 dX10_wordOf_30 (by decide) (fun c30 => ?_) (fun c30 => ?_)
  · have h := h.1 c30
    refine kk_iload hm.1 5 dX10_wordOf_39 rfl ?_
    refine kk_iload_n hm.1 2 dX10_wordOf_41 rfl rfl ?_
    refine kk_iload_n hm.1 1 dX10_wordOf_42 rfl rfl ?_
    refine kk_isub hm.1 dX10_wordOf_43 ?_
    refine kk_icmp_ne (tgt := 51) hm.1 dX10_wordOf_44 (by decide) (fun c44 => ?_) (fun c44 => ?_)
    · have h := h.1 c44
      refine kk_iconst (v := (0 : Int32)) hm.1 dX10_wordOf_51 (by decide) ?_
      exact q_X10_wordOf_52 hm  h0  hk5 x3 x4 x5 ((0 : Int32)) h
    · have h := h.2 c44
      refine kk_iconst (v := (1 : Int32)) hm.1 dX10_wordOf_47 (by decide) ?_
      refine kk_goto (tgt := 52) hm.1 dX10_wordOf_48 (by decide) ?_
      exact q_X10_wordOf_52 hm  h0  hk5 x3 x4 x5 ((1 : Int32)) h
  · have h := h.2 c30
    refine kk_iinc (v := (x5 + (1 : Int32))) (L' := [(5, kw_i (x5 + (1 : Int32))), (0, kw_a a0), (1, kw_i x1), (2, kw_i x2), (3, kw_i x3), (4, kw_i x4)]) hm.1 5 dX10_wordOf_33 rfl rfl (by decide) rfl ?_
    refine kk_goto (tgt := 18) hm.1 dX10_wordOf_36 (by decide) ?_
    refine kk_loc (L' := [(0, kw_a a0), (1, kw_i x1), (2, kw_i x2), (3, kw_i x3), (4, kw_i x4), (5, kw_i (x5 + (1 : Int32)))]) [1, 2, 3, 4, 5, 0] rfl ?_
    exact hk18 x3 x4 ((x5 + (1 : Int32))) h
set_option maxHeartbeats 4000000 in
set_option maxRecDepth 100000 in
theorem q_X10_wordOf_18 {a0 : Nat} {x1 : Int32} {x2 : Int32} {T : kw_T} {n : Nat} {r : kw_R} {i : kw_I} {w : kw_L} {Q : Int32 → Prop} {E : kw_E} {G : kw_G} (hm : kw_m E G cX10_wordOf 8 RX10 (some .int) rm_X10_wordOf "wordOf")  (h0 : T a0 = (0, 10))  {k5 : Int32 → Int32 → Prop} (hk5 : ∀ (x3 : Int32) (x4 : Int32), k5 x3 x4 → kw_K E G 8 0 0 (kw_Z E G 0 0 (kw_PI (fun v T' n' r' i' w' => T = T' ∧ n = n' ∧ r = r' ∧ i = i' ∧ w = w' ∧ Q v))) 5 [(0, kw_a a0), (1, kw_i x1), (2, kw_i x2), (3, kw_i x3), (4, kw_i x4)] [] T n r i w) : ∀ (N : Nat) (x3 : Int32) (x4 : Int32) (x5 : Int32), w_X10_wordOf_18 a0 x1 x2 T n r i w Q k5 N x3 x4 x5 → kw_K E G 8 0 0 (kw_Z E G 0 0 (kw_PI (fun v T' n' r' i' w' => T = T' ∧ n = n' ∧ r = r' ∧ i = i' ∧ w = w' ∧ Q v))) 18 [(0, kw_a a0), (1, kw_i x1), (2, kw_i x2), (3, kw_i x3), (4, kw_i x4), (5, kw_i x5)] [] T n r i w := by
  intro N
  induction N with
  | zero => intro x3 x4 x5 h; exact h.elim
  | succ N ih => intro x3 x4 x5 h; exact qs_X10_wordOf_18 hm  h0 hk5 ih x3 x4 x5 h
set_option maxHeartbeats 4000000 in
set_option maxRecDepth 100000 in
theorem qs_X10_wordOf_5 {a0 : Nat} {x1 : Int32} {x2 : Int32} {T : kw_T} {n : Nat} {r : kw_R} {i : kw_I} {w : kw_L} {Q : Int32 → Prop} {E : kw_E} {G : kw_G} (hm : kw_m E G cX10_wordOf 8 RX10 (some .int) rm_X10_wordOf "wordOf")  (h0 : T a0 = (0, 10))    {k5 : Int32 → Int32 → Prop} (hk5 : ∀ (x3 : Int32) (x4 : Int32), k5 x3 x4 → kw_K E G 8 0 0 (kw_Z E G 0 0 (kw_PI (fun v T' n' r' i' w' => T = T' ∧ n = n' ∧ r = r' ∧ i = i' ∧ w = w' ∧ Q v))) 5 [(0, kw_a a0), (1, kw_i x1), (2, kw_i x2), (3, kw_i x3), (4, kw_i x4)] [] T n r i w) (x3 : Int32) (x4 : Int32) (h : s_X10_wordOf_5 a0 x1 x2 T n r i w Q  k5 x3 x4) : kw_K E G 8 0 0 (kw_Z E G 0 0 (kw_PI (fun v T' n' r' i' w' => T = T' ∧ n = n' ∧ r = r' ∧ i = i' ∧ w = w' ∧ Q v))) 5 [(0, kw_a a0), (1, kw_i x1), (2, kw_i x2), (3, kw_i x3), (4, kw_i x4)] [] T n r i w := by
  refine kk_iload hm.1 4 dX10_wordOf_5 rfl ?_
  refine kk_aload_n hm.1 0 dX10_wordOf_7 rfl rfl ?_
  refine kk_getR hm.1 ff_X10_27 dX10_wordOf_8 h0 ?_
  obtain ⟨o11, h⟩ := h
  refine kk_alen hm.1 2 (by decide) (by decide) rfl dX10_wordOf_11 o11 ?_
  refine kk_icmp_ge (tgt := 126) hm.1 dX10_wordOf_12 (by decide) (fun c12 => ?_) (fun c12 => ?_)
  · have h := h.1 c12
    refine kk_iconst (v := (0 : Int32)) hm.1 dX10_wordOf_126 (by decide) ?_
    exact kk_iret hm.1 hm.2.1 dX10_wordOf_127 ⟨_, rfl, rfl, rfl, rfl, rfl, rfl, h⟩
  · have h := h.2 c12
    refine kk_iconst (v := (0 : Int32)) hm.1 dX10_wordOf_15 (by decide) ?_
    refine kk_istore (L' := [(5, kw_i (0 : Int32)), (0, kw_a a0), (1, kw_i x1), (2, kw_i x2), (3, kw_i x3), (4, kw_i x4)]) hm.1 dX10_wordOf_16 (by decide) rfl ?_
    refine kk_loc (L' := [(0, kw_a a0), (1, kw_i x1), (2, kw_i x2), (3, kw_i x3), (4, kw_i x4), (5, kw_i (0 : Int32))]) [1, 2, 3, 4, 5, 0] rfl ?_
    obtain ⟨N, h⟩ := h
    exact q_X10_wordOf_18 hm  h0  hk5 N x3 x4 ((0 : Int32)) h
set_option maxHeartbeats 4000000 in
set_option maxRecDepth 100000 in
theorem q_X10_wordOf_5 {a0 : Nat} {x1 : Int32} {x2 : Int32} {T : kw_T} {n : Nat} {r : kw_R} {i : kw_I} {w : kw_L} {Q : Int32 → Prop} {E : kw_E} {G : kw_G} (hm : kw_m E G cX10_wordOf 8 RX10 (some .int) rm_X10_wordOf "wordOf")  (h0 : T a0 = (0, 10))    : ∀ (N : Nat) (x3 : Int32) (x4 : Int32), w_X10_wordOf_5 a0 x1 x2 T n r i w Q  N x3 x4 → kw_K E G 8 0 0 (kw_Z E G 0 0 (kw_PI (fun v T' n' r' i' w' => T = T' ∧ n = n' ∧ r = r' ∧ i = i' ∧ w = w' ∧ Q v))) 5 [(0, kw_a a0), (1, kw_i x1), (2, kw_i x2), (3, kw_i x3), (4, kw_i x4)] [] T n r i w := by
  intro N
  induction N with
  | zero => intro x3 x4 h; exact h.elim
  | succ N ih => intro x3 x4 h; exact qs_X10_wordOf_5 hm  h0  ih x3 x4 h
set_option maxHeartbeats 4000000 in
set_option maxRecDepth 100000 in
theorem t_X10_wordOf {l : Launch} {G : kw_G} {a0 : Nat} {x1 : Int32} {x2 : Int32} {T : kw_T} {n : Nat} {r : kw_R} {i : kw_I} {w : kw_L} {Q : Int32 → Prop} (h0 : T a0 = (0, 10)) (h : w_X10_wordOf a0 x1 x2 T n r i w Q) : kw_Met l G yX10_wordOf cX10_wordOf 8 (some .int) rm_X10_wordOf [kw_a a0, kw_i x1, kw_i x2] (T, n, r, i, w) (kw_PI (fun v T' n' r' i' w' => T = T' ∧ n = n' ∧ r = r' ∧ i = i' ∧ w = w' ∧ Q v)) := by
  refine kw_Met.of (by decide) (Nat.le_of_ble_eq_true rfl) fun E hl hRm hE hT hnm => ?_
  have hm : kw_m E G cX10_wordOf 8 RX10 (some .int) rm_X10_wordOf "wordOf" := ⟨hE, hT, hRm, hnm⟩
  subst hl
  show kw_K E G 8 0 0 (kw_Z E G 0 0 (kw_PI (fun v T' n' r' i' w' => T = T' ∧ n = n' ∧ r = r' ∧ i = i' ∧ w = w' ∧ Q v))) 0 [(0, kw_a a0), (1, kw_i x1), (2, kw_i x2)] [] T n r i w
  refine kk_iconst (v := (1 : Int32)) hm.1 dX10_wordOf_0 (by decide) ?_
  refine kk_istore_n (L' := [(3, kw_i (1 : Int32)), (0, kw_a a0), (1, kw_i x1), (2, kw_i x2)]) hm.1 dX10_wordOf_1 rfl (by decide) rfl ?_
  refine kk_iconst (v := (0 : Int32)) hm.1 dX10_wordOf_2 (by decide) ?_
  refine kk_istore (L' := [(4, kw_i (0 : Int32)), (3, kw_i (1 : Int32)), (0, kw_a a0), (1, kw_i x1), (2, kw_i x2)]) hm.1 dX10_wordOf_3 (by decide) rfl ?_
  refine kk_loc (L' := [(0, kw_a a0), (1, kw_i x1), (2, kw_i x2), (3, kw_i (1 : Int32)), (4, kw_i (0 : Int32))]) [2, 3, 4, 1, 0] rfl ?_
  obtain ⟨N, h⟩ := h
  exact q_X10_wordOf_5 hm  h0   N ((1 : Int32)) ((0 : Int32)) h
def w_X10_splits_240 (a0 : Nat) (x1 : Int32) (T : kw_T) (n : Nat) (r : kw_R) (w : kw_L) (Q : kw_I → Prop) (k7 : Int32 → kw_I → Prop) (k169 : Int32 → Int32 → Int32 → kw_I → Prop) (x3 : Int32) (x4 : Int32) (x5 : Int32) (s0 : Nat) (s1 : Int32) (s2 : Int32) (i : kw_I) : Prop :=
  kw_in T 1 s0 s1 ∧ (∀ i240 : kw_I, i240 = kw_st i s0 (s1).toNatClampNeg s2 → (k169 x3 x4 ((x5 + (1 : Int32))) i240))
def w_X10_splits_247 (a0 : Nat) (x1 : Int32) (T : kw_T) (n : Nat) (r : kw_R) (w : kw_L) (Q : kw_I → Prop) (k7 : Int32 → kw_I → Prop) (x4 : Int32) (i : kw_I) : Prop :=
  ∀ i254 : kw_I, i254 = kw_st i a0 14 ((i a0 14) + (1 : Int32)) → (k7 x4 i254)
def s_X10_splits_169 (a0 : Nat) (x1 : Int32) (T : kw_T) (n : Nat) (r : kw_R) (w : kw_L) (Q : kw_I → Prop) (k7 : Int32 → kw_I → Prop) (k169 : Int32 → Int32 → Int32 → kw_I → Prop) (x3 : Int32) (x4 : Int32) (x5 : Int32) (i : kw_I) : Prop :=
  (x4 ≤ x5 → w_X10_splits_247 a0 x1 T n r w Q k7 x4 i) ∧ (¬ x4 ≤ x5 → w_X10_isDigit x3 T n r i w (fun v177 => (v177 = 0 → w_X10_splits_247 a0 x1 T n r w Q k7 x4 i) ∧ (¬ v177 = 0 → kw_in T 1 (r a0 12) (i a0 14) ∧ (((i (r a0 12) ((i a0 14)).toNatClampNeg) ≤ (1000000 : Int32) → kw_in T 1 (r a0 12) (i a0 14) ∧ (kw_in T 2 (r a0 7) x5 ∧ (w_X10_splits_240 a0 x1 T n r w Q k7 k169 x3 x4 x5 ((r a0 12)) ((i a0 14)) (((((10 : Int32) * (i (r a0 12) ((i a0 14)).toNatClampNeg)) + (i (r a0 7) (x5).toNatClampNeg)) - (48 : Int32))) i))) ∧ (¬ (i (r a0 12) ((i a0 14)).toNatClampNeg) ≤ (1000000 : Int32) → kw_in T 1 (r a0 12) (i a0 14) ∧ (w_X10_splits_240 a0 x1 T n r w Q k7 k169 x3 x4 x5 ((r a0 12)) ((i a0 14)) ((i (r a0 12) ((i a0 14)).toNatClampNeg)) i))))))
def w_X10_splits_169 (a0 : Nat) (x1 : Int32) (T : kw_T) (n : Nat) (r : kw_R) (w : kw_L) (Q : kw_I → Prop) (k7 : Int32 → kw_I → Prop) : Nat → Int32 → Int32 → Int32 → kw_I → Prop
  | 0 => fun _ _ _ _ => False
  | N + 1 => s_X10_splits_169 a0 x1 T n r w Q k7 (w_X10_splits_169 a0 x1 T n r w Q k7 N)
def w_X10_splits_165 (a0 : Nat) (x1 : Int32) (T : kw_T) (n : Nat) (r : kw_R) (w : kw_L) (Q : kw_I → Prop) (k7 : Int32 → kw_I → Prop) (x2 : Int32) (x3 : Int32) (x4 : Int32) (s0 : Nat) (s1 : Int32) (s2 : Int32) (i : kw_I) : Prop :=
  kw_in T 1 s0 s1 ∧ (∀ i165 : kw_I, i165 = kw_st i s0 (s1).toNatClampNeg s2 → (∃ N, w_X10_splits_169 a0 x1 T n r w Q k7 N x3 x4 x2 i165))
def w_X10_splits_100 (a0 : Nat) (x1 : Int32) (T : kw_T) (n : Nat) (r : kw_R) (w : kw_L) (Q : kw_I → Prop) (k7 : Int32 → kw_I → Prop) (x2 : Int32) (x3 : Int32) (x4 : Int32) (i : kw_I) : Prop :=
  kw_in T 1 (r a0 13) (i a0 14) ∧ (∀ i109 : kw_I, i109 = kw_st i (r a0 13) ((i a0 14)).toNatClampNeg x2 → (kw_in T 1 (r a0 12) (i109 a0 14) ∧ (∀ i119 : kw_I, i119 = kw_st i109 (r a0 12) ((i109 a0 14)).toNatClampNeg (0 : Int32) → (w_X10_isSmall x3 T n r i119 w (fun v129 => (v129 = 0 → w_X10_isDigit x3 T n r i119 w (fun v146 => (v146 = 0 → w_X10_splits_165 a0 x1 T n r w Q k7 x2 x3 x4 ((r a0 11)) ((i119 a0 14)) (((100 : Int32) + (x3 &&& (255 : Int32)))) i119) ∧ (¬ v146 = 0 → w_X10_splits_165 a0 x1 T n r w Q k7 x2 x3 x4 ((r a0 11)) ((i119 a0 14)) ((50 : Int32)) i119))) ∧ (¬ v129 = 0 → w_X10_wordOf a0 x2 x4 T n r i119 w (fun v139 => w_X10_splits_165 a0 x1 T n r w Q k7 x2 x3 x4 ((r a0 11)) ((i119 a0 14)) v139 i119)))))))
def s_X10_splits_75 (a0 : Nat) (x1 : Int32) (T : kw_T) (n : Nat) (r : kw_R) (w : kw_L) (Q : kw_I → Prop) (k7 : Int32 → kw_I → Prop) (k75 : Int32 → Int32 → Int32 → kw_I → Prop) (x2 : Int32) (x3 : Int32) (x4 : Int32) (i : kw_I) : Prop :=
  (x1 ≤ x4 → w_X10_splits_100 a0 x1 T n r w Q k7 x2 x3 x4 i) ∧ (¬ x1 ≤ x4 → kw_in T 2 (r a0 7) x4 ∧ (w_X10_isDigit (i (r a0 7) (x4).toNatClampNeg) T n r i w (fun v88 => (v88 = 0 → w_X10_splits_100 a0 x1 T n r w Q k7 x2 x3 x4 i) ∧ (¬ v88 = 0 → k75 x2 x3 ((x4 + (1 : Int32))) i))))
def w_X10_splits_75 (a0 : Nat) (x1 : Int32) (T : kw_T) (n : Nat) (r : kw_R) (w : kw_L) (Q : kw_I → Prop) (k7 : Int32 → kw_I → Prop) : Nat → Int32 → Int32 → Int32 → kw_I → Prop
  | 0 => fun _ _ _ _ => False
  | N + 1 => s_X10_splits_75 a0 x1 T n r w Q k7 (w_X10_splits_75 a0 x1 T n r w Q k7 N)
def w_X10_splits_68 (a0 : Nat) (x1 : Int32) (T : kw_T) (n : Nat) (r : kw_R) (w : kw_L) (Q : kw_I → Prop) (k7 : Int32 → kw_I → Prop) (x2 : Int32) (x3 : Int32) (x4 : Int32) (i : kw_I) : Prop :=
  w_X10_isDigit x3 T n r i w (fun v69 => (v69 = 0 → w_X10_splits_100 a0 x1 T n r w Q k7 x2 x3 x4 i) ∧ (¬ v69 = 0 → ∃ N, w_X10_splits_75 a0 x1 T n r w Q k7 N x2 x3 x4 i))
def s_X10_splits_43 (a0 : Nat) (x1 : Int32) (T : kw_T) (n : Nat) (r : kw_R) (w : kw_L) (Q : kw_I → Prop) (k7 : Int32 → kw_I → Prop) (k43 : Int32 → Int32 → Int32 → kw_I → Prop) (x2 : Int32) (x3 : Int32) (x4 : Int32) (i : kw_I) : Prop :=
  (x1 ≤ x4 → w_X10_splits_68 a0 x1 T n r w Q k7 x2 x3 x4 i) ∧ (¬ x1 ≤ x4 → kw_in T 2 (r a0 7) x4 ∧ (w_X10_isSmall (i (r a0 7) (x4).toNatClampNeg) T n r i w (fun v56 => (v56 = 0 → w_X10_splits_68 a0 x1 T n r w Q k7 x2 x3 x4 i) ∧ (¬ v56 = 0 → k43 x2 x3 ((x4 + (1 : Int32))) i))))
def w_X10_splits_43 (a0 : Nat) (x1 : Int32) (T : kw_T) (n : Nat) (r : kw_R) (w : kw_L) (Q : kw_I → Prop) (k7 : Int32 → kw_I → Prop) : Nat → Int32 → Int32 → Int32 → kw_I → Prop
  | 0 => fun _ _ _ _ => False
  | N + 1 => s_X10_splits_43 a0 x1 T n r w Q k7 (w_X10_splits_43 a0 x1 T n r w Q k7 N)
def s_X10_splits_7 (a0 : Nat) (x1 : Int32) (T : kw_T) (n : Nat) (r : kw_R) (w : kw_L) (Q : kw_I → Prop)  (k7 : Int32 → kw_I → Prop) (x2 : Int32) (i : kw_I) : Prop :=
  (x1 ≤ x2 → kw_in T 1 (r a0 13) (i a0 14) ∧ (∀ i272 : kw_I, i272 = kw_st i (r a0 13) ((i a0 14)).toNatClampNeg x1 → (kw_in T 1 (r a0 11) (i272 a0 14) ∧ (∀ i282 : kw_I, i282 = kw_st i272 (r a0 11) ((i272 a0 14)).toNatClampNeg (0 : Int32) → (kw_in T 1 (r a0 12) (i282 a0 14) ∧ (∀ i292 : kw_I, i292 = kw_st i282 (r a0 12) ((i282 a0 14)).toNatClampNeg (0 : Int32) → (Q i292))))))) ∧ (¬ x1 ≤ x2 → kw_in T 2 (r a0 7) x2 ∧ ((¬ (i (r a0 7) (x2).toNatClampNeg) = (32 : Int32) → w_X10_isSmall (i (r a0 7) (x2).toNatClampNeg) T n r i w (fun v37 => (v37 = 0 → w_X10_splits_68 a0 x1 T n r w Q k7 x2 ((i (r a0 7) (x2).toNatClampNeg)) ((x2 + (1 : Int32))) i) ∧ (¬ v37 = 0 → ∃ N, w_X10_splits_43 a0 x1 T n r w Q k7 N x2 ((i (r a0 7) (x2).toNatClampNeg)) ((x2 + (1 : Int32))) i))) ∧ ((i (r a0 7) (x2).toNatClampNeg) = (32 : Int32) → k7 ((x2 + (1 : Int32))) i)))
def w_X10_splits_7 (a0 : Nat) (x1 : Int32) (T : kw_T) (n : Nat) (r : kw_R) (w : kw_L) (Q : kw_I → Prop)  : Nat → Int32 → kw_I → Prop
  | 0 => fun _ _ => False
  | N + 1 => s_X10_splits_7 a0 x1 T n r w Q  (w_X10_splits_7 a0 x1 T n r w Q  N)
def w_X10_splits  (a0 : Nat) (x1 : Int32) (T : kw_T) (n : Nat) (r : kw_R) (i : kw_I) (w : kw_L) (Q : kw_I → Prop) : Prop :=
  ∀ i2 : kw_I, i2 = kw_st i a0 14 (0 : Int32) → (∃ N, w_X10_splits_7 a0 x1 T n r w Q  N ((0 : Int32)) i2)
abbrev rm_X10_splits : Room := { frames := 2, cells := 0, slots := 0, locals := 87 }
set_option maxHeartbeats 4000000 in
set_option maxRecDepth 100000 in
theorem q_X10_splits_240 {a0 : Nat} {x1 : Int32} {T : kw_T} {n : Nat} {r : kw_R} {w : kw_L} {Q : kw_I → Prop} {E : kw_E} {G : kw_G} (hm : kw_m E G cX10_splits 6 RX10 none rm_X10_splits "splits")  (h0 : T a0 = (0, 10))  {k7 : Int32 → kw_I → Prop} {k169 : Int32 → Int32 → Int32 → kw_I → Prop} (hk7 : ∀ (x2 : Int32) (i : kw_I), k7 x2 i → kw_K E G 6 0 0 (kw_Z E G 0 0 (kw_PV (fun T' n' r' i' w' => T = T' ∧ n = n' ∧ r = r' ∧ w = w' ∧ Q i'))) 7 [(0, kw_a a0), (1, kw_i x1), (2, kw_i x2)] [] T n r i w) (hk169 : ∀ (x3 : Int32) (x4 : Int32) (x5 : Int32) (i : kw_I), k169 x3 x4 x5 i → kw_K E G 6 0 0 (kw_Z E G 0 0 (kw_PV (fun T' n' r' i' w' => T = T' ∧ n = n' ∧ r = r' ∧ w = w' ∧ Q i'))) 169 [(0, kw_a a0), (1, kw_i x1), (3, kw_i x3), (4, kw_i x4), (5, kw_i x5)] [] T n r i w) (x3 : Int32) (x4 : Int32) (x5 : Int32) (s0 : Nat) (s1 : Int32) (s2 : Int32) (i : kw_I) (h : w_X10_splits_240 a0 x1 T n r w Q k7 k169 x3 x4 x5 s0 s1 s2 i) : kw_K E G 6 0 0 (kw_Z E G 0 0 (kw_PV (fun T' n' r' i' w' => T = T' ∧ n = n' ∧ r = r' ∧ w = w' ∧ Q i'))) 240 [(0, kw_a a0), (1, kw_i x1), (3, kw_i x3), (4, kw_i x4), (5, kw_i x5)] [kw_i s2, kw_i s1, kw_a s0] T n r i w := by
  obtain ⟨o240, h⟩ := h
  refine kn_iastore hm.1 dX10_splits_240 o240 (fun i240 e240 => ?_)
  have h := h i240 e240
  refine kk_iinc (v := (x5 + (1 : Int32))) (L' := [(5, kw_i (x5 + (1 : Int32))), (0, kw_a a0), (1, kw_i x1), (3, kw_i x3), (4, kw_i x4)]) hm.1 4 dX10_splits_241 rfl rfl (by decide) rfl ?_
  refine kk_goto (tgt := 169) hm.1 dX10_splits_244 (by decide) ?_
  refine kk_loc (L' := [(0, kw_a a0), (1, kw_i x1), (3, kw_i x3), (4, kw_i x4), (5, kw_i (x5 + (1 : Int32)))]) [1, 2, 3, 4, 0] rfl ?_
  exact hk169 x3 x4 ((x5 + (1 : Int32))) i240 h
set_option maxHeartbeats 4000000 in
set_option maxRecDepth 100000 in
theorem q_X10_splits_247 {a0 : Nat} {x1 : Int32} {T : kw_T} {n : Nat} {r : kw_R} {w : kw_L} {Q : kw_I → Prop} {E : kw_E} {G : kw_G} (hm : kw_m E G cX10_splits 6 RX10 none rm_X10_splits "splits")  (h0 : T a0 = (0, 10))  {k7 : Int32 → kw_I → Prop} (hk7 : ∀ (x2 : Int32) (i : kw_I), k7 x2 i → kw_K E G 6 0 0 (kw_Z E G 0 0 (kw_PV (fun T' n' r' i' w' => T = T' ∧ n = n' ∧ r = r' ∧ w = w' ∧ Q i'))) 7 [(0, kw_a a0), (1, kw_i x1), (2, kw_i x2)] [] T n r i w) (x4 : Int32) (i : kw_I) (h : w_X10_splits_247 a0 x1 T n r w Q k7 x4 i) : kw_K E G 6 0 0 (kw_Z E G 0 0 (kw_PV (fun T' n' r' i' w' => T = T' ∧ n = n' ∧ r = r' ∧ w = w' ∧ Q i'))) 247 [(0, kw_a a0), (1, kw_i x1), (4, kw_i x4)] [] T n r i w := by
  refine kk_aload_n hm.1 0 dX10_splits_247 rfl rfl ?_
  refine kk_dup hm.1 dX10_splits_248 rfl ?_
  refine kk_getI hm.1 ff_X10_116 dX10_splits_249 h0 ?_
  refine kk_iconst (v := (1 : Int32)) hm.1 dX10_splits_252 (by decide) ?_
  refine kk_iadd hm.1 dX10_splits_253 ?_
  refine kn_putI hm.1 fp_X10_116 dX10_splits_254 h0 (fun i254 e254 => ?_)
  have h := h i254 e254
  refine kk_iload hm.1 2 dX10_splits_257 rfl ?_
  refine kk_istore_n (L' := [(2, kw_i x4), (0, kw_a a0), (1, kw_i x1), (4, kw_i x4)]) hm.1 dX10_splits_259 rfl (by decide) rfl ?_
  refine kk_goto (tgt := 7) hm.1 dX10_splits_260 (by decide) ?_
  refine kk_loc (L' := [(0, kw_a a0), (1, kw_i x1), (2, kw_i x4)]) [1, 2, 0] rfl ?_
  exact hk7 x4 i254 h
set_option maxHeartbeats 4000000 in
set_option maxRecDepth 100000 in
theorem qs_X10_splits_169 {a0 : Nat} {x1 : Int32} {T : kw_T} {n : Nat} {r : kw_R} {w : kw_L} {Q : kw_I → Prop} {E : kw_E} {G : kw_G} (hm : kw_m E G cX10_splits 6 RX10 none rm_X10_splits "splits")  (h0 : T a0 = (0, 10))  {k7 : Int32 → kw_I → Prop} (hk7 : ∀ (x2 : Int32) (i : kw_I), k7 x2 i → kw_K E G 6 0 0 (kw_Z E G 0 0 (kw_PV (fun T' n' r' i' w' => T = T' ∧ n = n' ∧ r = r' ∧ w = w' ∧ Q i'))) 7 [(0, kw_a a0), (1, kw_i x1), (2, kw_i x2)] [] T n r i w) {k169 : Int32 → Int32 → Int32 → kw_I → Prop} (hk169 : ∀ (x3 : Int32) (x4 : Int32) (x5 : Int32) (i : kw_I), k169 x3 x4 x5 i → kw_K E G 6 0 0 (kw_Z E G 0 0 (kw_PV (fun T' n' r' i' w' => T = T' ∧ n = n' ∧ r = r' ∧ w = w' ∧ Q i'))) 169 [(0, kw_a a0), (1, kw_i x1), (3, kw_i x3), (4, kw_i x4), (5, kw_i x5)] [] T n r i w) (x3 : Int32) (x4 : Int32) (x5 : Int32) (i : kw_I) (h : s_X10_splits_169 a0 x1 T n r w Q k7 k169 x3 x4 x5 i) : kw_K E G 6 0 0 (kw_Z E G 0 0 (kw_PV (fun T' n' r' i' w' => T = T' ∧ n = n' ∧ r = r' ∧ w = w' ∧ Q i'))) 169 [(0, kw_a a0), (1, kw_i x1), (3, kw_i x3), (4, kw_i x4), (5, kw_i x5)] [] T n r i w := by
  refine kk_iload hm.1 4 dX10_splits_169 rfl ?_
  refine kk_iload hm.1 3 dX10_splits_171 rfl ?_
  refine kk_icmp_ge (tgt := 247) hm.1 dX10_splits_173 (by decide) (fun c173 => ?_) (fun c173 => ?_)
  · have h := h.1 c173
    refine kk_loc (L' := [(0, kw_a a0), (1, kw_i x1), (4, kw_i x4)]) [0, 1, 3] rfl ?_
    exact q_X10_splits_247 hm  h0  hk7 x4 i h
  · have h := h.2 c173
    refine kk_iload_n hm.1 2 dX10_splits_176 rfl rfl ?_
    refine kk_callSi (cs' := 0) (sl' := 0) (st := []) hm.1 cs_X10_122 (t_X10_isDigit h) dX10_splits_177 rfl hm.2.2.1 ⟨by decide, by decide⟩ ⟨by decide, by decide⟩ rfl rfl (Nat.le_of_ble_eq_true rfl) rfl ?_
    rintro v177 _ _ _ _ _ ⟨rfl, rfl, rfl, rfl, rfl, h⟩
    refine kk_if_eq (tgt := 247) hm.1 dX10_splits_180 (by decide) (fun c180 => ?_) (fun c180 => ?_)
    · have h := h.1 c180
      refine kk_loc (L' := [(0, kw_a a0), (1, kw_i x1), (4, kw_i x4)]) [0, 1, 3] rfl ?_
      exact q_X10_splits_247 hm  h0  hk7 x4 i h
    · have h := h.2 c180
      refine kk_aload_n hm.1 0 dX10_splits_183 rfl rfl ?_
      refine kk_getR hm.1 ff_X10_43 dX10_splits_184 h0 ?_
      refine kk_aload_n hm.1 0 dX10_splits_187 rfl rfl ?_
      refine kk_getI hm.1 ff_X10_116 dX10_splits_188 h0 ?_
      refine kk_aload_n hm.1 0 dX10_splits_191 rfl rfl ?_
      refine kk_getR hm.1 ff_X10_43 dX10_splits_192 h0 ?_
      refine kk_aload_n hm.1 0 dX10_splits_195 rfl rfl ?_
      refine kk_getI hm.1 ff_X10_116 dX10_splits_196 h0 ?_
      obtain ⟨o199, h⟩ := h
      refine kk_iaload hm.1 dX10_splits_199 o199 ?_
      refine kk_ldc (v := (1000000 : Int32)) hm.1 dX10_splits_200 wc_X10_128 ?_
      refine kk_icmp_le (tgt := 217) hm.1 dX10_splits_202 (by decide) (fun c202 => ?_) (fun c202 => ?_)
      · have h := h.1 c202
        refine kk_bipush (v := (10 : Int32)) hm.1 dX10_splits_217 (by decide) ?_
        refine kk_aload_n hm.1 0 dX10_splits_219 rfl rfl ?_
        refine kk_getR hm.1 ff_X10_43 dX10_splits_220 h0 ?_
        refine kk_aload_n hm.1 0 dX10_splits_223 rfl rfl ?_
        refine kk_getI hm.1 ff_X10_116 dX10_splits_224 h0 ?_
        obtain ⟨o227, h⟩ := h
        refine kk_iaload hm.1 dX10_splits_227 o227 ?_
        refine kk_imul hm.1 dX10_splits_228 ?_
        refine kk_aload_n hm.1 0 dX10_splits_229 rfl rfl ?_
        refine kk_getR hm.1 ff_X10_31 dX10_splits_230 h0 ?_
        refine kk_iload hm.1 4 dX10_splits_233 rfl ?_
        obtain ⟨o235, h⟩ := h
        refine kk_baload hm.1 dX10_splits_235 o235 ?_
        refine kk_iadd hm.1 dX10_splits_236 ?_
        refine kk_bipush (v := (48 : Int32)) hm.1 dX10_splits_237 (by decide) ?_
        refine kk_isub hm.1 dX10_splits_239 ?_
        exact q_X10_splits_240 hm  h0  hk7 hk169 x3 x4 x5 ((r a0 12)) ((i a0 14)) (((((10 : Int32) * (i (r a0 12) ((i a0 14)).toNatClampNeg)) + (i (r a0 7) (x5).toNatClampNeg)) - (48 : Int32))) i h
      · have h := h.2 c202
        refine kk_aload_n hm.1 0 dX10_splits_205 rfl rfl ?_
        refine kk_getR hm.1 ff_X10_43 dX10_splits_206 h0 ?_
        refine kk_aload_n hm.1 0 dX10_splits_209 rfl rfl ?_
        refine kk_getI hm.1 ff_X10_116 dX10_splits_210 h0 ?_
        obtain ⟨o213, h⟩ := h
        refine kk_iaload hm.1 dX10_splits_213 o213 ?_
        refine kk_goto (tgt := 240) hm.1 dX10_splits_214 (by decide) ?_
        exact q_X10_splits_240 hm  h0  hk7 hk169 x3 x4 x5 ((r a0 12)) ((i a0 14)) ((i (r a0 12) ((i a0 14)).toNatClampNeg)) i h
set_option maxHeartbeats 4000000 in
set_option maxRecDepth 100000 in
theorem q_X10_splits_169 {a0 : Nat} {x1 : Int32} {T : kw_T} {n : Nat} {r : kw_R} {w : kw_L} {Q : kw_I → Prop} {E : kw_E} {G : kw_G} (hm : kw_m E G cX10_splits 6 RX10 none rm_X10_splits "splits")  (h0 : T a0 = (0, 10))  {k7 : Int32 → kw_I → Prop} (hk7 : ∀ (x2 : Int32) (i : kw_I), k7 x2 i → kw_K E G 6 0 0 (kw_Z E G 0 0 (kw_PV (fun T' n' r' i' w' => T = T' ∧ n = n' ∧ r = r' ∧ w = w' ∧ Q i'))) 7 [(0, kw_a a0), (1, kw_i x1), (2, kw_i x2)] [] T n r i w) : ∀ (N : Nat) (x3 : Int32) (x4 : Int32) (x5 : Int32) (i : kw_I), w_X10_splits_169 a0 x1 T n r w Q k7 N x3 x4 x5 i → kw_K E G 6 0 0 (kw_Z E G 0 0 (kw_PV (fun T' n' r' i' w' => T = T' ∧ n = n' ∧ r = r' ∧ w = w' ∧ Q i'))) 169 [(0, kw_a a0), (1, kw_i x1), (3, kw_i x3), (4, kw_i x4), (5, kw_i x5)] [] T n r i w := by
  intro N
  induction N with
  | zero => intro x3 x4 x5 i h; exact h.elim
  | succ N ih => intro x3 x4 x5 i h; exact qs_X10_splits_169 hm  h0 hk7 ih x3 x4 x5 i h
set_option maxHeartbeats 4000000 in
set_option maxRecDepth 100000 in
theorem q_X10_splits_165 {a0 : Nat} {x1 : Int32} {T : kw_T} {n : Nat} {r : kw_R} {w : kw_L} {Q : kw_I → Prop} {E : kw_E} {G : kw_G} (hm : kw_m E G cX10_splits 6 RX10 none rm_X10_splits "splits")  (h0 : T a0 = (0, 10))  {k7 : Int32 → kw_I → Prop} (hk7 : ∀ (x2 : Int32) (i : kw_I), k7 x2 i → kw_K E G 6 0 0 (kw_Z E G 0 0 (kw_PV (fun T' n' r' i' w' => T = T' ∧ n = n' ∧ r = r' ∧ w = w' ∧ Q i'))) 7 [(0, kw_a a0), (1, kw_i x1), (2, kw_i x2)] [] T n r i w) (x2 : Int32) (x3 : Int32) (x4 : Int32) (s0 : Nat) (s1 : Int32) (s2 : Int32) (i : kw_I) (h : w_X10_splits_165 a0 x1 T n r w Q k7 x2 x3 x4 s0 s1 s2 i) : kw_K E G 6 0 0 (kw_Z E G 0 0 (kw_PV (fun T' n' r' i' w' => T = T' ∧ n = n' ∧ r = r' ∧ w = w' ∧ Q i'))) 165 [(0, kw_a a0), (1, kw_i x1), (2, kw_i x2), (3, kw_i x3), (4, kw_i x4)] [kw_i s2, kw_i s1, kw_a s0] T n r i w := by
  obtain ⟨o165, h⟩ := h
  refine kn_iastore hm.1 dX10_splits_165 o165 (fun i165 e165 => ?_)
  have h := h i165 e165
  refine kk_iload_n hm.1 2 dX10_splits_166 rfl rfl ?_
  refine kk_istore (L' := [(5, kw_i x2), (0, kw_a a0), (1, kw_i x1), (2, kw_i x2), (3, kw_i x3), (4, kw_i x4)]) hm.1 dX10_splits_167 (by decide) rfl ?_
  refine kk_loc (L' := [(0, kw_a a0), (1, kw_i x1), (3, kw_i x3), (4, kw_i x4), (5, kw_i x2)]) [1, 2, 4, 5, 0] rfl ?_
  obtain ⟨N, h⟩ := h
  exact q_X10_splits_169 hm  h0  hk7 N x3 x4 x2 i165 h
set_option maxHeartbeats 4000000 in
set_option maxRecDepth 100000 in
theorem q_X10_splits_100 {a0 : Nat} {x1 : Int32} {T : kw_T} {n : Nat} {r : kw_R} {w : kw_L} {Q : kw_I → Prop} {E : kw_E} {G : kw_G} (hm : kw_m E G cX10_splits 6 RX10 none rm_X10_splits "splits")  (h0 : T a0 = (0, 10))  {k7 : Int32 → kw_I → Prop} (hk7 : ∀ (x2 : Int32) (i : kw_I), k7 x2 i → kw_K E G 6 0 0 (kw_Z E G 0 0 (kw_PV (fun T' n' r' i' w' => T = T' ∧ n = n' ∧ r = r' ∧ w = w' ∧ Q i'))) 7 [(0, kw_a a0), (1, kw_i x1), (2, kw_i x2)] [] T n r i w) (x2 : Int32) (x3 : Int32) (x4 : Int32) (i : kw_I) (h : w_X10_splits_100 a0 x1 T n r w Q k7 x2 x3 x4 i) : kw_K E G 6 0 0 (kw_Z E G 0 0 (kw_PV (fun T' n' r' i' w' => T = T' ∧ n = n' ∧ r = r' ∧ w = w' ∧ Q i'))) 100 [(0, kw_a a0), (1, kw_i x1), (2, kw_i x2), (3, kw_i x3), (4, kw_i x4)] [] T n r i w := by
  refine kk_aload_n hm.1 0 dX10_splits_100 rfl rfl ?_
  refine kk_getR hm.1 ff_X10_46 dX10_splits_101 h0 ?_
  refine kk_aload_n hm.1 0 dX10_splits_104 rfl rfl ?_
  refine kk_getI hm.1 ff_X10_116 dX10_splits_105 h0 ?_
  refine kk_iload_n hm.1 2 dX10_splits_108 rfl rfl ?_
  obtain ⟨o109, h⟩ := h
  refine kn_iastore hm.1 dX10_splits_109 o109 (fun i109 e109 => ?_)
  have h := h i109 e109
  refine kk_aload_n hm.1 0 dX10_splits_110 rfl rfl ?_
  refine kk_getR hm.1 ff_X10_43 dX10_splits_111 h0 ?_
  refine kk_aload_n hm.1 0 dX10_splits_114 rfl rfl ?_
  refine kk_getI hm.1 ff_X10_116 dX10_splits_115 h0 ?_
  refine kk_iconst (v := (0 : Int32)) hm.1 dX10_splits_118 (by decide) ?_
  obtain ⟨o119, h⟩ := h
  refine kn_iastore hm.1 dX10_splits_119 o119 (fun i119 e119 => ?_)
  have h := h i119 e119
  refine kk_aload_n hm.1 0 dX10_splits_120 rfl rfl ?_
  refine kk_getR hm.1 ff_X10_40 dX10_splits_121 h0 ?_
  refine kk_aload_n hm.1 0 dX10_splits_124 rfl rfl ?_
  refine kk_getI hm.1 ff_X10_116 dX10_splits_125 h0 ?_
  refine kk_iload_n hm.1 3 dX10_splits_128 rfl rfl ?_
  refine kk_callSi (cs' := 0) (sl' := 0) (st := [kw_i (i119 a0 14), kw_a (r a0 11)]) hm.1 cs_X10_119 (t_X10_isSmall h) dX10_splits_129 rfl hm.2.2.1 ⟨by decide, by decide⟩ ⟨by decide, by decide⟩ rfl rfl (Nat.le_of_ble_eq_true rfl) rfl ?_
  rintro v129 _ _ _ _ _ ⟨rfl, rfl, rfl, rfl, rfl, h⟩
  refine kk_if_eq (tgt := 145) hm.1 dX10_splits_132 (by decide) (fun c132 => ?_) (fun c132 => ?_)
  · have h := h.1 c132
    refine kk_iload_n hm.1 3 dX10_splits_145 rfl rfl ?_
    refine kk_callSi (cs' := 0) (sl' := 0) (st := [kw_i (i119 a0 14), kw_a (r a0 11)]) hm.1 cs_X10_122 (t_X10_isDigit h) dX10_splits_146 rfl hm.2.2.1 ⟨by decide, by decide⟩ ⟨by decide, by decide⟩ rfl rfl (Nat.le_of_ble_eq_true rfl) rfl ?_
    rintro v146 _ _ _ _ _ ⟨rfl, rfl, rfl, rfl, rfl, h⟩
    refine kk_if_eq (tgt := 157) hm.1 dX10_splits_149 (by decide) (fun c149 => ?_) (fun c149 => ?_)
    · have h := h.1 c149
      refine kk_bipush (v := (100 : Int32)) hm.1 dX10_splits_157 (by decide) ?_
      refine kk_iload_n hm.1 3 dX10_splits_159 rfl rfl ?_
      refine kk_sipush (v := (255 : Int32)) hm.1 dX10_splits_160 (by decide) ?_
      refine kk_iand hm.1 dX10_splits_163 ?_
      refine kk_iadd hm.1 dX10_splits_164 ?_
      exact q_X10_splits_165 hm  h0  hk7 x2 x3 x4 ((r a0 11)) ((i119 a0 14)) (((100 : Int32) + (x3 &&& (255 : Int32)))) i119 h
    · have h := h.2 c149
      refine kk_bipush (v := (50 : Int32)) hm.1 dX10_splits_152 (by decide) ?_
      refine kk_goto (tgt := 165) hm.1 dX10_splits_154 (by decide) ?_
      exact q_X10_splits_165 hm  h0  hk7 x2 x3 x4 ((r a0 11)) ((i119 a0 14)) ((50 : Int32)) i119 h
  · have h := h.2 c132
    refine kk_aload_n hm.1 0 dX10_splits_135 rfl rfl ?_
    refine kk_iload_n hm.1 2 dX10_splits_136 rfl rfl ?_
    refine kk_iload hm.1 4 dX10_splits_137 rfl ?_
    refine kk_callVi (cs' := 0) (sl' := 0) (st := [kw_i (i119 a0 14), kw_a (r a0 11)]) hm.1 cv_X10_125 (t_X10_wordOf h0 h) dX10_splits_139 h0 rfl rfl hm.2.2.1 ⟨by decide, by decide⟩ ⟨by decide, by decide⟩ rfl rfl (Nat.le_of_ble_eq_true rfl) rfl ?_
    rintro v139 _ _ _ _ _ ⟨rfl, rfl, rfl, rfl, rfl, h⟩
    refine kk_goto (tgt := 165) hm.1 dX10_splits_142 (by decide) ?_
    exact q_X10_splits_165 hm  h0  hk7 x2 x3 x4 ((r a0 11)) ((i119 a0 14)) v139 i119 h
set_option maxHeartbeats 4000000 in
set_option maxRecDepth 100000 in
theorem qs_X10_splits_75 {a0 : Nat} {x1 : Int32} {T : kw_T} {n : Nat} {r : kw_R} {w : kw_L} {Q : kw_I → Prop} {E : kw_E} {G : kw_G} (hm : kw_m E G cX10_splits 6 RX10 none rm_X10_splits "splits")  (h0 : T a0 = (0, 10))  {k7 : Int32 → kw_I → Prop} (hk7 : ∀ (x2 : Int32) (i : kw_I), k7 x2 i → kw_K E G 6 0 0 (kw_Z E G 0 0 (kw_PV (fun T' n' r' i' w' => T = T' ∧ n = n' ∧ r = r' ∧ w = w' ∧ Q i'))) 7 [(0, kw_a a0), (1, kw_i x1), (2, kw_i x2)] [] T n r i w) {k75 : Int32 → Int32 → Int32 → kw_I → Prop} (hk75 : ∀ (x2 : Int32) (x3 : Int32) (x4 : Int32) (i : kw_I), k75 x2 x3 x4 i → kw_K E G 6 0 0 (kw_Z E G 0 0 (kw_PV (fun T' n' r' i' w' => T = T' ∧ n = n' ∧ r = r' ∧ w = w' ∧ Q i'))) 75 [(0, kw_a a0), (1, kw_i x1), (2, kw_i x2), (3, kw_i x3), (4, kw_i x4)] [] T n r i w) (x2 : Int32) (x3 : Int32) (x4 : Int32) (i : kw_I) (h : s_X10_splits_75 a0 x1 T n r w Q k7 k75 x2 x3 x4 i) : kw_K E G 6 0 0 (kw_Z E G 0 0 (kw_PV (fun T' n' r' i' w' => T = T' ∧ n = n' ∧ r = r' ∧ w = w' ∧ Q i'))) 75 [(0, kw_a a0), (1, kw_i x1), (2, kw_i x2), (3, kw_i x3), (4, kw_i x4)] [] T n r i w := by
  refine kk_iload hm.1 4 dX10_splits_75 rfl ?_
  refine kk_iload_n hm.1 1 dX10_splits_77 rfl rfl ?_
  refine kk_icmp_ge (tgt := 100) hm.1 dX10_splits_78 (by decide) (fun c78 => ?_) (fun c78 => ?_)
  · have h := h.1 c78
    exact q_X10_splits_100 hm  h0  hk7 x2 x3 x4 i h
  · have h := h.2 c78
    refine kk_aload_n hm.1 0 dX10_splits_81 rfl rfl ?_
    refine kk_getR hm.1 ff_X10_31 dX10_splits_82 h0 ?_
    refine kk_iload hm.1 4 dX10_splits_85 rfl ?_
    obtain ⟨o87, h⟩ := h
    refine kk_baload hm.1 dX10_splits_87 o87 ?_
    refine kk_callSi (cs' := 0) (sl' := 0) (st := []) hm.1 cs_X10_122 (t_X10_isDigit h) dX10_splits_88 rfl hm.2.2.1 ⟨by decide, by decide⟩ ⟨by decide, by decide⟩ rfl rfl (Nat.le_of_ble_eq_true rfl) rfl ?_
    rintro v88 _ _ _ _ _ ⟨rfl, rfl, rfl, rfl, rfl, h⟩
    refine kk_if_eq (tgt := 100) hm.1 dX10_splits_91 (by decide) (fun c91 => ?_) (fun c91 => ?_)
    · have h := h.1 c91
      exact q_X10_splits_100 hm  h0  hk7 x2 x3 x4 i h
    · have h := h.2 c91
      refine kk_iinc (v := (x4 + (1 : Int32))) (L' := [(4, kw_i (x4 + (1 : Int32))), (0, kw_a a0), (1, kw_i x1), (2, kw_i x2), (3, kw_i x3)]) hm.1 4 dX10_splits_94 rfl rfl (by decide) rfl ?_
      refine kk_goto (tgt := 75) hm.1 dX10_splits_97 (by decide) ?_
      refine kk_loc (L' := [(0, kw_a a0), (1, kw_i x1), (2, kw_i x2), (3, kw_i x3), (4, kw_i (x4 + (1 : Int32)))]) [1, 2, 3, 4, 0] rfl ?_
      exact hk75 x2 x3 ((x4 + (1 : Int32))) i h
set_option maxHeartbeats 4000000 in
set_option maxRecDepth 100000 in
theorem q_X10_splits_75 {a0 : Nat} {x1 : Int32} {T : kw_T} {n : Nat} {r : kw_R} {w : kw_L} {Q : kw_I → Prop} {E : kw_E} {G : kw_G} (hm : kw_m E G cX10_splits 6 RX10 none rm_X10_splits "splits")  (h0 : T a0 = (0, 10))  {k7 : Int32 → kw_I → Prop} (hk7 : ∀ (x2 : Int32) (i : kw_I), k7 x2 i → kw_K E G 6 0 0 (kw_Z E G 0 0 (kw_PV (fun T' n' r' i' w' => T = T' ∧ n = n' ∧ r = r' ∧ w = w' ∧ Q i'))) 7 [(0, kw_a a0), (1, kw_i x1), (2, kw_i x2)] [] T n r i w) : ∀ (N : Nat) (x2 : Int32) (x3 : Int32) (x4 : Int32) (i : kw_I), w_X10_splits_75 a0 x1 T n r w Q k7 N x2 x3 x4 i → kw_K E G 6 0 0 (kw_Z E G 0 0 (kw_PV (fun T' n' r' i' w' => T = T' ∧ n = n' ∧ r = r' ∧ w = w' ∧ Q i'))) 75 [(0, kw_a a0), (1, kw_i x1), (2, kw_i x2), (3, kw_i x3), (4, kw_i x4)] [] T n r i w := by
  intro N
  induction N with
  | zero => intro x2 x3 x4 i h; exact h.elim
  | succ N ih => intro x2 x3 x4 i h; exact qs_X10_splits_75 hm  h0 hk7 ih x2 x3 x4 i h
set_option maxHeartbeats 4000000 in
set_option maxRecDepth 100000 in
theorem q_X10_splits_68 {a0 : Nat} {x1 : Int32} {T : kw_T} {n : Nat} {r : kw_R} {w : kw_L} {Q : kw_I → Prop} {E : kw_E} {G : kw_G} (hm : kw_m E G cX10_splits 6 RX10 none rm_X10_splits "splits")  (h0 : T a0 = (0, 10))  {k7 : Int32 → kw_I → Prop} (hk7 : ∀ (x2 : Int32) (i : kw_I), k7 x2 i → kw_K E G 6 0 0 (kw_Z E G 0 0 (kw_PV (fun T' n' r' i' w' => T = T' ∧ n = n' ∧ r = r' ∧ w = w' ∧ Q i'))) 7 [(0, kw_a a0), (1, kw_i x1), (2, kw_i x2)] [] T n r i w) (x2 : Int32) (x3 : Int32) (x4 : Int32) (i : kw_I) (h : w_X10_splits_68 a0 x1 T n r w Q k7 x2 x3 x4 i) : kw_K E G 6 0 0 (kw_Z E G 0 0 (kw_PV (fun T' n' r' i' w' => T = T' ∧ n = n' ∧ r = r' ∧ w = w' ∧ Q i'))) 68 [(0, kw_a a0), (1, kw_i x1), (2, kw_i x2), (3, kw_i x3), (4, kw_i x4)] [] T n r i w := by
  refine kk_iload_n hm.1 3 dX10_splits_68 rfl rfl ?_
  refine kk_callSi (cs' := 0) (sl' := 0) (st := []) hm.1 cs_X10_122 (t_X10_isDigit h) dX10_splits_69 rfl hm.2.2.1 ⟨by decide, by decide⟩ ⟨by decide, by decide⟩ rfl rfl (Nat.le_of_ble_eq_true rfl) rfl ?_
  rintro v69 _ _ _ _ _ ⟨rfl, rfl, rfl, rfl, rfl, h⟩
  refine kk_if_eq (tgt := 100) hm.1 dX10_splits_72 (by decide) (fun c72 => ?_) (fun c72 => ?_)
  · have h := h.1 c72
    exact q_X10_splits_100 hm  h0  hk7 x2 x3 x4 i h
  · have h := h.2 c72
    obtain ⟨N, h⟩ := h
    exact q_X10_splits_75 hm  h0  hk7 N x2 x3 x4 i h
set_option maxHeartbeats 4000000 in
set_option maxRecDepth 100000 in
theorem qs_X10_splits_43 {a0 : Nat} {x1 : Int32} {T : kw_T} {n : Nat} {r : kw_R} {w : kw_L} {Q : kw_I → Prop} {E : kw_E} {G : kw_G} (hm : kw_m E G cX10_splits 6 RX10 none rm_X10_splits "splits")  (h0 : T a0 = (0, 10))  {k7 : Int32 → kw_I → Prop} (hk7 : ∀ (x2 : Int32) (i : kw_I), k7 x2 i → kw_K E G 6 0 0 (kw_Z E G 0 0 (kw_PV (fun T' n' r' i' w' => T = T' ∧ n = n' ∧ r = r' ∧ w = w' ∧ Q i'))) 7 [(0, kw_a a0), (1, kw_i x1), (2, kw_i x2)] [] T n r i w) {k43 : Int32 → Int32 → Int32 → kw_I → Prop} (hk43 : ∀ (x2 : Int32) (x3 : Int32) (x4 : Int32) (i : kw_I), k43 x2 x3 x4 i → kw_K E G 6 0 0 (kw_Z E G 0 0 (kw_PV (fun T' n' r' i' w' => T = T' ∧ n = n' ∧ r = r' ∧ w = w' ∧ Q i'))) 43 [(0, kw_a a0), (1, kw_i x1), (2, kw_i x2), (3, kw_i x3), (4, kw_i x4)] [] T n r i w) (x2 : Int32) (x3 : Int32) (x4 : Int32) (i : kw_I) (h : s_X10_splits_43 a0 x1 T n r w Q k7 k43 x2 x3 x4 i) : kw_K E G 6 0 0 (kw_Z E G 0 0 (kw_PV (fun T' n' r' i' w' => T = T' ∧ n = n' ∧ r = r' ∧ w = w' ∧ Q i'))) 43 [(0, kw_a a0), (1, kw_i x1), (2, kw_i x2), (3, kw_i x3), (4, kw_i x4)] [] T n r i w := by
  refine kk_iload hm.1 4 dX10_splits_43 rfl ?_
  refine kk_iload_n hm.1 1 dX10_splits_45 rfl rfl ?_
  refine kk_icmp_ge (tgt := 68) hm.1 dX10_splits_46 (by decide) (fun c46 => ?_) (fun c46 => ?_)
  · have h := h.1 c46
    exact q_X10_splits_68 hm  h0  hk7 x2 x3 x4 i h
  · have h := h.2 c46
    refine kk_aload_n hm.1 0 dX10_splits_49 rfl rfl ?_
    refine kk_getR hm.1 ff_X10_31 dX10_splits_50 h0 ?_
    refine kk_iload hm.1 4 dX10_splits_53 rfl ?_
    obtain ⟨o55, h⟩ := h
    refine kk_baload hm.1 dX10_splits_55 o55 ?_
    refine kk_callSi (cs' := 0) (sl' := 0) (st := []) hm.1 cs_X10_119 (t_X10_isSmall h) dX10_splits_56 rfl hm.2.2.1 ⟨by decide, by decide⟩ ⟨by decide, by decide⟩ rfl rfl (Nat.le_of_ble_eq_true rfl) rfl ?_
    rintro v56 _ _ _ _ _ ⟨rfl, rfl, rfl, rfl, rfl, h⟩
    refine kk_if_eq (tgt := 68) hm.1 dX10_splits_59 (by decide) (fun c59 => ?_) (fun c59 => ?_)
    · have h := h.1 c59
      exact q_X10_splits_68 hm  h0  hk7 x2 x3 x4 i h
    · have h := h.2 c59
      refine kk_iinc (v := (x4 + (1 : Int32))) (L' := [(4, kw_i (x4 + (1 : Int32))), (0, kw_a a0), (1, kw_i x1), (2, kw_i x2), (3, kw_i x3)]) hm.1 4 dX10_splits_62 rfl rfl (by decide) rfl ?_
      refine kk_goto (tgt := 43) hm.1 dX10_splits_65 (by decide) ?_
      refine kk_loc (L' := [(0, kw_a a0), (1, kw_i x1), (2, kw_i x2), (3, kw_i x3), (4, kw_i (x4 + (1 : Int32)))]) [1, 2, 3, 4, 0] rfl ?_
      exact hk43 x2 x3 ((x4 + (1 : Int32))) i h
set_option maxHeartbeats 4000000 in
set_option maxRecDepth 100000 in
theorem q_X10_splits_43 {a0 : Nat} {x1 : Int32} {T : kw_T} {n : Nat} {r : kw_R} {w : kw_L} {Q : kw_I → Prop} {E : kw_E} {G : kw_G} (hm : kw_m E G cX10_splits 6 RX10 none rm_X10_splits "splits")  (h0 : T a0 = (0, 10))  {k7 : Int32 → kw_I → Prop} (hk7 : ∀ (x2 : Int32) (i : kw_I), k7 x2 i → kw_K E G 6 0 0 (kw_Z E G 0 0 (kw_PV (fun T' n' r' i' w' => T = T' ∧ n = n' ∧ r = r' ∧ w = w' ∧ Q i'))) 7 [(0, kw_a a0), (1, kw_i x1), (2, kw_i x2)] [] T n r i w) : ∀ (N : Nat) (x2 : Int32) (x3 : Int32) (x4 : Int32) (i : kw_I), w_X10_splits_43 a0 x1 T n r w Q k7 N x2 x3 x4 i → kw_K E G 6 0 0 (kw_Z E G 0 0 (kw_PV (fun T' n' r' i' w' => T = T' ∧ n = n' ∧ r = r' ∧ w = w' ∧ Q i'))) 43 [(0, kw_a a0), (1, kw_i x1), (2, kw_i x2), (3, kw_i x3), (4, kw_i x4)] [] T n r i w := by
  intro N
  induction N with
  | zero => intro x2 x3 x4 i h; exact h.elim
  | succ N ih => intro x2 x3 x4 i h; exact qs_X10_splits_43 hm  h0 hk7 ih x2 x3 x4 i h
set_option maxHeartbeats 4000000 in
set_option maxRecDepth 100000 in
theorem qs_X10_splits_7 {a0 : Nat} {x1 : Int32} {T : kw_T} {n : Nat} {r : kw_R} {w : kw_L} {Q : kw_I → Prop} {E : kw_E} {G : kw_G} (hm : kw_m E G cX10_splits 6 RX10 none rm_X10_splits "splits")  (h0 : T a0 = (0, 10))    {k7 : Int32 → kw_I → Prop} (hk7 : ∀ (x2 : Int32) (i : kw_I), k7 x2 i → kw_K E G 6 0 0 (kw_Z E G 0 0 (kw_PV (fun T' n' r' i' w' => T = T' ∧ n = n' ∧ r = r' ∧ w = w' ∧ Q i'))) 7 [(0, kw_a a0), (1, kw_i x1), (2, kw_i x2)] [] T n r i w) (x2 : Int32) (i : kw_I) (h : s_X10_splits_7 a0 x1 T n r w Q  k7 x2 i) : kw_K E G 6 0 0 (kw_Z E G 0 0 (kw_PV (fun T' n' r' i' w' => T = T' ∧ n = n' ∧ r = r' ∧ w = w' ∧ Q i'))) 7 [(0, kw_a a0), (1, kw_i x1), (2, kw_i x2)] [] T n r i w := by
  refine kk_iload_n hm.1 2 dX10_splits_7 rfl rfl ?_
  refine kk_iload_n hm.1 1 dX10_splits_8 rfl rfl ?_
  refine kk_icmp_ge (tgt := 263) hm.1 dX10_splits_9 (by decide) (fun c9 => ?_) (fun c9 => ?_)
  · have h := h.1 c9
    refine kk_aload_n hm.1 0 dX10_splits_263 rfl rfl ?_
    refine kk_getR hm.1 ff_X10_46 dX10_splits_264 h0 ?_
    refine kk_aload_n hm.1 0 dX10_splits_267 rfl rfl ?_
    refine kk_getI hm.1 ff_X10_116 dX10_splits_268 h0 ?_
    refine kk_iload_n hm.1 1 dX10_splits_271 rfl rfl ?_
    obtain ⟨o272, h⟩ := h
    refine kn_iastore hm.1 dX10_splits_272 o272 (fun i272 e272 => ?_)
    have h := h i272 e272
    refine kk_aload_n hm.1 0 dX10_splits_273 rfl rfl ?_
    refine kk_getR hm.1 ff_X10_40 dX10_splits_274 h0 ?_
    refine kk_aload_n hm.1 0 dX10_splits_277 rfl rfl ?_
    refine kk_getI hm.1 ff_X10_116 dX10_splits_278 h0 ?_
    refine kk_iconst (v := (0 : Int32)) hm.1 dX10_splits_281 (by decide) ?_
    obtain ⟨o282, h⟩ := h
    refine kn_iastore hm.1 dX10_splits_282 o282 (fun i282 e282 => ?_)
    have h := h i282 e282
    refine kk_aload_n hm.1 0 dX10_splits_283 rfl rfl ?_
    refine kk_getR hm.1 ff_X10_43 dX10_splits_284 h0 ?_
    refine kk_aload_n hm.1 0 dX10_splits_287 rfl rfl ?_
    refine kk_getI hm.1 ff_X10_116 dX10_splits_288 h0 ?_
    refine kk_iconst (v := (0 : Int32)) hm.1 dX10_splits_291 (by decide) ?_
    obtain ⟨o292, h⟩ := h
    refine kn_iastore hm.1 dX10_splits_292 o292 (fun i292 e292 => ?_)
    have h := h i292 e292
    exact kk_vret hm.1 hm.2.1 dX10_splits_293 ⟨rfl, rfl, rfl, rfl, rfl, h⟩
  · have h := h.2 c9
    refine kk_aload_n hm.1 0 dX10_splits_12 rfl rfl ?_
    refine kk_getR hm.1 ff_X10_31 dX10_splits_13 h0 ?_
    refine kk_iload_n hm.1 2 dX10_splits_16 rfl rfl ?_
    obtain ⟨o17, h⟩ := h
    refine kk_baload hm.1 dX10_splits_17 o17 ?_
    refine kk_istore_n (L' := [(3, kw_i (i (r a0 7) (x2).toNatClampNeg)), (0, kw_a a0), (1, kw_i x1), (2, kw_i x2)]) hm.1 dX10_splits_18 rfl (by decide) rfl ?_
    refine kk_iload_n hm.1 0 dX10_splits_19 rfl rfl ?_
    refine kk_bipush (v := (32 : Int32)) hm.1 dX10_splits_20 (by decide) ?_
    refine kk_icmp_ne (tgt := 31) hm.1 dX10_splits_22 (by decide) (fun c22 => ?_) (fun c22 => ?_)
    · have h := h.1 c22
      refine kk_iload_n hm.1 3 dX10_splits_31 rfl rfl ?_
      refine kk_iconst (v := (1 : Int32)) hm.1 dX10_splits_32 (by decide) ?_
      refine kk_iadd hm.1 dX10_splits_33 ?_
      refine kk_istore (L' := [(4, kw_i (x2 + (1 : Int32))), (3, kw_i (i (r a0 7) (x2).toNatClampNeg)), (0, kw_a a0), (1, kw_i x1), (2, kw_i x2)]) hm.1 dX10_splits_34 (by decide) rfl ?_
      refine kk_iload_n hm.1 1 dX10_splits_36 rfl rfl ?_
      refine kk_callSi (cs' := 0) (sl' := 0) (st := []) hm.1 cs_X10_119 (t_X10_isSmall h) dX10_splits_37 rfl hm.2.2.1 ⟨by decide, by decide⟩ ⟨by decide, by decide⟩ rfl rfl (Nat.le_of_ble_eq_true rfl) rfl ?_
      rintro v37 _ _ _ _ _ ⟨rfl, rfl, rfl, rfl, rfl, h⟩
      refine kk_if_eq (tgt := 68) hm.1 dX10_splits_40 (by decide) (fun c40 => ?_) (fun c40 => ?_)
      · have h := h.1 c40
        refine kk_loc (L' := [(0, kw_a a0), (1, kw_i x1), (2, kw_i x2), (3, kw_i (i (r a0 7) (x2).toNatClampNeg)), (4, kw_i (x2 + (1 : Int32)))]) [2, 3, 4, 1, 0] rfl ?_
        exact q_X10_splits_68 hm  h0  hk7 x2 ((i (r a0 7) (x2).toNatClampNeg)) ((x2 + (1 : Int32))) i h
      · have h := h.2 c40
        refine kk_loc (L' := [(0, kw_a a0), (1, kw_i x1), (2, kw_i x2), (3, kw_i (i (r a0 7) (x2).toNatClampNeg)), (4, kw_i (x2 + (1 : Int32)))]) [2, 3, 4, 1, 0] rfl ?_
        obtain ⟨N, h⟩ := h
        exact q_X10_splits_43 hm  h0  hk7 N x2 ((i (r a0 7) (x2).toNatClampNeg)) ((x2 + (1 : Int32))) i h
    · have h := h.2 c22
      refine kk_iinc (v := (x2 + (1 : Int32))) (L' := [(2, kw_i (x2 + (1 : Int32))), (3, kw_i (i (r a0 7) (x2).toNatClampNeg)), (0, kw_a a0), (1, kw_i x1)]) hm.1 3 dX10_splits_25 rfl rfl (by decide) rfl ?_
      refine kk_goto (tgt := 7) hm.1 dX10_splits_28 (by decide) ?_
      refine kk_loc (L' := [(0, kw_a a0), (1, kw_i x1), (2, kw_i (x2 + (1 : Int32)))]) [2, 3, 0] rfl ?_
      exact hk7 ((x2 + (1 : Int32))) i h
set_option maxHeartbeats 4000000 in
set_option maxRecDepth 100000 in
theorem q_X10_splits_7 {a0 : Nat} {x1 : Int32} {T : kw_T} {n : Nat} {r : kw_R} {w : kw_L} {Q : kw_I → Prop} {E : kw_E} {G : kw_G} (hm : kw_m E G cX10_splits 6 RX10 none rm_X10_splits "splits")  (h0 : T a0 = (0, 10))    : ∀ (N : Nat) (x2 : Int32) (i : kw_I), w_X10_splits_7 a0 x1 T n r w Q  N x2 i → kw_K E G 6 0 0 (kw_Z E G 0 0 (kw_PV (fun T' n' r' i' w' => T = T' ∧ n = n' ∧ r = r' ∧ w = w' ∧ Q i'))) 7 [(0, kw_a a0), (1, kw_i x1), (2, kw_i x2)] [] T n r i w := by
  intro N
  induction N with
  | zero => intro x2 i h; exact h.elim
  | succ N ih => intro x2 i h; exact qs_X10_splits_7 hm  h0  ih x2 i h
set_option maxHeartbeats 4000000 in
set_option maxRecDepth 100000 in
theorem t_X10_splits {l : Launch} {G : kw_G} {a0 : Nat} {x1 : Int32} {T : kw_T} {n : Nat} {r : kw_R} {i : kw_I} {w : kw_L} {Q : kw_I → Prop} (h0 : T a0 = (0, 10)) (h : w_X10_splits a0 x1 T n r i w Q) : kw_Met l G yX10_splits cX10_splits 6 none rm_X10_splits [kw_a a0, kw_i x1] (T, n, r, i, w) (kw_PV (fun T' n' r' i' w' => T = T' ∧ n = n' ∧ r = r' ∧ w = w' ∧ Q i')) := by
  refine kw_Met.of (by decide) (Nat.le_of_ble_eq_true rfl) fun E hl hRm hE hT hnm => ?_
  have hm : kw_m E G cX10_splits 6 RX10 none rm_X10_splits "splits" := ⟨hE, hT, hRm, hnm⟩
  subst hl
  show kw_K E G 6 0 0 (kw_Z E G 0 0 (kw_PV (fun T' n' r' i' w' => T = T' ∧ n = n' ∧ r = r' ∧ w = w' ∧ Q i'))) 0 [(0, kw_a a0), (1, kw_i x1)] [] T n r i w
  refine kk_aload_n hm.1 0 dX10_splits_0 rfl rfl ?_
  refine kk_iconst (v := (0 : Int32)) hm.1 dX10_splits_1 (by decide) ?_
  refine kn_putI hm.1 fp_X10_116 dX10_splits_2 h0 (fun i2 e2 => ?_)
  have h := h i2 e2
  refine kk_iconst (v := (0 : Int32)) hm.1 dX10_splits_5 (by decide) ?_
  refine kk_istore_n (L' := [(2, kw_i (0 : Int32)), (0, kw_a a0), (1, kw_i x1)]) hm.1 dX10_splits_6 rfl (by decide) rfl ?_
  refine kk_loc (L' := [(0, kw_a a0), (1, kw_i x1), (2, kw_i (0 : Int32))]) [1, 2, 0] rfl ?_
  obtain ⟨N, h⟩ := h
  exact q_X10_splits_7 hm  h0   N ((0 : Int32)) i2 h
def w_X10_fine  (a0 : Nat) (T : kw_T) (n : Nat) (r : kw_R) (i : kw_I) (w : kw_L) (Q : Int32 → Prop) : Prop :=
  (¬ (i a0 17) = (-1 : Int32) → Q (0 : Int32)) ∧ ((i a0 17) = (-1 : Int32) → Q (1 : Int32))
abbrev rm_X10_fine : Room := { frames := 1, cells := 0, slots := 0, locals := 60 }
set_option maxHeartbeats 4000000 in
set_option maxRecDepth 100000 in
theorem t_X10_fine {l : Launch} {G : kw_G} {a0 : Nat} {T : kw_T} {n : Nat} {r : kw_R} {i : kw_I} {w : kw_L} {Q : Int32 → Prop} (h0 : T a0 = (0, 10)) (h : w_X10_fine a0 T n r i w Q) : kw_Met l G yX10_fine cX10_fine 1 (some .boolean) rm_X10_fine [kw_a a0] (T, n, r, i, w) (kw_PI (fun v T' n' r' i' w' => T = T' ∧ n = n' ∧ r = r' ∧ i = i' ∧ w = w' ∧ Q v)) := by
  refine kw_Met.of (by decide) (Nat.le_of_ble_eq_true rfl) fun E hl hRm hE hT hnm => ?_
  have hm : kw_m E G cX10_fine 1 RX10 (some .boolean) rm_X10_fine "fine" := ⟨hE, hT, hRm, hnm⟩
  subst hl
  show kw_K E G 1 0 0 (kw_Z E G 0 0 (kw_PI (fun v T' n' r' i' w' => T = T' ∧ n = n' ∧ r = r' ∧ i = i' ∧ w = w' ∧ Q v))) 0 [(0, kw_a a0)] [] T n r i w
  refine kk_aload_n hm.1 0 dX10_fine_0 rfl rfl ?_
  refine kk_getI hm.1 ff_X10_129 dX10_fine_1 h0 ?_
  refine kk_iconst (v := (-1 : Int32)) hm.1 dX10_fine_4 (by decide) ?_
  refine kk_icmp_ne (tgt := 12) hm.1 dX10_fine_5 (by decide) (fun c5 => ?_) (fun c5 => ?_)
  · have h := h.1 c5
    refine kk_iconst (v := (0 : Int32)) hm.1 dX10_fine_12 (by decide) ?_
    exact kk_zret hm.1 hm.2.1 dX10_fine_13 (Or.inl rfl) ⟨_, rfl, rfl, rfl, rfl, rfl, rfl, h⟩
  · have h := h.2 c5
    refine kk_iconst (v := (1 : Int32)) hm.1 dX10_fine_8 (by decide) ?_
    refine kk_goto (tgt := 13) hm.1 dX10_fine_9 (by decide) ?_
    exact kk_zret hm.1 hm.2.1 dX10_fine_13 (Or.inr rfl) ⟨_, rfl, rfl, rfl, rfl, rfl, rfl, h⟩
def w_X10_faults  (a0 : Nat) (T : kw_T) (n : Nat) (r : kw_R) (i : kw_I) (w : kw_L) (Q : kw_I → Prop) : Prop :=
  w_X10_fine a0 T n r i w (fun v1 => (v1 = 0 → Q i) ∧ (¬ v1 = 0 → kw_in T 1 (r a0 13) (i a0 15) ∧ (∀ i17 : kw_I, i17 = kw_st i a0 17 (i (r a0 13) ((i a0 15)).toNatClampNeg) → (Q i17))))
abbrev rm_X10_faults : Room := { frames := 2, cells := 0, slots := 0, locals := 80 }
set_option maxHeartbeats 4000000 in
set_option maxRecDepth 100000 in
theorem t_X10_faults {l : Launch} {G : kw_G} {a0 : Nat} {T : kw_T} {n : Nat} {r : kw_R} {i : kw_I} {w : kw_L} {Q : kw_I → Prop} (h0 : T a0 = (0, 10)) (h : w_X10_faults a0 T n r i w Q) : kw_Met l G yX10_faults cX10_faults 1 none rm_X10_faults [kw_a a0] (T, n, r, i, w) (kw_PV (fun T' n' r' i' w' => T = T' ∧ n = n' ∧ r = r' ∧ w = w' ∧ Q i')) := by
  refine kw_Met.of (by decide) (Nat.le_of_ble_eq_true rfl) fun E hl hRm hE hT hnm => ?_
  have hm : kw_m E G cX10_faults 1 RX10 none rm_X10_faults "faults" := ⟨hE, hT, hRm, hnm⟩
  subst hl
  show kw_K E G 1 0 0 (kw_Z E G 0 0 (kw_PV (fun T' n' r' i' w' => T = T' ∧ n = n' ∧ r = r' ∧ w = w' ∧ Q i'))) 0 [(0, kw_a a0)] [] T n r i w
  refine kk_aload_n hm.1 0 dX10_faults_0 rfl rfl ?_
  refine kk_callVi (cs' := 0) (sl' := 0) (st := []) hm.1 cv_X10_132 (t_X10_fine h0 h) dX10_faults_1 h0 rfl rfl hm.2.2.1 ⟨by decide, by decide⟩ ⟨by decide, by decide⟩ rfl rfl (Nat.le_of_ble_eq_true rfl) rfl ?_
  rintro v1 _ _ _ _ _ ⟨rfl, rfl, rfl, rfl, rfl, h⟩
  refine kk_if_eq (tgt := 20) hm.1 dX10_faults_4 (by decide) (fun c4 => ?_) (fun c4 => ?_)
  · have h := h.1 c4
    exact kk_vret hm.1 hm.2.1 dX10_faults_20 ⟨rfl, rfl, rfl, rfl, rfl, h⟩
  · have h := h.2 c4
    refine kk_aload_n hm.1 0 dX10_faults_7 rfl rfl ?_
    refine kk_aload_n hm.1 0 dX10_faults_8 rfl rfl ?_
    refine kk_getR hm.1 ff_X10_46 dX10_faults_9 h0 ?_
    refine kk_aload_n hm.1 0 dX10_faults_12 rfl rfl ?_
    refine kk_getI hm.1 ff_X10_136 dX10_faults_13 h0 ?_
    obtain ⟨o16, h⟩ := h
    refine kk_iaload hm.1 dX10_faults_16 o16 ?_
    refine kn_putI hm.1 fp_X10_129 dX10_faults_17 h0 (fun i17 e17 => ?_)
    have h := h i17 e17
    exact kk_vret hm.1 hm.2.1 dX10_faults_20 ⟨rfl, rfl, rfl, rfl, rfl, h⟩
def w_X10_takes0_25 (a0 : Nat) (x1 : Int32) (T : kw_T) (n : Nat) (r : kw_R) (w : kw_L) (Q : Int32 → kw_I → Prop)  (s0 : Int32) (i : kw_I) : Prop :=
  (s0 = 0 → kw_b s0 ∧ (Q s0 i)) ∧ (¬ s0 = 0 → ∀ i37 : kw_I, i37 = kw_st i a0 15 ((i a0 15) + (1 : Int32)) → (kw_b s0 ∧ (Q s0 i37)))
def w_X10_takes0_24 (a0 : Nat) (x1 : Int32) (T : kw_T) (n : Nat) (r : kw_R) (w : kw_L) (Q : Int32 → kw_I → Prop)  (i : kw_I) : Prop :=
  w_X10_takes0_25 a0 x1 T n r w Q  ((0 : Int32)) i
def w_X10_takes0  (a0 : Nat) (x1 : Int32) (T : kw_T) (n : Nat) (r : kw_R) (i : kw_I) (w : kw_L) (Q : Int32 → kw_I → Prop) : Prop :=
  w_X10_fine a0 T n r i w (fun v1 => (v1 = 0 → w_X10_takes0_24 a0 x1 T n r w Q  i) ∧ (¬ v1 = 0 → kw_in T 1 (r a0 11) (i a0 15) ∧ ((¬ (i (r a0 11) ((i a0 15)).toNatClampNeg) = x1 → w_X10_takes0_24 a0 x1 T n r w Q  i) ∧ ((i (r a0 11) ((i a0 15)).toNatClampNeg) = x1 → w_X10_takes0_25 a0 x1 T n r w Q  ((1 : Int32)) i))))
abbrev rm_X10_takes0 : Room := { frames := 2, cells := 0, slots := 0, locals := 80 }
set_option maxHeartbeats 4000000 in
set_option maxRecDepth 100000 in
theorem q_X10_takes0_25 {a0 : Nat} {x1 : Int32} {T : kw_T} {n : Nat} {r : kw_R} {w : kw_L} {Q : Int32 → kw_I → Prop} {E : kw_E} {G : kw_G} (hm : kw_m E G cX10_takes0 3 RX10 (some .boolean) rm_X10_takes0 "takes0")  (h0 : T a0 = (0, 10))    (s0 : Int32) (i : kw_I) (h : w_X10_takes0_25 a0 x1 T n r w Q  s0 i) : kw_K E G 3 0 0 (kw_Z E G 0 0 (kw_PI (fun v T' n' r' i' w' => T = T' ∧ n = n' ∧ r = r' ∧ w = w' ∧ Q v i'))) 25 [(0, kw_a a0), (1, kw_i x1)] [kw_i s0] T n r i w := by
  refine kk_istore_n (L' := [(2, kw_i s0), (0, kw_a a0), (1, kw_i x1)]) hm.1 dX10_takes0_25 rfl (by decide) rfl ?_
  refine kk_iload_n hm.1 0 dX10_takes0_26 rfl rfl ?_
  refine kk_if_eq (tgt := 40) hm.1 dX10_takes0_27 (by decide) (fun c27 => ?_) (fun c27 => ?_)
  · have h := h.1 c27
    refine kk_iload_n hm.1 0 dX10_takes0_40 rfl rfl ?_
    obtain ⟨b41, h⟩ := h
    exact kk_zret hm.1 hm.2.1 dX10_takes0_41 b41 ⟨_, rfl, rfl, rfl, rfl, rfl, h⟩
  · have h := h.2 c27
    refine kk_aload_n hm.1 1 dX10_takes0_30 rfl rfl ?_
    refine kk_dup hm.1 dX10_takes0_31 rfl ?_
    refine kk_getI hm.1 ff_X10_136 dX10_takes0_32 h0 ?_
    refine kk_iconst (v := (1 : Int32)) hm.1 dX10_takes0_35 (by decide) ?_
    refine kk_iadd hm.1 dX10_takes0_36 ?_
    refine kn_putI hm.1 fp_X10_136 dX10_takes0_37 h0 (fun i37 e37 => ?_)
    have h := h i37 e37
    refine kk_iload_n hm.1 0 dX10_takes0_40 rfl rfl ?_
    obtain ⟨b41, h⟩ := h
    exact kk_zret hm.1 hm.2.1 dX10_takes0_41 b41 ⟨_, rfl, rfl, rfl, rfl, rfl, h⟩
set_option maxHeartbeats 4000000 in
set_option maxRecDepth 100000 in
theorem q_X10_takes0_24 {a0 : Nat} {x1 : Int32} {T : kw_T} {n : Nat} {r : kw_R} {w : kw_L} {Q : Int32 → kw_I → Prop} {E : kw_E} {G : kw_G} (hm : kw_m E G cX10_takes0 3 RX10 (some .boolean) rm_X10_takes0 "takes0")  (h0 : T a0 = (0, 10))    (i : kw_I) (h : w_X10_takes0_24 a0 x1 T n r w Q  i) : kw_K E G 3 0 0 (kw_Z E G 0 0 (kw_PI (fun v T' n' r' i' w' => T = T' ∧ n = n' ∧ r = r' ∧ w = w' ∧ Q v i'))) 24 [(0, kw_a a0), (1, kw_i x1)] [] T n r i w := by
  refine kk_iconst (v := (0 : Int32)) hm.1 dX10_takes0_24 (by decide) ?_
  exact q_X10_takes0_25 hm  h0   ((0 : Int32)) i h
set_option maxHeartbeats 4000000 in
set_option maxRecDepth 100000 in
theorem t_X10_takes0 {l : Launch} {G : kw_G} {a0 : Nat} {x1 : Int32} {T : kw_T} {n : Nat} {r : kw_R} {i : kw_I} {w : kw_L} {Q : Int32 → kw_I → Prop} (h0 : T a0 = (0, 10)) (h : w_X10_takes0 a0 x1 T n r i w Q) : kw_Met l G yX10_takes0 cX10_takes0 3 (some .boolean) rm_X10_takes0 [kw_a a0, kw_i x1] (T, n, r, i, w) (kw_PI (fun v T' n' r' i' w' => T = T' ∧ n = n' ∧ r = r' ∧ w = w' ∧ Q v i')) := by
  refine kw_Met.of (by decide) (Nat.le_of_ble_eq_true rfl) fun E hl hRm hE hT hnm => ?_
  have hm : kw_m E G cX10_takes0 3 RX10 (some .boolean) rm_X10_takes0 "takes0" := ⟨hE, hT, hRm, hnm⟩
  subst hl
  show kw_K E G 3 0 0 (kw_Z E G 0 0 (kw_PI (fun v T' n' r' i' w' => T = T' ∧ n = n' ∧ r = r' ∧ w = w' ∧ Q v i'))) 0 [(0, kw_a a0), (1, kw_i x1)] [] T n r i w
  refine kk_aload_n hm.1 0 dX10_takes0_0 rfl rfl ?_
  refine kk_callVi (cs' := 0) (sl' := 0) (st := []) hm.1 cv_X10_132 (t_X10_fine h0 h) dX10_takes0_1 h0 rfl rfl hm.2.2.1 ⟨by decide, by decide⟩ ⟨by decide, by decide⟩ rfl rfl (Nat.le_of_ble_eq_true rfl) rfl ?_
  rintro v1 _ _ _ _ _ ⟨rfl, rfl, rfl, rfl, rfl, h⟩
  refine kk_if_eq (tgt := 24) hm.1 dX10_takes0_4 (by decide) (fun c4 => ?_) (fun c4 => ?_)
  · have h := h.1 c4
    exact q_X10_takes0_24 hm  h0   i h
  · have h := h.2 c4
    refine kk_aload_n hm.1 0 dX10_takes0_7 rfl rfl ?_
    refine kk_getR hm.1 ff_X10_40 dX10_takes0_8 h0 ?_
    refine kk_aload_n hm.1 0 dX10_takes0_11 rfl rfl ?_
    refine kk_getI hm.1 ff_X10_136 dX10_takes0_12 h0 ?_
    obtain ⟨o15, h⟩ := h
    refine kk_iaload hm.1 dX10_takes0_15 o15 ?_
    refine kk_iload_n hm.1 1 dX10_takes0_16 rfl rfl ?_
    refine kk_icmp_ne (tgt := 24) hm.1 dX10_takes0_17 (by decide) (fun c17 => ?_) (fun c17 => ?_)
    · have h := h.1 c17
      exact q_X10_takes0_24 hm  h0   i h
    · have h := h.2 c17
      refine kk_iconst (v := (1 : Int32)) hm.1 dX10_takes0_20 (by decide) ?_
      refine kk_goto (tgt := 25) hm.1 dX10_takes0_21 (by decide) ?_
      exact q_X10_takes0_25 hm  h0   ((1 : Int32)) i h
def w_X10_must  (a0 : Nat) (x1 : Int32) (T : kw_T) (n : Nat) (r : kw_R) (i : kw_I) (w : kw_L) (Q : kw_I → Prop) : Prop :=
  w_X10_takes0 a0 x1 T n r i w (fun v2 i2 => (¬ v2 = 0 → Q i2) ∧ (v2 = 0 → w_X10_faults a0 T n r i2 w (fun i9 => Q i9)))
abbrev rm_X10_must : Room := { frames := 3, cells := 0, slots := 0, locals := 102 }
set_option maxHeartbeats 4000000 in
set_option maxRecDepth 100000 in
theorem t_X10_must {l : Launch} {G : kw_G} {a0 : Nat} {x1 : Int32} {T : kw_T} {n : Nat} {r : kw_R} {i : kw_I} {w : kw_L} {Q : kw_I → Prop} (h0 : T a0 = (0, 10)) (h : w_X10_must a0 x1 T n r i w Q) : kw_Met l G yX10_must cX10_must 2 none rm_X10_must [kw_a a0, kw_i x1] (T, n, r, i, w) (kw_PV (fun T' n' r' i' w' => T = T' ∧ n = n' ∧ r = r' ∧ w = w' ∧ Q i')) := by
  refine kw_Met.of (by decide) (Nat.le_of_ble_eq_true rfl) fun E hl hRm hE hT hnm => ?_
  have hm : kw_m E G cX10_must 2 RX10 none rm_X10_must "must" := ⟨hE, hT, hRm, hnm⟩
  subst hl
  show kw_K E G 2 0 0 (kw_Z E G 0 0 (kw_PV (fun T' n' r' i' w' => T = T' ∧ n = n' ∧ r = r' ∧ w = w' ∧ Q i'))) 0 [(0, kw_a a0), (1, kw_i x1)] [] T n r i w
  refine kk_aload_n hm.1 0 dX10_must_0 rfl rfl ?_
  refine kk_iload_n hm.1 1 dX10_must_1 rfl rfl ?_
  refine kk_callVi (cs' := 0) (sl' := 0) (st := []) hm.1 cv_X10_139 (t_X10_takes0 h0 h) dX10_must_2 h0 rfl rfl hm.2.2.1 ⟨by decide, by decide⟩ ⟨by decide, by decide⟩ rfl rfl (Nat.le_of_ble_eq_true rfl) rfl ?_
  rintro v2 _ _ _ i2 _ ⟨rfl, rfl, rfl, rfl, h⟩
  refine kk_if_ne (tgt := 12) hm.1 dX10_must_5 (by decide) (fun c5 => ?_) (fun c5 => ?_)
  · have h := h.1 c5
    exact kk_vret hm.1 hm.2.1 dX10_must_12 ⟨rfl, rfl, rfl, rfl, rfl, h⟩
  · have h := h.2 c5
    refine kk_aload_n hm.1 0 dX10_must_8 rfl rfl ?_
    refine kk_callVv (cs' := 0) (sl' := 0) (st := []) hm.1 cv_X10_142 (t_X10_faults h0 h) dX10_must_9 h0 rfl rfl hm.2.2.1 ⟨by decide, by decide⟩ ⟨by decide, by decide⟩ rfl rfl (Nat.le_of_ble_eq_true rfl) rfl ?_
    rintro _ _ _ i9 _ ⟨rfl, rfl, rfl, rfl, h⟩
    exact kk_vret hm.1 hm.2.1 dX10_must_12 ⟨rfl, rfl, rfl, rfl, rfl, h⟩
def w_X10_leaf_13 (a0 : Nat) (T : kw_T) (n : Nat) (r : kw_R) (w : kw_L) (Q : kw_I → Prop)  (i : kw_I) : Prop :=
  ∀ i20 : kw_I, i20 = kw_st i a0 16 ((i a0 16) + (1 : Int32)) → (w_X10_fine a0 T n r i20 w (fun v24 => (v24 = 0 → Q i20) ∧ (¬ v24 = 0 → ∀ i37 : kw_I, i37 = kw_st i20 a0 15 ((i20 a0 15) + (1 : Int32)) → (Q i37))))
def w_X10_leaf  (a0 : Nat) (T : kw_T) (n : Nat) (r : kw_R) (i : kw_I) (w : kw_L) (Q : kw_I → Prop) : Prop :=
  (¬ (i a0 16) = (50 : Int32) → w_X10_leaf_13 a0 T n r w Q  i) ∧ ((i a0 16) = (50 : Int32) → w_X10_faults a0 T n r i w (fun i10 => w_X10_leaf_13 a0 T n r w Q  i10))
abbrev rm_X10_leaf : Room := { frames := 3, cells := 0, slots := 0, locals := 100 }
set_option maxHeartbeats 4000000 in
set_option maxRecDepth 100000 in
theorem q_X10_leaf_13 {a0 : Nat} {T : kw_T} {n : Nat} {r : kw_R} {w : kw_L} {Q : kw_I → Prop} {E : kw_E} {G : kw_G} (hm : kw_m E G cX10_leaf 1 RX10 none rm_X10_leaf "leaf")  (h0 : T a0 = (0, 10))    (i : kw_I) (h : w_X10_leaf_13 a0 T n r w Q  i) : kw_K E G 1 0 0 (kw_Z E G 0 0 (kw_PV (fun T' n' r' i' w' => T = T' ∧ n = n' ∧ r = r' ∧ w = w' ∧ Q i'))) 13 [(0, kw_a a0)] [] T n r i w := by
  refine kk_aload_n hm.1 0 dX10_leaf_13 rfl rfl ?_
  refine kk_dup hm.1 dX10_leaf_14 rfl ?_
  refine kk_getI hm.1 ff_X10_145 dX10_leaf_15 h0 ?_
  refine kk_iconst (v := (1 : Int32)) hm.1 dX10_leaf_18 (by decide) ?_
  refine kk_iadd hm.1 dX10_leaf_19 ?_
  refine kn_putI hm.1 fp_X10_145 dX10_leaf_20 h0 (fun i20 e20 => ?_)
  have h := h i20 e20
  refine kk_aload_n hm.1 0 dX10_leaf_23 rfl rfl ?_
  refine kk_callVi (cs' := 0) (sl' := 0) (st := []) hm.1 cv_X10_132 (t_X10_fine h0 h) dX10_leaf_24 h0 rfl rfl hm.2.2.1 ⟨by decide, by decide⟩ ⟨by decide, by decide⟩ rfl rfl (Nat.le_of_ble_eq_true rfl) rfl ?_
  rintro v24 _ _ _ _ _ ⟨rfl, rfl, rfl, rfl, rfl, h⟩
  refine kk_if_eq (tgt := 40) hm.1 dX10_leaf_27 (by decide) (fun c27 => ?_) (fun c27 => ?_)
  · have h := h.1 c27
    exact kk_vret hm.1 hm.2.1 dX10_leaf_40 ⟨rfl, rfl, rfl, rfl, rfl, h⟩
  · have h := h.2 c27
    refine kk_aload_n hm.1 0 dX10_leaf_30 rfl rfl ?_
    refine kk_dup hm.1 dX10_leaf_31 rfl ?_
    refine kk_getI hm.1 ff_X10_136 dX10_leaf_32 h0 ?_
    refine kk_iconst (v := (1 : Int32)) hm.1 dX10_leaf_35 (by decide) ?_
    refine kk_iadd hm.1 dX10_leaf_36 ?_
    refine kn_putI hm.1 fp_X10_136 dX10_leaf_37 h0 (fun i37 e37 => ?_)
    have h := h i37 e37
    exact kk_vret hm.1 hm.2.1 dX10_leaf_40 ⟨rfl, rfl, rfl, rfl, rfl, h⟩
set_option maxHeartbeats 4000000 in
set_option maxRecDepth 100000 in
theorem t_X10_leaf {l : Launch} {G : kw_G} {a0 : Nat} {T : kw_T} {n : Nat} {r : kw_R} {i : kw_I} {w : kw_L} {Q : kw_I → Prop} (h0 : T a0 = (0, 10)) (h : w_X10_leaf a0 T n r i w Q) : kw_Met l G yX10_leaf cX10_leaf 1 none rm_X10_leaf [kw_a a0] (T, n, r, i, w) (kw_PV (fun T' n' r' i' w' => T = T' ∧ n = n' ∧ r = r' ∧ w = w' ∧ Q i')) := by
  refine kw_Met.of (by decide) (Nat.le_of_ble_eq_true rfl) fun E hl hRm hE hT hnm => ?_
  have hm : kw_m E G cX10_leaf 1 RX10 none rm_X10_leaf "leaf" := ⟨hE, hT, hRm, hnm⟩
  subst hl
  show kw_K E G 1 0 0 (kw_Z E G 0 0 (kw_PV (fun T' n' r' i' w' => T = T' ∧ n = n' ∧ r = r' ∧ w = w' ∧ Q i'))) 0 [(0, kw_a a0)] [] T n r i w
  refine kk_aload_n hm.1 0 dX10_leaf_0 rfl rfl ?_
  refine kk_getI hm.1 ff_X10_145 dX10_leaf_1 h0 ?_
  refine kk_bipush (v := (50 : Int32)) hm.1 dX10_leaf_4 (by decide) ?_
  refine kk_icmp_ne (tgt := 13) hm.1 dX10_leaf_6 (by decide) (fun c6 => ?_) (fun c6 => ?_)
  · have h := h.1 c6
    exact q_X10_leaf_13 hm  h0   i h
  · have h := h.2 c6
    refine kk_aload_n hm.1 0 dX10_leaf_9 rfl rfl ?_
    refine kk_callVv (cs' := 0) (sl' := 0) (st := []) hm.1 cv_X10_142 (t_X10_faults h0 h) dX10_leaf_10 h0 rfl rfl hm.2.2.1 ⟨by decide, by decide⟩ ⟨by decide, by decide⟩ rfl rfl (Nat.le_of_ble_eq_true rfl) rfl ?_
    rintro _ _ _ i10 _ ⟨rfl, rfl, rfl, rfl, h⟩
    exact q_X10_leaf_13 hm  h0   i10 h
def w_X10_sign  (x0 : Int32) (T : kw_T) (n : Nat) (r : kw_R) (i : kw_I) (w : kw_L) (Q : Int32 → Prop) : Prop :=
  Q ((100 : Int32) + x0)
abbrev rm_X10_sign : Room := { frames := 1, cells := 0, slots := 0, locals := 60 }
set_option maxHeartbeats 4000000 in
set_option maxRecDepth 100000 in
theorem t_X10_sign {l : Launch} {G : kw_G} {x0 : Int32} {T : kw_T} {n : Nat} {r : kw_R} {i : kw_I} {w : kw_L} {Q : Int32 → Prop} (h : w_X10_sign x0 T n r i w Q) : kw_Met l G yX10_sign cX10_sign 1 (some .int) rm_X10_sign [kw_i x0] (T, n, r, i, w) (kw_PI (fun v T' n' r' i' w' => T = T' ∧ n = n' ∧ r = r' ∧ i = i' ∧ w = w' ∧ Q v)) := by
  refine kw_Met.of (by decide) (Nat.le_of_ble_eq_true rfl) fun E hl hRm hE hT hnm => ?_
  have hm : kw_m E G cX10_sign 1 RX10 (some .int) rm_X10_sign "sign" := ⟨hE, hT, hRm, hnm⟩
  subst hl
  show kw_K E G 1 0 0 (kw_Z E G 0 0 (kw_PI (fun v T' n' r' i' w' => T = T' ∧ n = n' ∧ r = r' ∧ i = i' ∧ w = w' ∧ Q v))) 0 [(0, kw_i x0)] [] T n r i w
  refine kk_bipush (v := (100 : Int32)) hm.1 dX10_sign_0 (by decide) ?_
  refine kk_iload_n hm.1 0 dX10_sign_2 rfl rfl ?_
  refine kk_iadd hm.1 dX10_sign_3 ?_
  exact kk_iret hm.1 hm.2.1 dX10_sign_4 ⟨_, rfl, rfl, rfl, rfl, rfl, rfl, h⟩
