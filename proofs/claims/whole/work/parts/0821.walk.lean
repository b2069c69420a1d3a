def w_X10_seamsOf_69 (a0 : Nat) (x1 : Int32) (T : kw_T) (n : Nat) (r : kw_R) (i : kw_I) (w : kw_L) (Q : Int32 → Prop) (k4 : Int32 → Int32 → Prop) (x3 : Int32) (s0 : Int32) (s1 : Int32) : Prop :=
  k4 ((s0 + s1)) ((x3 + (1 : Int32)))
def w_X10_seamsOf_68 (a0 : Nat) (x1 : Int32) (T : kw_T) (n : Nat) (r : kw_R) (i : kw_I) (w : kw_L) (Q : Int32 → Prop) (k4 : Int32 → Int32 → Prop) (x3 : Int32) (s0 : Int32) : Prop :=
  w_X10_seamsOf_69 a0 x1 T n r i w Q k4 x3 s0 ((0 : Int32))
def w_X10_seamsOf_39 (a0 : Nat) (x1 : Int32) (T : kw_T) (n : Nat) (r : kw_R) (i : kw_I) (w : kw_L) (Q : Int32 → Prop) (k4 : Int32 → Int32 → Prop) (x3 : Int32) (s0 : Int32) (s1 : Int32) : Prop :=
  ((30 : Int32) ≤ x3 → w_X10_seamsOf_68 a0 x1 T n r i w Q k4 x3 ((s0 + s1))) ∧ (¬ (30 : Int32) ≤ x3 → kw_in T 1 a0 (x1 + x3) ∧ (kw_in T 1 a0 ((x1 + x3) + (6 : Int32)) ∧ (((i a0 ((x1 + x3)).toNatClampNeg) = (i a0 (((x1 + x3) + (6 : Int32))).toNatClampNeg) → w_X10_seamsOf_68 a0 x1 T n r i w Q k4 x3 ((s0 + s1))) ∧ (¬ (i a0 ((x1 + x3)).toNatClampNeg) = (i a0 (((x1 + x3) + (6 : Int32))).toNatClampNeg) → w_X10_seamsOf_69 a0 x1 T n r i w Q k4 x3 ((s0 + s1)) ((1 : Int32))))))
def w_X10_seamsOf_38 (a0 : Nat) (x1 : Int32) (T : kw_T) (n : Nat) (r : kw_R) (i : kw_I) (w : kw_L) (Q : Int32 → Prop) (k4 : Int32 → Int32 → Prop) (x3 : Int32) (s0 : Int32) : Prop :=
  w_X10_seamsOf_39 a0 x1 T n r i w Q k4 x3 s0 ((0 : Int32))
def s_X10_seamsOf_4 (a0 : Nat) (x1 : Int32) (T : kw_T) (n : Nat) (r : kw_R) (i : kw_I) (w : kw_L) (Q : Int32 → Prop)  (k4 : Int32 → Int32 → Prop) (x2 : Int32) (x3 : Int32) : Prop :=
  ((36 : Int32) ≤ x3 → Q x2) ∧ (¬ (36 : Int32) ≤ x3 → ((5 : Int32) ≤ (x3 - x3 / (6 : Int32) * (6 : Int32)) → w_X10_seamsOf_38 a0 x1 T n r i w Q k4 x3 x2) ∧ (¬ (5 : Int32) ≤ (x3 - x3 / (6 : Int32) * (6 : Int32)) → kw_in T 1 a0 (x1 + x3) ∧ (kw_in T 1 a0 ((x1 + x3) + (1 : Int32)) ∧ (((i a0 ((x1 + x3)).toNatClampNeg) = (i a0 (((x1 + x3) + (1 : Int32))).toNatClampNeg) → w_X10_seamsOf_38 a0 x1 T n r i w Q k4 x3 x2) ∧ (¬ (i a0 ((x1 + x3)).toNatClampNeg) = (i a0 (((x1 + x3) + (1 : Int32))).toNatClampNeg) → w_X10_seamsOf_39 a0 x1 T n r i w Q k4 x3 x2 ((1 : Int32)))))))
def w_X10_seamsOf_4 (a0 : Nat) (x1 : Int32) (T : kw_T) (n : Nat) (r : kw_R) (i : kw_I) (w : kw_L) (Q : Int32 → Prop)  : Nat → Int32 → Int32 → Prop
  | 0 => fun _ _ => False
  | N + 1 => s_X10_seamsOf_4 a0 x1 T n r i w Q  (w_X10_seamsOf_4 a0 x1 T n r i w Q  N)
def w_X10_seamsOf  (a0 : Nat) (x1 : Int32) (T : kw_T) (n : Nat) (r : kw_R) (i : kw_I) (w : kw_L) (Q : Int32 → Prop) : Prop :=
  ∃ N, w_X10_seamsOf_4 a0 x1 T n r i w Q  N ((0 : Int32)) ((0 : Int32))
abbrev rm_X10_seamsOf : Room := { frames := 1, cells := 0, slots := 0, locals := 60 }
set_option maxHeartbeats 4000000 in
set_option maxRecDepth 100000 in
theorem q_X10_seamsOf_69 {a0 : Nat} {x1 : Int32} {T : kw_T} {n : Nat} {r : kw_R} {i : kw_I} {w : kw_L} {Q : Int32 → Prop} {E : kw_E} {G : kw_G} (hm : kw_m E G cX10_seamsOf 4 RX10 (some .int) rm_X10_seamsOf "seamsOf")   {k4 : Int32 → Int32 → Prop} (hk4 : ∀ (x2 : Int32) (x3 : Int32), k4 x2 x3 → kw_K E G 4 0 0 (kw_Z E G 0 0 (kw_PI (fun v T' n' r' i' w' => T = T' ∧ n = n' ∧ r = r' ∧ i = i' ∧ w = w' ∧ Q v))) 4 [(0, kw_a a0), (1, kw_i x1), (2, kw_i x2), (3, kw_i x3)] [] T n r i w) (x3 : Int32) (s0 : Int32) (s1 : Int32) (h : w_X10_seamsOf_69 a0 x1 T n r i w Q k4 x3 s0 s1) : kw_K E G 4 0 0 (kw_Z E G 0 0 (kw_PI (fun v T' n' r' i' w' => T = T' ∧ n = n' ∧ r = r' ∧ i = i' ∧ w = w' ∧ Q v))) 69 [(0, kw_a a0), (1, kw_i x1), (3, kw_i x3)] [kw_i s1, kw_i s0] T n r i w := by
  refine kk_iadd hm.1 dX10_seamsOf_69 ?_
  refine kk_istore_n (L' := [(2, kw_i (s0 + s1)), (0, kw_a a0), (1, kw_i x1), (3, kw_i x3)]) hm.1 dX10_seamsOf_70 rfl (by decide) rfl ?_
  refine kk_iinc (v := (x3 + (1 : Int32))) (L' := [(3, kw_i (x3 + (1 : Int32))), (2, kw_i (s0 + s1)), (0, kw_a a0), (1, kw_i x1)]) hm.1 3 dX10_seamsOf_71 rfl rfl (by decide) rfl ?_
  refine kk_goto (tgt := 4) hm.1 dX10_seamsOf_74 (by decide) ?_
  refine kk_loc (L' := [(0, kw_a a0), (1, kw_i x1), (2, kw_i (s0 + s1)), (3, kw_i (x3 + (1 : Int32)))]) [2, 3, 1, 0] rfl ?_
  exact hk4 ((s0 + s1)) ((x3 + (1 : Int32))) h
set_option maxHeartbeats 4000000 in
set_option maxRecDepth 100000 in
theorem q_X10_seamsOf_68 {a0 : Nat} {x1 : Int32} {T : kw_T} {n : Nat} {r : kw_R} {i : kw_I} {w : kw_L} {Q : Int32 → Prop} {E : kw_E} {G : kw_G} (hm : kw_m E G cX10_seamsOf 4 RX10 (some .int) rm_X10_seamsOf "seamsOf")   {k4 : Int32 → Int32 → Prop} (hk4 : ∀ (x2 : Int32) (x3 : Int32), k4 x2 x3 → kw_K E G 4 0 0 (kw_Z E G 0 0 (kw_PI (fun v T' n' r' i' w' => T = T' ∧ n = n' ∧ r = r' ∧ i = i' ∧ w = w' ∧ Q v))) 4 [(0, kw_a a0), (1, kw_i x1), (2, kw_i x2), (3, kw_i x3)] [] T n r i w) (x3 : Int32) (s0 : Int32) (h : w_X10_seamsOf_68 a0 x1 T n r i w Q k4 x3 s0) : kw_K E G 4 0 0 (kw_Z E G 0 0 (kw_PI (fun v T' n' r' i' w' => T = T' ∧ n = n' ∧ r = r' ∧ i = i' ∧ w = w' ∧ Q v))) 68 [(0, kw_a a0), (1, kw_i x1), (3, kw_i x3)] [kw_i s0] T n r i w := by
  refine kk_iconst (v := (0 : Int32)) hm.1 dX10_seamsOf_68 (by decide) ?_
  exact q_X10_seamsOf_69 hm   hk4 x3 s0 ((0 : Int32)) h
set_option maxHeartbeats 4000000 in
set_option maxRecDepth 100000 in
theorem q_X10_seamsOf_39 {a0 : Nat} {x1 : Int32} {T : kw_T} {n : Nat} {r : kw_R} {i : kw_I} {w : kw_L} {Q : Int32 → Prop} {E : kw_E} {G : kw_G} (hm : kw_m E G cX10_seamsOf 4 RX10 (some .int) rm_X10_seamsOf "seamsOf")   {k4 : Int32 → Int32 → Prop} (hk4 : ∀ (x2 : Int32) (x3 : Int32), k4 x2 x3 → kw_K E G 4 0 0 (kw_Z E G 0 0 (kw_PI (fun v T' n' r' i' w' => T = T' ∧ n = n' ∧ r = r' ∧ i = i' ∧ w = w' ∧ Q v))) 4 [(0, kw_a a0), (1, kw_i x1), (2, kw_i x2), (3, kw_i x3)] [] T n r i w) (x3 : Int32) (s0 : Int32) (s1 : Int32) (h : w_X10_seamsOf_39 a0 x1 T n r i w Q k4 x3 s0 s1) : kw_K E G 4 0 0 (kw_Z E G 0 0 (kw_PI (fun v T' n' r' i' w' => T = T' ∧ n = n' ∧ r = r' ∧ i = i' ∧ w = w' ∧ Q v))) 39 [(0, kw_a a0), (1, kw_i x1), (3, kw_i x3)] [kw_i s1, kw_i s0] T n r i w := by
  refine kk_iadd hm.1 dX10_seamsOf_39 ?_
  refine kk_istore_n (L' := [(2, kw_i (s0 + s1)), (0, kw_a a0), (1, kw_i x1), (3, kw_i x3)]) hm.1 dX10_seamsOf_40 rfl (by decide) rfl ?_
  refine kk_iload_n hm.1 0 dX10_seamsOf_41 rfl rfl ?_
  refine kk_iload_n hm.1 3 dX10_seamsOf_42 rfl rfl ?_
  refine kk_bipush (v := (30 : Int32)) hm.1 dX10_seamsOf_43 (by decide) ?_
  refine kk_icmp_ge (tgt := 68) hm.1 dX10_seamsOf_45 (by decide) (fun c45 => ?_) (fun c45 => ?_)
  · have h := h.1 c45
    refine kk_loc (L' := [(0, kw_a a0), (1, kw_i x1), (3, kw_i x3)]) [1, 2, 3] rfl ?_
    exact q_X10_seamsOf_68 hm   hk4 x3 ((s0 + s1)) h
  · have h := h.2 c45
    refine kk_aload_n hm.1 1 dX10_seamsOf_48 rfl rfl ?_
    refine kk_iload_n hm.1 2 dX10_seamsOf_49 rfl rfl ?_
    refine kk_iload_n hm.1 3 dX10_seamsOf_50 rfl rfl ?_
    refine kk_iadd hm.1 dX10_seamsOf_51 ?_
    obtain ⟨o52, h⟩ := h
    refine kk_iaload hm.1 dX10_seamsOf_52 o52 ?_
    refine kk_aload_n hm.1 1 dX10_seamsOf_53 rfl rfl ?_
    refine kk_iload_n hm.1 2 dX10_seamsOf_54 rfl rfl ?_
    refine kk_iload_n hm.1 3 dX10_seamsOf_55 rfl rfl ?_
    refine kk_iadd hm.1 dX10_seamsOf_56 ?_
    refine kk_bipush (v := (6 : Int32)) hm.1 dX10_seamsOf_57 (by decide) ?_
    refine kk_iadd hm.1 dX10_seamsOf_59 ?_
    obtain ⟨o60, h⟩ := h
    refine kk_iaload hm.1 dX10_seamsOf_60 o60 ?_
    refine kk_icmp_eq (tgt := 68) hm.1 dX10_seamsOf_61 (by decide) (fun c61 => ?_) (fun c61 => ?_)
    · have h := h.1 c61
      refine kk_loc (L' := [(0, kw_a a0), (1, kw_i x1), (3, kw_i x3)]) [1, 2, 3] rfl ?_
      exact q_X10_seamsOf_68 hm   hk4 x3 ((s0 + s1)) h
    · have h := h.2 c61
      refine kk_iconst (v := (1 : Int32)) hm.1 dX10_seamsOf_64 (by decide) ?_
      refine kk_goto (tgt := 69) hm.1 dX10_seamsOf_65 (by decide) ?_
      refine kk_loc (L' := [(0, kw_a a0), (1, kw_i x1), (3, kw_i x3)]) [1, 2, 3] rfl ?_
      exact q_X10_seamsOf_69 hm   hk4 x3 ((s0 + s1)) ((1 : Int32)) h
set_option maxHeartbeats 4000000 in
set_option maxRecDepth 100000 in
theorem q_X10_seamsOf_38 {a0 : Nat} {x1 : Int32} {T : kw_T} {n : Nat} {r : kw_R} {i : kw_I} {w : kw_L} {Q : Int32 → Prop} {E : kw_E} {G : kw_G} (hm : kw_m E G cX10_seamsOf 4 RX10 (some .int) rm_X10_seamsOf "seamsOf")   {k4 : Int32 → Int32 → Prop} (hk4 : ∀ (x2 : Int32) (x3 : Int32), k4 x2 x3 → kw_K E G 4 0 0 (kw_Z E G 0 0 (kw_PI (fun v T' n' r' i' w' => T = T' ∧ n = n' ∧ r = r' ∧ i = i' ∧ w = w' ∧ Q v))) 4 [(0, kw_a a0), (1, kw_i x1), (2, kw_i x2), (3, kw_i x3)] [] T n r i w) (x3 : Int32) (s0 : Int32) (h : w_X10_seamsOf_38 a0 x1 T n r i w Q k4 x3 s0) : kw_K E G 4 0 0 (kw_Z E G 0 0 (kw_PI (fun v T' n' r' i' w' => T = T' ∧ n = n' ∧ r = r' ∧ i = i' ∧ w = w' ∧ Q v))) 38 [(0, kw_a a0), (1, kw_i x1), (3, kw_i x3)] [kw_i s0] T n r i w := by
  refine kk_iconst (v := (0 : Int32)) hm.1 dX10_seamsOf_38 (by decide) ?_
  exact q_X10_seamsOf_39 hm   hk4 x3 s0 ((0 : Int32)) h
set_option maxHeartbeats 4000000 in
set_option maxRecDepth 100000 in
theorem qs_X10_seamsOf_4 {a0 : Nat} {x1 : Int32} {T : kw_T} {n : Nat} {r : kw_R} {i : kw_I} {w : kw_L} {Q : Int32 → Prop} {E : kw_E} {G : kw_G} (hm : kw_m E G cX10_seamsOf 4 RX10 (some .int) rm_X10_seamsOf "seamsOf")     {k4 : Int32 → Int32 → Prop} (hk4 : ∀ (x2 : Int32) (x3 : Int32), k4 x2 x3 → kw_K E G 4 0 0 (kw_Z E G 0 0 (kw_PI (fun v T' n' r' i' w' => T = T' ∧ n = n' ∧ r = r' ∧ i = i' ∧ w = w' ∧ Q v))) 4 [(0, kw_a a0), (1, kw_i x1), (2, kw_i x2), (3, kw_i x3)] [] T n r i w) (x2 : Int32) (x3 : Int32) (h : s_X10_seamsOf_4 a0 x1 T n r i w Q  k4 x2 x3) : kw_K E G 4 0 0 (kw_Z E G 0 0 (kw_PI (fun v T' n' r' i' w' => T = T' ∧ n = n' ∧ r = r' ∧ i = i' ∧ w = w' ∧ Q v))) 4 [(0, kw_a a0), (1, kw_i x1), (2, kw_i x2), (3, kw_i x3)] [] T n r i w := by
  refine kk_iload_n hm.1 3 dX10_seamsOf_4 rfl rfl ?_
  refine kk_bipush (v := (36 : Int32)) hm.1 dX10_seamsOf_5 (by decide) ?_
  refine kk_icmp_ge (tgt := 77) hm.1 dX10_seamsOf_7 (by decide) (fun c7 => ?_) (fun c7 => ?_)
  · have h := h.1 c7
    refine kk_iload_n hm.1 2 dX10_seamsOf_77 rfl rfl ?_
    exact kk_iret hm.1 hm.2.1 dX10_seamsOf_78 ⟨_, rfl, rfl, rfl, rfl, rfl, rfl, h⟩
  · have h := h.2 c7
    refine kk_iload_n hm.1 2 dX10_seamsOf_10 rfl rfl ?_
    refine kk_iload_n hm.1 3 dX10_seamsOf_11 rfl rfl ?_
    refine kk_bipush (v := (6 : Int32)) hm.1 dX10_seamsOf_12 (by decide) ?_
    refine kk_irem hm.1 dX10_seamsOf_14 (by decide) ?_
    refine kk_iconst (v := (5 : Int32)) hm.1 dX10_seamsOf_15 (by decide) ?_
    refine kk_icmp_ge (tgt := 38) hm.1 dX10_seamsOf_16 (by decide) (fun c16 => ?_) (fun c16 => ?_)
    · have h := h.1 c16
      refine kk_loc (L' := [(0, kw_a a0), (1, kw_i x1), (3, kw_i x3)]) [0, 1, 3] rfl ?_
      exact q_X10_seamsOf_38 hm   hk4 x3 x2 h
    · have h := h.2 c16
      refine kk_aload_n hm.1 0 dX10_seamsOf_19 rfl rfl ?_
      refine kk_iload_n hm.1 1 dX10_seamsOf_20 rfl rfl ?_
      refine kk_iload_n hm.1 3 dX10_seamsOf_21 rfl rfl ?_
      refine kk_iadd hm.1 dX10_seamsOf_22 ?_
      obtain ⟨o23, h⟩ := h
      refine kk_iaload hm.1 dX10_seamsOf_23 o23 ?_
      refine kk_aload_n hm.1 0 dX10_seamsOf_24 rfl rfl ?_
      refine kk_iload_n hm.1 1 dX10_seamsOf_25 rfl rfl ?_
      refine kk_iload_n hm.1 3 dX10_seamsOf_26 rfl rfl ?_
      refine kk_iadd hm.1 dX10_seamsOf_27 ?_
      refine kk_iconst (v := (1 : Int32)) hm.1 dX10_seamsOf_28 (by decide) ?_
      refine kk_iadd hm.1 dX10_seamsOf_29 ?_
      obtain ⟨o30, h⟩ := h
      refine kk_iaload hm.1 dX10_seamsOf_30 o30 ?_
      refine kk_icmp_eq (tgt := 38) hm.1 dX10_seamsOf_31 (by decide) (fun c31 => ?_) (fun c31 => ?_)
      · have h := h.1 c31
        refine kk_loc (L' := [(0, kw_a a0), (1, kw_i x1), (3, kw_i x3)]) [0, 1, 3] rfl ?_
        exact q_X10_seamsOf_38 hm   hk4 x3 x2 h
      · have h := h.2 c31
        refine kk_iconst (v := (1 : Int32)) hm.1 dX10_seamsOf_34 (by decide) ?_
        refine kk_goto (tgt := 39) hm.1 dX10_seamsOf_35 (by decide) ?_
        refine kk_loc (L' := [(0, kw_a a0), (1, kw_i x1), (3, kw_i x3)]) [0, 1, 3] rfl ?_
        exact q_X10_seamsOf_39 hm   hk4 x3 x2 ((1 : Int32)) h
set_option maxHeartbeats 4000000 in
set_option maxRecDepth 100000 in
theorem q_X10_seamsOf_4 {a0 : Nat} {x1 : Int32} {T : kw_T} {n : Nat} {r : kw_R} {i : kw_I} {w : kw_L} {Q : Int32 → Prop} {E : kw_E} {G : kw_G} (hm : kw_m E G cX10_seamsOf 4 RX10 (some .int) rm_X10_seamsOf "seamsOf")     : ∀ (N : Nat) (x2 : Int32) (x3 : Int32), w_X10_seamsOf_4 a0 x1 T n r i w Q  N x2 x3 → kw_K E G 4 0 0 (kw_Z E G 0 0 (kw_PI (fun v T' n' r' i' w' => T = T' ∧ n = n' ∧ r = r' ∧ i = i' ∧ w = w' ∧ Q v))) 4 [(0, kw_a a0), (1, kw_i x1), (2, kw_i x2), (3, kw_i x3)] [] T n r i w := by
  intro N
  induction N with
  | zero => intro x2 x3 h; exact h.elim
  | succ N ih => intro x2 x3 h; exact qs_X10_seamsOf_4 hm    ih x2 x3 h
set_option maxHeartbeats 4000000 in
set_option maxRecDepth 100000 in
theorem t_X10_seamsOf {l : Launch} {G : kw_G} {a0 : Nat} {x1 : Int32} {T : kw_T} {n : Nat} {r : kw_R} {i : kw_I} {w : kw_L} {Q : Int32 → Prop} (h : w_X10_seamsOf a0 x1 T n r i w Q) : kw_Met l G yX10_seamsOf cX10_seamsOf 4 (some .int) rm_X10_seamsOf [kw_a a0, kw_i x1] (T, n, r, i, w) (kw_PI (fun v T' n' r' i' w' => T = T' ∧ n = n' ∧ r = r' ∧ i = i' ∧ w = w' ∧ Q v)) := by
  refine kw_Met.of (by decide) (Nat.le_of_ble_eq_true rfl) fun E hl hRm hE hT hnm => ?_
  have hm : kw_m E G cX10_seamsOf 4 RX10 (some .int) rm_X10_seamsOf "seamsOf" := ⟨hE, hT, hRm, hnm⟩
  subst hl
  show kw_K E G 4 0 0 (kw_Z E G 0 0 (kw_PI (fun v T' n' r' i' w' => T = T' ∧ n = n' ∧ r = r' ∧ i = i' ∧ w = w' ∧ Q v))) 0 [(0, kw_a a0), (1, kw_i x1)] [] T n r i w
  refine kk_iconst (v := (0 : Int32)) hm.1 dX10_seamsOf_0 (by decide) ?_
  refine kk_istore_n (L' := [(2, kw_i (0 : Int32)), (0, kw_a a0), (1, kw_i x1)]) hm.1 dX10_seamsOf_1 rfl (by decide) rfl ?_
  refine kk_iconst (v := (0 : Int32)) hm.1 dX10_seamsOf_2 (by decide) ?_
  refine kk_istore_n (L' := [(3, kw_i (0 : Int32)), (2, kw_i (0 : Int32)), (0, kw_a a0), (1, kw_i x1)]) hm.1 dX10_seamsOf_3 rfl (by decide) rfl ?_
  refine kk_loc (L' := [(0, kw_a a0), (1, kw_i x1), (2, kw_i (0 : Int32)), (3, kw_i (0 : Int32))]) [2, 3, 1, 0] rfl ?_
  obtain ⟨N, h⟩ := h
  exact q_X10_seamsOf_4 hm    N ((0 : Int32)) ((0 : Int32)) h
def w_X10_seams  (a0 : Nat) (x1 : Int32) (T : kw_T) (n : Nat) (r : kw_R) (i : kw_I) (w : kw_L) (Q : Int32 → kw_I → Prop) : Prop :=
  w_X10_isOrFirst a0 x1 T n r i w (fun v2 => (¬ v2 = 0 → w_X10_looks a0 T n r i w (fun i11 => w_X10_seamsOf (r a0 22) ((36 : Int32) * (x1 + (1 : Int32))) T n r i11 w (fun v24 => Q v24 i11))) ∧ (v2 = 0 → Q (-1 : Int32) i))
abbrev rm_X10_seams : Room := { frames := 129, cells := 0, slots := 0, locals := 6253 }
set_option maxHeartbeats 4000000 in
set_option maxRecDepth 100000 in
theorem t_X10_seams {l : Launch} {G : kw_G} {a0 : Nat} {x1 : Int32} {T : kw_T} {n : Nat} {r : kw_R} {i : kw_I} {w : kw_L} {Q : Int32 → kw_I → Prop} (h0 : T a0 = (0, 10)) (h : w_X10_seams a0 x1 T n r i w Q) : kw_Met l G yX10_seams cX10_seams 2 (some .int) rm_X10_seams [kw_a a0, kw_i x1] (T, n, r, i, w) (kw_PI (fun v T' n' r' i' w' => T = T' ∧ n = n' ∧ r = r' ∧ w = w' ∧ Q v i')) := by
  refine kw_Met.of (by decide) (Nat.le_of_ble_eq_true rfl) fun E hl hRm hE hT hnm => ?_
  have hm : kw_m E G cX10_seams 2 RX10 (some .int) rm_X10_seams "seams" := ⟨hE, hT, hRm, hnm⟩
  subst hl
  show kw_K E G 2 0 0 (kw_Z E G 0 0 (kw_PI (fun v T' n' r' i' w' => T = T' ∧ n = n' ∧ r = r' ∧ w = w' ∧ Q v i'))) 0 [(0, kw_a a0), (1, kw_i x1)] [] T n r i w
  refine kk_aload_n hm.1 0 dX10_seams_0 rfl rfl ?_
  refine kk_iload_n hm.1 1 dX10_seams_1 rfl rfl ?_
  refine kk_callVi (cs' := 0) (sl' := 0) (st := []) hm.1 cv_X10_286 (t_X10_isOrFirst h0 h) dX10_seams_2 h0 rfl rfl hm.2.2.1 ⟨by decide, by decide⟩ ⟨by decide, by decide⟩ rfl rfl (Nat.le_of_ble_eq_true rfl) rfl ?_
  rintro v2 _ _ _ _ _ ⟨rfl, rfl, rfl, rfl, rfl, h⟩
  refine kk_if_ne (tgt := 10) hm.1 dX10_seams_5 (by decide) (fun c5 => ?_) (fun c5 => ?_)
  · have h := h.1 c5
    refine kk_aload_n hm.1 0 dX10_seams_10 rfl rfl ?_
    refine kk_callVv (cs' := 0) (sl' := 0) (st := []) hm.1 cv_X10_280 (t_X10_looks h0 h) dX10_seams_11 h0 rfl rfl hm.2.2.1 ⟨by decide, by decide⟩ ⟨by decide, by decide⟩ rfl rfl (Nat.le_of_ble_eq_true rfl) rfl ?_
    rintro _ _ _ i11 _ ⟨rfl, rfl, rfl, rfl, h⟩
    refine kk_aload_n hm.1 0 dX10_seams_14 rfl rfl ?_
    refine kk_getR hm.1 ff_X10_52 dX10_seams_15 h0 ?_
    refine kk_bipush (v := (36 : Int32)) hm.1 dX10_seams_18 (by decide) ?_
    refine kk_iload_n hm.1 1 dX10_seams_20 rfl rfl ?_
    refine kk_iconst (v := (1 : Int32)) hm.1 dX10_seams_21 (by decide) ?_
    refine kk_iadd hm.1 dX10_seams_22 ?_
    refine kk_imul hm.1 dX10_seams_23 ?_
    refine kk_callSi (cs' := 0) (sl' := 0) (st := []) hm.1 cs_X10_303 (t_X10_seamsOf h) dX10_seams_24 rfl hm.2.2.1 ⟨by decide, by decide⟩ ⟨by decide, by decide⟩ rfl rfl (Nat.le_of_ble_eq_true rfl) rfl ?_
    rintro v24 _ _ _ _ _ ⟨rfl, rfl, rfl, rfl, rfl, h⟩
    exact kk_iret hm.1 hm.2.1 dX10_seams_27 ⟨_, rfl, rfl, rfl, rfl, rfl, h⟩
  · have h := h.2 c5
    refine kk_iconst (v := (-1 : Int32)) hm.1 dX10_seams_8 (by decide) ?_
    exact kk_iret hm.1 hm.2.1 dX10_seams_9 ⟨_, rfl, rfl, rfl, rfl, rfl, h⟩
def s_X10_eats_59 (a0 : Nat) (x1 : Int32) (T : kw_T) (n : Nat) (r : kw_R) (w : kw_L) (Q : Int32 → kw_I → Prop)  (k59 : Int32 → Int32 → kw_I → Prop) (x2 : Int32) (x3 : Int32) (i : kw_I) : Prop :=
  (x3 ≤ x2 → kw_in T 1 (r a0 33) x2 ∧ (∀ i90 : kw_I, i90 = kw_st i (r a0 33) (x2).toNatClampNeg x1 → (∀ i98 : kw_I, i98 = kw_st i90 a0 35 ((i90 a0 35) + (1 : Int32)) → (Q (1 : Int32) i98)))) ∧ (¬ x3 ≤ x2 → kw_in T 1 (r a0 33) (x3 - (1 : Int32)) ∧ (kw_in T 1 (r a0 33) x3 ∧ (∀ i77 : kw_I, i77 = kw_st i (r a0 33) (x3).toNatClampNeg (i (r a0 33) ((x3 - (1 : Int32))).toNatClampNeg) → (k59 x2 ((x3 + (-1 : Int32))) i77))))
def w_X10_eats_59 (a0 : Nat) (x1 : Int32) (T : kw_T) (n : Nat) (r : kw_R) (w : kw_L) (Q : Int32 → kw_I → Prop)  : Nat → Int32 → Int32 → kw_I → Prop
  | 0 => fun _ _ _ => False
  | N + 1 => s_X10_eats_59 a0 x1 T n r w Q  (w_X10_eats_59 a0 x1 T n r w Q  N)
def w_X10_eats_54 (a0 : Nat) (x1 : Int32) (T : kw_T) (n : Nat) (r : kw_R) (w : kw_L) (Q : Int32 → kw_I → Prop)  (x2 : Int32) (i : kw_I) : Prop :=
  ∃ N, w_X10_eats_59 a0 x1 T n r w Q  N x2 ((i a0 35)) i
def w_X10_eats_36 (a0 : Nat) (x1 : Int32) (T : kw_T) (n : Nat) (r : kw_R) (w : kw_L) (Q : Int32 → kw_I → Prop)  (x2 : Int32) (i : kw_I) : Prop :=
  (x2 ≤ 0 → w_X10_eats_54 a0 x1 T n r w Q  x2 i) ∧ (¬ x2 ≤ 0 → kw_in T 1 (r a0 33) (x2 - (1 : Int32)) ∧ ((¬ (i (r a0 33) ((x2 - (1 : Int32))).toNatClampNeg) = x1 → w_X10_eats_54 a0 x1 T n r w Q  x2 i) ∧ ((i (r a0 33) ((x2 - (1 : Int32))).toNatClampNeg) = x1 → Q (0 : Int32) i)))
def s_X10_eats_14 (a0 : Nat) (x1 : Int32) (T : kw_T) (n : Nat) (r : kw_R) (w : kw_L) (Q : Int32 → kw_I → Prop)  (k14 : Int32 → kw_I → Prop) (x2 : Int32) (i : kw_I) : Prop :=
  (x2 ≤ 0 → w_X10_eats_36 a0 x1 T n r w Q  x2 i) ∧ (¬ x2 ≤ 0 → kw_in T 1 (r a0 33) (x2 - (1 : Int32)) ∧ (((i (r a0 33) ((x2 - (1 : Int32))).toNatClampNeg) ≤ x1 → w_X10_eats_36 a0 x1 T n r w Q  x2 i) ∧ (¬ (i (r a0 33) ((x2 - (1 : Int32))).toNatClampNeg) ≤ x1 → k14 ((x2 + (-1 : Int32))) i)))
def w_X10_eats_14 (a0 : Nat) (x1 : Int32) (T : kw_T) (n : Nat) (r : kw_R) (w : kw_L) (Q : Int32 → kw_I → Prop)  : Nat → Int32 → kw_I → Prop
  | 0 => fun _ _ => False
  | N + 1 => s_X10_eats_14 a0 x1 T n r w Q  (w_X10_eats_14 a0 x1 T n r w Q  N)
def w_X10_eats  (a0 : Nat) (x1 : Int32) (T : kw_T) (n : Nat) (r : kw_R) (i : kw_I) (w : kw_L) (Q : Int32 → kw_I → Prop) : Prop :=
  w_X10_isCell x1 T n r i w (fun v1 => (¬ v1 = 0 → ∃ N, w_X10_eats_14 a0 x1 T n r w Q  N ((i a0 35)) i) ∧ (v1 = 0 → Q (0 : Int32) i))
abbrev rm_X10_eats : Room := { frames := 3, cells := 0, slots := 0, locals := 102 }
set_option maxHeartbeats 4000000 in
set_option maxRecDepth 100000 in
theorem qs_X10_eats_59 {a0 : Nat} {x1 : Int32} {T : kw_T} {n : Nat} {r : kw_R} {w : kw_L} {Q : Int32 → kw_I → Prop} {E : kw_E} {G : kw_G} (hm : kw_m E G cX10_eats 4 RX10 (some .boolean) rm_X10_eats "eats")  (h0 : T a0 = (0, 10))    {k59 : Int32 → Int32 → kw_I → Prop} (hk59 : ∀ (x2 : Int32) (x3 : Int32) (i : kw_I), k59 x2 x3 i → kw_K E G 4 0 0 (kw_Z E G 0 0 (kw_PI (fun v T' n' r' i' w' => T = T' ∧ n = n' ∧ r = r' ∧ w = w' ∧ Q v i'))) 59 [(0, kw_a a0), (1, kw_i x1), (2, kw_i x2), (3, kw_i x3)] [] T n r i w) (x2 : Int32) (x3 : Int32) (i : kw_I) (h : s_X10_eats_59 a0 x1 T n r w Q  k59 x2 x3 i) : kw_K E G 4 0 0 (kw_Z E G 0 0 (kw_PI (fun v T' n' r' i' w' => T = T' ∧ n = n' ∧ r = r' ∧ w = w' ∧ Q v i'))) 59 [(0, kw_a a0), (1, kw_i x1), (2, kw_i x2), (3, kw_i x3)] [] T n r i w := by
  refine kk_iload_n hm.1 3 dX10_eats_59 rfl rfl ?_
  refine kk_iload_n hm.1 2 dX10_eats_60 rfl rfl ?_
  refine kk_icmp_le (tgt := 84) hm.1 dX10_eats_61 (by decide) (fun c61 => ?_) (fun c61 => ?_)
  · have h := h.1 c61
    refine kk_aload_n hm.1 0 dX10_eats_84 rfl rfl ?_
    refine kk_getR hm.1 ff_X10_67 dX10_eats_85 h0 ?_
    refine kk_iload_n hm.1 2 dX10_eats_88 rfl rfl ?_
    refine kk_iload_n hm.1 1 dX10_eats_89 rfl rfl ?_
    obtain ⟨o90, h⟩ := h
    refine kn_iastore hm.1 dX10_eats_90 o90 (fun i90 e90 => ?_)
    have h := h i90 e90
    refine kk_aload_n hm.1 0 dX10_eats_91 rfl rfl ?_
    refine kk_dup hm.1 dX10_eats_92 rfl ?_
    refine kk_getI hm.1 ff_X10_307 dX10_eats_93 h0 ?_
    refine kk_iconst (v := (1 : Int32)) hm.1 dX10_eats_96 (by decide) ?_
    refine kk_iadd hm.1 dX10_eats_97 ?_
    refine kn_putI hm.1 fp_X10_307 dX10_eats_98 h0 (fun i98 e98 => ?_)
    have h := h i98 e98
    refine kk_iconst (v := (1 : Int32)) hm.1 dX10_eats_101 (by decide) ?_
    exact kk_zret hm.1 hm.2.1 dX10_eats_102 (Or.inr rfl) ⟨_, rfl, rfl, rfl, rfl, rfl, h⟩
  · have h := h.2 c61
    refine kk_aload_n hm.1 0 dX10_eats_64 rfl rfl ?_
    refine kk_getR hm.1 ff_X10_67 dX10_eats_65 h0 ?_
    refine kk_iload_n hm.1 3 dX10_eats_68 rfl rfl ?_
    refine kk_aload_n hm.1 0 dX10_eats_69 rfl rfl ?_
    refine kk_getR hm.1 ff_X10_67 dX10_eats_70 h0 ?_
    refine kk_iload_n hm.1 3 dX10_eats_73 rfl rfl ?_
    refine kk_iconst (v := (1 : Int32)) hm.1 dX10_eats_74 (by decide) ?_
    refine kk_isub hm.1 dX10_eats_75 ?_
    obtain ⟨o76, h⟩ := h
    refine kk_iaload hm.1 dX10_eats_76 o76 ?_
    obtain ⟨o77, h⟩ := h
    refine kn_iastore hm.1 dX10_eats_77 o77 (fun i77 e77 => ?_)
    have h := h i77 e77
    refine kk_iinc (v := (x3 + (-1 : Int32))) (L' := [(3, kw_i (x3 + (-1 : Int32))), (0, kw_a a0), (1, kw_i x1), (2, kw_i x2)]) hm.1 3 dX10_eats_78 rfl rfl (by decide) rfl ?_
    refine kk_goto (tgt := 59) hm.1 dX10_eats_81 (by decide) ?_
    refine kk_loc (L' := [(0, kw_a a0), (1, kw_i x1), (2, kw_i x2), (3, kw_i (x3 + (-1 : Int32)))]) [1, 2, 3, 0] rfl ?_
    exact hk59 x2 ((x3 + (-1 : Int32))) i77 h
set_option maxHeartbeats 4000000 in
set_option maxRecDepth 100000 in
theorem q_X10_eats_59 {a0 : Nat} {x1 : Int32} {T : kw_T} {n : Nat} {r : kw_R} {w : kw_L} {Q : Int32 → kw_I → Prop} {E : kw_E} {G : kw_G} (hm : kw_m E G cX10_eats 4 RX10 (some .boolean) rm_X10_eats "eats")  (h0 : T a0 = (0, 10))    : ∀ (N : Nat) (x2 : Int32) (x3 : Int32) (i : kw_I), w_X10_eats_59 a0 x1 T n r w Q  N x2 x3 i → kw_K E G 4 0 0 (kw_Z E G 0 0 (kw_PI (fun v T' n' r' i' w' => T = T' ∧ n = n' ∧ r = r' ∧ w = w' ∧ Q v i'))) 59 [(0, kw_a a0), (1, kw_i x1), (2, kw_i x2), (3, kw_i x3)] [] T n r i w := by
  intro N
  induction N with
  | zero => intro x2 x3 i h; exact h.elim
  | succ N ih => intro x2 x3 i h; exact qs_X10_eats_59 hm  h0  ih x2 x3 i h
set_option maxHeartbeats 4000000 in
set_option maxRecDepth 100000 in
theorem q_X10_eats_54 {a0 : Nat} {x1 : Int32} {T : kw_T} {n : Nat} {r : kw_R} {w : kw_L} {Q : Int32 → kw_I → Prop} {E : kw_E} {G : kw_G} (hm : kw_m E G cX10_eats 4 RX10 (some .boolean) rm_X10_eats "eats")  (h0 : T a0 = (0, 10))    (x2 : Int32) (i : kw_I) (h : w_X10_eats_54 a0 x1 T n r w Q  x2 i) : kw_K E G 4 0 0 (kw_Z E G 0 0 (kw_PI (fun v T' n' r' i' w' => T = T' ∧ n = n' ∧ r = r' ∧ w = w' ∧ Q v i'))) 54 [(0, kw_a a0), (1, kw_i x1), (2, kw_i x2)] [] T n r i w := by
  refine kk_aload_n hm.1 0 dX10_eats_54 rfl rfl ?_
  refine kk_getI hm.1 ff_X10_307 dX10_eats_55 h0 ?_
  refine kk_istore_n (L' := [(3, kw_i (i a0 35)), (0, kw_a a0), (1, kw_i x1), (2, kw_i x2)]) hm.1 dX10_eats_58 rfl (by decide) rfl ?_
  refine kk_loc (L' := [(0, kw_a a0), (1, kw_i x1), (2, kw_i x2), (3, kw_i (i a0 35))]) [1, 2, 3, 0] rfl ?_
  obtain ⟨N, h⟩ := h
  exact q_X10_eats_59 hm  h0   N x2 ((i a0 35)) i h
set_option maxHeartbeats 4000000 in
set_option maxRecDepth 100000 in
theorem q_X10_eats_36 {a0 : Nat} {x1 : Int32} {T : kw_T} {n : Nat} {r : kw_R} {w : kw_L} {Q : Int32 → kw_I → Prop} {E : kw_E} {G : kw_G} (hm : kw_m E G cX10_eats 4 RX10 (some .boolean) rm_X10_eats "eats")  (h0 : T a0 = (0, 10))    (x2 : Int32) (i : kw_I) (h : w_X10_eats_36 a0 x1 T n r w Q  x2 i) : kw_K E G 4 0 0 (kw_Z E G 0 0 (kw_PI (fun v T' n' r' i' w' => T = T' ∧ n = n' ∧ r = r' ∧ w = w' ∧ Q v i'))) 36 [(0, kw_a a0), (1, kw_i x1), (2, kw_i x2)] [] T n r i w := by
  refine kk_iload_n hm.1 2 dX10_eats_36 rfl rfl ?_
  refine kk_if_le (tgt := 54) hm.1 dX10_eats_37 (by decide) (fun c37 => ?_) (fun c37 => ?_)
  · have h := h.1 c37
    exact q_X10_eats_54 hm  h0   x2 i h
  · have h := h.2 c37
    refine kk_aload_n hm.1 0 dX10_eats_40 rfl rfl ?_
    refine kk_getR hm.1 ff_X10_67 dX10_eats_41 h0 ?_
    refine kk_iload_n hm.1 2 dX10_eats_44 rfl rfl ?_
    refine kk_iconst (v := (1 : Int32)) hm.1 dX10_eats_45 (by decide) ?_
    refine kk_isub hm.1 dX10_eats_46 ?_
    obtain ⟨o47, h⟩ := h
    refine kk_iaload hm.1 dX10_eats_47 o47 ?_
    refine kk_iload_n hm.1 1 dX10_eats_48 rfl rfl ?_
    refine kk_icmp_ne (tgt := 54) hm.1 dX10_eats_49 (by decide) (fun c49 => ?_) (fun c49 => ?_)
    · have h := h.1 c49
      exact q_X10_eats_54 hm  h0   x2 i h
    · have h := h.2 c49
      refine kk_iconst (v := (0 : Int32)) hm.1 dX10_eats_52 (by decide) ?_
      exact kk_zret hm.1 hm.2.1 dX10_eats_53 (Or.inl rfl) ⟨_, rfl, rfl, rfl, rfl, rfl, h⟩
set_option maxHeartbeats 4000000 in
set_option maxRecDepth 100000 in
theorem qs_X10_eats_14 {a0 : Nat} {x1 : Int32} {T : kw_T} {n : Nat} {r : kw_R} {w : kw_L} {Q : Int32 → kw_I → Prop} {E : kw_E} {G : kw_G} (hm : kw_m E G cX10_eats 4 RX10 (some .boolean) rm_X10_eats "eats")  (h0 : T a0 = (0, 10))    {k14 : Int32 → kw_I → Prop} (hk14 : ∀ (x2 : Int32) (i : kw_I), k14 x2 i → kw_K E G 4 0 0 (kw_Z E G 0 0 (kw_PI (fun v T' n' r' i' w' => T = T' ∧ n = n' ∧ r = r' ∧ w = w' ∧ Q v i'))) 14 [(0, kw_a a0), (1, kw_i x1), (2, kw_i x2)] [] T n r i w) (x2 : Int32) (i : kw_I) (h : s_X10_eats_14 a0 x1 T n r w Q  k14 x2 i) : kw_K E G 4 0 0 (kw_Z E G 0 0 (kw_PI (fun v T' n' r' i' w' => T = T' ∧ n = n' ∧ r = r' ∧ w = w' ∧ Q v i'))) 14 [(0, kw_a a0), (1, kw_i x1), (2, kw_i x2)] [] T n r i w := by
  refine kk_iload_n hm.1 2 dX10_eats_14 rfl rfl ?_
  refine kk_if_le (tgt := 36) hm.1 dX10_eats_15 (by decide) (fun c15 => ?_) (fun c15 => ?_)
  · have h := h.1 c15
    exact q_X10_eats_36 hm  h0   x2 i h
  · have h := h.2 c15
    refine kk_aload_n hm.1 0 dX10_eats_18 rfl rfl ?_
    refine kk_getR hm.1 ff_X10_67 dX10_eats_19 h0 ?_
    refine kk_iload_n hm.1 2 dX10_eats_22 rfl rfl ?_
    refine kk_iconst (v := (1 : Int32)) hm.1 dX10_eats_23 (by decide) ?_
    refine kk_isub hm.1 dX10_eats_24 ?_
    obtain ⟨o25, h⟩ := h
    refine kk_iaload hm.1 dX10_eats_25 o25 ?_
    refine kk_iload_n hm.1 1 dX10_eats_26 rfl rfl ?_
    refine kk_icmp_le (tgt := 36) hm.1 dX10_eats_27 (by decide) (fun c27 => ?_) (fun c27 => ?_)
    · have h := h.1 c27
      exact q_X10_eats_36 hm  h0   x2 i h
    · have h := h.2 c27
      refine kk_iinc (v := (x2 + (-1 : Int32))) (L' := [(2, kw_i (x2 + (-1 : Int32))), (0, kw_a a0), (1, kw_i x1)]) hm.1 2 dX10_eats_30 rfl rfl (by decide) rfl ?_
      refine kk_goto (tgt := 14) hm.1 dX10_eats_33 (by decide) ?_
      refine kk_loc (L' := [(0, kw_a a0), (1, kw_i x1), (2, kw_i (x2 + (-1 : Int32)))]) [1, 2, 0] rfl ?_
      exact hk14 ((x2 + (-1 : Int32))) i h
set_option maxHeartbeats 4000000 in
set_option maxRecDepth 100000 in
theorem q_X10_eats_14 {a0 : Nat} {x1 : Int32} {T : kw_T} {n : Nat} {r : kw_R} {w : kw_L} {Q : Int32 → kw_I → Prop} {E : kw_E} {G : kw_G} (hm : kw_m E G cX10_eats 4 RX10 (some .boolean) rm_X10_eats "eats")  (h0 : T a0 = (0, 10))    : ∀ (N : Nat) (x2 : Int32) (i : kw_I), w_X10_eats_14 a0 x1 T n r w Q  N x2 i → kw_K E G 4 0 0 (kw_Z E G 0 0 (kw_PI (fun v T' n' r' i' w' => T = T' ∧ n = n' ∧ r = r' ∧ w = w' ∧ Q v i'))) 14 [(0, kw_a a0), (1, kw_i x1), (2, kw_i x2)] [] T n r i w := by
  intro N
  induction N with
  | zero => intro x2 i h; exact h.elim
  | succ N ih => intro x2 i h; exact qs_X10_eats_14 hm  h0  ih x2 i h
set_option maxHeartbeats 4000000 in
set_option maxRecDepth 100000 in
theorem t_X10_eats {l : Launch} {G : kw_G} {a0 : Nat} {x1 : Int32} {T : kw_T} {n : Nat} {r : kw_R} {i : kw_I} {w : kw_L} {Q : Int32 → kw_I → Prop} (h0 : T a0 = (0, 10)) (h : w_X10_eats a0 x1 T n r i w Q) : kw_Met l G yX10_eats cX10_eats 4 (some .boolean) rm_X10_eats [kw_a a0, kw_i x1] (T, n, r, i, w) (kw_PI (fun v T' n' r' i' w' => T = T' ∧ n = n' ∧ r = r' ∧ w = w' ∧ Q v i')) := by
  refine kw_Met.of (by decide) (Nat.le_of_ble_eq_true rfl) fun E hl hRm hE hT hnm => ?_
  have hm : kw_m E G cX10_eats 4 RX10 (some .boolean) rm_X10_eats "eats" := ⟨hE, hT, hRm, hnm⟩
  subst hl
  show kw_K E G 4 0 0 (kw_Z E G 0 0 (kw_PI (fun v T' n' r' i' w' => T = T' ∧ n = n' ∧ r = r' ∧ w = w' ∧ Q v i'))) 0 [(0, kw_a a0), (1, kw_i x1)] [] T n r i w
  refine kk_iload_n hm.1 1 dX10_eats_0 rfl rfl ?_
  refine kk_callSi (cs' := 0) (sl' := 0) (st := []) hm.1 cs_X10_104 (t_X10_isCell h) dX10_eats_1 rfl hm.2.2.1 ⟨by decide, by decide⟩ ⟨by decide, by decide⟩ rfl rfl (Nat.le_of_ble_eq_true rfl) rfl ?_
  rintro v1 _ _ _ _ _ ⟨rfl, rfl, rfl, rfl, rfl, h⟩
  refine kk_if_ne (tgt := 9) hm.1 dX10_eats_4 (by decide) (fun c4 => ?_) (fun c4 => ?_)
  · have h := h.1 c4
    refine kk_aload_n hm.1 0 dX10_eats_9 rfl rfl ?_
    refine kk_getI hm.1 ff_X10_307 dX10_eats_10 h0 ?_
    refine kk_istore_n (L' := [(2, kw_i (i a0 35)), (0, kw_a a0), (1, kw_i x1)]) hm.1 dX10_eats_13 rfl (by decide) rfl ?_
    refine kk_loc (L' := [(0, kw_a a0), (1, kw_i x1), (2, kw_i (i a0 35))]) [1, 2, 0] rfl ?_
    obtain ⟨N, h⟩ := h
    exact q_X10_eats_14 hm  h0   N ((i a0 35)) i h
  · have h := h.2 c4
    refine kk_iconst (v := (0 : Int32)) hm.1 dX10_eats_7 (by decide) ?_
    exact kk_zret hm.1 hm.2.1 dX10_eats_8 (Or.inl rfl) ⟨_, rfl, rfl, rfl, rfl, rfl, h⟩
