def w_X0_slipAt_74 (a0 : Nat) (x1 : Int32) (T : kw_T) (n : Nat) (r : kw_R) (i : kw_I) (w : kw_L) (Q : Int32 → Prop) (k18 : Int32 → Int32 → Prop) (k35 : Int32 → Int32 → Int32 → Prop) (x2 : Int32) (x3 : Int32) (x4 : Int32) : Prop :=
  k35 x2 x3 ((x4 + (1 : Int32)))
def s_X0_slipAt_35 (a0 : Nat) (x1 : Int32) (T : kw_T) (n : Nat) (r : kw_R) (i : kw_I) (w : kw_L) (Q : Int32 → Prop) (k18 : Int32 → Int32 → Prop) (k35 : Int32 → Int32 → Int32 → Prop) (x2 : Int32) (x3 : Int32) (x4 : Int32) : Prop :=
  ((8 : Int32) ≤ x4 → k18 x2 ((x3 + (1 : Int32)))) ∧ (¬ (8 : Int32) ≤ x4 → kw_in T 1 (r a0 9) x3 ∧ ((¬ (((i (r a0 9) (x3).toNatClampNeg) >>> (x4 &&& 31)) &&& (1 : Int32)) = 0 → (¬ x2 = 0 → w_X0_slipAt_74 a0 x1 T n r i w Q k18 k35 ((x2 + (-1 : Int32))) x3 x4) ∧ (x2 = 0 → Q ((x3 * (8 : Int32)) + x4))) ∧ ((((i (r a0 9) (x3).toNatClampNeg) >>> (x4 &&& 31)) &&& (1 : Int32)) = 0 → w_X0_slipAt_74 a0 x1 T n r i w Q k18 k35 x2 x3 x4)))
def w_X0_slipAt_35 (a0 : Nat) (x1 : Int32) (T : kw_T) (n : Nat) (r : kw_R) (i : kw_I) (w : kw_L) (Q : Int32 → Prop) (k18 : Int32 → Int32 → Prop) : Nat → Int32 → Int32 → Int32 → Prop
  | 0 => fun _ _ _ => False
  | N + 1 => s_X0_slipAt_35 a0 x1 T n r i w Q k18 (w_X0_slipAt_35 a0 x1 T n r i w Q k18 N)
def s_X0_slipAt_18 (a0 : Nat) (x1 : Int32) (T : kw_T) (n : Nat) (r : kw_R) (i : kw_I) (w : kw_L) (Q : Int32 → Prop)  (k18 : Int32 → Int32 → Prop) (x2 : Int32) (x3 : Int32) : Prop :=
  T ((r a0 1)) = (0, 2) ∧ ((((i (r a0 1) 5) * (36 : Int32)) ≤ x3 → Q (-1 : Int32)) ∧ (¬ ((i (r a0 1) 5) * (36 : Int32)) ≤ x3 → ∃ N, w_X0_slipAt_35 a0 x1 T n r i w Q k18 N x2 x3 ((0 : Int32))))
def w_X0_slipAt_18 (a0 : Nat) (x1 : Int32) (T : kw_T) (n : Nat) (r : kw_R) (i : kw_I) (w : kw_L) (Q : Int32 → Prop)  : Nat → Int32 → Int32 → Prop
  | 0 => fun _ _ => False
  | N + 1 => s_X0_slipAt_18 a0 x1 T n r i w Q  (w_X0_slipAt_18 a0 x1 T n r i w Q  N)
def w_X0_slipAt  (a0 : Nat) (x1 : Int32) (T : kw_T) (n : Nat) (r : kw_R) (i : kw_I) (w : kw_L) (Q : Int32 → Prop) : Prop :=
  (x1 < 0 → Q (-1 : Int32)) ∧ (¬ x1 < 0 → (x1 < (i a0 10) → ∃ N, w_X0_slipAt_18 a0 x1 T n r i w Q  N x1 ((0 : Int32))) ∧ (¬ x1 < (i a0 10) → Q (-1 : Int32)))
abbrev rm_X0_slipAt : Room := { frames := 1, cells := 0, slots := 0, locals := 60 }
set_option maxHeartbeats 4000000 in
set_option maxRecDepth 100000 in
theorem q_X0_slipAt_74 {a0 : Nat} {x1 : Int32} {T : kw_T} {n : Nat} {r : kw_R} {i : kw_I} {w : kw_L} {Q : Int32 → Prop} {E : kw_E} {G : kw_G} (hm : kw_m E G cX0_slipAt 5 RX0 (some .int) rm_X0_slipAt "slipAt")  (h0 : T a0 = (0, 0))  {k18 : Int32 → Int32 → Prop} {k35 : Int32 → Int32 → Int32 → Prop} (hk18 : ∀ (x2 : Int32) (x3 : Int32), k18 x2 x3 → kw_K E G 5 0 0 (kw_Z E G 0 0 (kw_PI (fun v T' n' r' i' w' => T = T' ∧ n = n' ∧ r = r' ∧ i = i' ∧ w = w' ∧ Q v))) 18 [(0, kw_a a0), (1, kw_i x1), (2, kw_i x2), (3, kw_i x3)] [] T n r i w) (hk35 : ∀ (x2 : Int32) (x3 : Int32) (x4 : Int32), k35 x2 x3 x4 → kw_K E G 5 0 0 (kw_Z E G 0 0 (kw_PI (fun v T' n' r' i' w' => T = T' ∧ n = n' ∧ r = r' ∧ i = i' ∧ w = w' ∧ Q v))) 35 [(0, kw_a a0), (1, kw_i x1), (2, kw_i x2), (3, kw_i x3), (4, kw_i x4)] [] T n r i w) (x2 : Int32) (x3 : Int32) (x4 : Int32) (h : w_X0_slipAt_74 a0 x1 T n r i w Q k18 k35 x2 x3 x4) : kw_K E G 5 0 0 (kw_Z E G 0 0 (kw_PI (fun v T' n' r' i' w' => T = T' ∧ n = n' ∧ r = r' ∧ i = i' ∧ w = w' ∧ Q v))) 74 [(0, kw_a a0), (1, kw_i x1), (2, kw_i x2), (3, kw_i x3), (4, kw_i x4)] [] T n r i w := by
  refine kk_iinc (v := (x4 + (1 : Int32))) (L' := [(4, kw_i (x4 + (1 : Int32))), (0, kw_a a0), (1, kw_i x1), (2, kw_i x2), (3, kw_i x3)]) hm.1 4 dX0_slipAt_74 rfl rfl (by decide) rfl ?_
  refine kk_goto (tgt := 35) hm.1 dX0_slipAt_77 (by decide) ?_
  refine kk_loc (L' := [(0, kw_a a0), (1, kw_i x1), (2, kw_i x2), (3, kw_i x3), (4, kw_i (x4 + (1 : Int32)))]) [1, 2, 3, 4, 0] rfl ?_
  exact hk35 x2 x3 ((x4 + (1 : Int32))) h
set_option maxHeartbeats 4000000 in
set_option maxRecDepth 100000 in
theorem qs_X0_slipAt_35 {a0 : Nat} {x1 : Int32} {T : kw_T} {n : Nat} {r : kw_R} {i : kw_I} {w : kw_L} {Q : Int32 → Prop} {E : kw_E} {G : kw_G} (hm : kw_m E G cX0_slipAt 5 RX0 (some .int) rm_X0_slipAt "slipAt")  (h0 : T a0 = (0, 0))  {k18 : Int32 → Int32 → Prop} (hk18 : ∀ (x2 : Int32) (x3 : Int32), k18 x2 x3 → kw_K E G 5 0 0 (kw_Z E G 0 0 (kw_PI (fun v T' n' r' i' w' => T = T' ∧ n = n' ∧ r = r' ∧ i = i' ∧ w = w' ∧ Q v))) 18 [(0, kw_a a0), (1, kw_i x1), (2, kw_i x2), (3, kw_i x3)] [] T n r i w) {k35 : Int32 → Int32 → Int32 → Prop} (hk35 : ∀ (x2 : Int32) (x3 : Int32) (x4 : Int32), k35 x2 x3 x4 → kw_K E G 5 0 0 (kw_Z E G 0 0 (kw_PI (fun v T' n' r' i' w' => T = T' ∧ n = n' ∧ r = r' ∧ i = i' ∧ w = w' ∧ Q v))) 35 [(0, kw_a a0), (1, kw_i x1), (2, kw_i x2), (3, kw_i x3), (4, kw_i x4)] [] T n r i w) (x2 : Int32) (x3 : Int32) (x4 : Int32) (h : s_X0_slipAt_35 a0 x1 T n r i w Q k18 k35 x2 x3 x4) : kw_K E G 5 0 0 (kw_Z E G 0 0 (kw_PI (fun v T' n' r' i' w' => T = T' ∧ n = n' ∧ r = r' ∧ i = i' ∧ w = w' ∧ Q v))) 35 [(0, kw_a a0), (1, kw_i x1), (2, kw_i x2), (3, kw_i x3), (4, kw_i x4)] [] T n r i w := by
  refine kk_iload hm.1 4 dX0_slipAt_35 rfl ?_
  refine kk_bipush (v := (8 : Int32)) hm.1 dX0_slipAt_37 (by decide) ?_
  refine kk_icmp_ge (tgt := 80) hm.1 dX0_slipAt_39 (by decide) (fun c39 => ?_) (fun c39 => ?_)
  · have h := h.1 c39
    refine kk_iinc (v := (x3 + (1 : Int32))) (L' := [(3, kw_i (x3 + (1 : Int32))), (0, kw_a a0), (1, kw_i x1), (2, kw_i x2), (4, kw_i x4)]) hm.1 3 dX0_slipAt_80 rfl rfl (by decide) rfl ?_
    refine kk_goto (tgt := 18) hm.1 dX0_slipAt_83 (by decide) ?_
    refine kk_loc (L' := [(0, kw_a a0), (1, kw_i x1), (2, kw_i x2), (3, kw_i (x3 + (1 : Int32)))]) [1, 2, 3, 0] rfl ?_
    exact hk18 x2 ((x3 + (1 : Int32))) h
  · have h := h.2 c39
    refine kk_aload_n hm.1 0 dX0_slipAt_42 rfl rfl ?_
    refine kk_getR hm.1 ff_X0_38 dX0_slipAt_43 h0 ?_
    refine kk_iload_n hm.1 3 dX0_slipAt_46 rfl rfl ?_
    obtain ⟨o47, h⟩ := h
    refine kk_iaload hm.1 dX0_slipAt_47 o47 ?_
    refine kk_iload hm.1 4 dX0_slipAt_48 rfl ?_
    refine kk_ishr hm.1 dX0_slipAt_50 ?_
    refine kk_iconst (v := (1 : Int32)) hm.1 dX0_slipAt_51 (by decide) ?_
    refine kk_iand hm.1 dX0_slipAt_52 ?_
    refine kk_if_ne (tgt := 59) hm.1 dX0_slipAt_53 (by decide) (fun c53 => ?_) (fun c53 => ?_)
    · have h := h.1 c53
      refine kk_iload_n hm.1 2 dX0_slipAt_59 rfl rfl ?_
      refine kk_if_ne (tgt := 71) hm.1 dX0_slipAt_60 (by decide) (fun c60 => ?_) (fun c60 => ?_)
      · have h := h.1 c60
        refine kk_iinc (v := (x2 + (-1 : Int32))) (L' := [(2, kw_i (x2 + (-1 : Int32))), (0, kw_a a0), (1, kw_i x1), (3, kw_i x3), (4, kw_i x4)]) hm.1 2 dX0_slipAt_71 rfl rfl (by decide) rfl ?_
        refine kk_loc (L' := [(0, kw_a a0), (1, kw_i x1), (2, kw_i (x2 + (-1 : Int32))), (3, kw_i x3), (4, kw_i x4)]) [1, 2, 0, 3, 4] rfl ?_
        exact q_X0_slipAt_74 hm  h0  hk18 hk35 ((x2 + (-1 : Int32))) x3 x4 h
      · have h := h.2 c60
        refine kk_iload_n hm.1 3 dX0_slipAt_63 rfl rfl ?_
        refine kk_bipush (v := (8 : Int32)) hm.1 dX0_slipAt_64 (by decide) ?_
        refine kk_imul hm.1 dX0_slipAt_66 ?_
        refine kk_iload hm.1 4 dX0_slipAt_67 rfl ?_
        refine kk_iadd hm.1 dX0_slipAt_69 ?_
        exact kk_iret hm.1 hm.2.1 dX0_slipAt_70 ⟨_, rfl, rfl, rfl, rfl, rfl, rfl, h⟩
    · have h := h.2 c53
      refine kk_goto (tgt := 74) hm.1 dX0_slipAt_56 (by decide) ?_
      exact q_X0_slipAt_74 hm  h0  hk18 hk35 x2 x3 x4 h
set_option maxHeartbeats 4000000 in
set_option maxRecDepth 100000 in
theorem q_X0_slipAt_35 {a0 : Nat} {x1 : Int32} {T : kw_T} {n : Nat} {r : kw_R} {i : kw_I} {w : kw_L} {Q : Int32 → Prop} {E : kw_E} {G : kw_G} (hm : kw_m E G cX0_slipAt 5 RX0 (some .int) rm_X0_slipAt "slipAt")  (h0 : T a0 = (0, 0))  {k18 : Int32 → Int32 → Prop} (hk18 : ∀ (x2 : Int32) (x3 : Int32), k18 x2 x3 → kw_K E G 5 0 0 (kw_Z E G 0 0 (kw_PI (fun v T' n' r' i' w' => T = T' ∧ n = n' ∧ r = r' ∧ i = i' ∧ w = w' ∧ Q v))) 18 [(0, kw_a a0), (1, kw_i x1), (2, kw_i x2), (3, kw_i x3)] [] T n r i w) : ∀ (N : Nat) (x2 : Int32) (x3 : Int32) (x4 : Int32), w_X0_slipAt_35 a0 x1 T n r i w Q k18 N x2 x3 x4 → kw_K E G 5 0 0 (kw_Z E G 0 0 (kw_PI (fun v T' n' r' i' w' => T = T' ∧ n = n' ∧ r = r' ∧ i = i' ∧ w = w' ∧ Q v))) 35 [(0, kw_a a0), (1, kw_i x1), (2, kw_i x2), (3, kw_i x3), (4, kw_i x4)] [] T n r i w := by
  intro N
  induction N with
  | zero => intro x2 x3 x4 h; exact h.elim
  | succ N ih => intro x2 x3 x4 h; exact qs_X0_slipAt_35 hm  h0 hk18 ih x2 x3 x4 h
set_option maxHeartbeats 4000000 in
set_option maxRecDepth 100000 in
theorem qs_X0_slipAt_18 {a0 : Nat} {x1 : Int32} {T : kw_T} {n : Nat} {r : kw_R} {i : kw_I} {w : kw_L} {Q : Int32 → Prop} {E : kw_E} {G : kw_G} (hm : kw_m E G cX0_slipAt 5 RX0 (some .int) rm_X0_slipAt "slipAt")  (h0 : T a0 = (0, 0))    {k18 : Int32 → Int32 → Prop} (hk18 : ∀ (x2 : Int32) (x3 : Int32), k18 x2 x3 → kw_K E G 5 0 0 (kw_Z E G 0 0 (kw_PI (fun v T' n' r' i' w' => T = T' ∧ n = n' ∧ r = r' ∧ i = i' ∧ w = w' ∧ Q v))) 18 [(0, kw_a a0), (1, kw_i x1), (2, kw_i x2), (3, kw_i x3)] [] T n r i w) (x2 : Int32) (x3 : Int32) (h : s_X0_slipAt_18 a0 x1 T n r i w Q  k18 x2 x3) : kw_K E G 5 0 0 (kw_Z E G 0 0 (kw_PI (fun v T' n' r' i' w' => T = T' ∧ n = n' ∧ r = r' ∧ i = i' ∧ w = w' ∧ Q v))) 18 [(0, kw_a a0), (1, kw_i x1), (2, kw_i x2), (3, kw_i x3)] [] T n r i w := by
  refine kk_iload_n hm.1 3 dX0_slipAt_18 rfl rfl ?_
  refine kk_aload_n hm.1 0 dX0_slipAt_19 rfl rfl ?_
  refine kk_getR hm.1 ff_X0_57 dX0_slipAt_20 h0 ?_
  obtain ⟨o23, h⟩ := h
  refine kk_getI hm.1 ff_X0_76 dX0_slipAt_23 o23 ?_
  refine kk_bipush (v := (36 : Int32)) hm.1 dX0_slipAt_26 (by decide) ?_
  refine kk_imul hm.1 dX0_slipAt_28 ?_
  refine kk_icmp_ge (tgt := 86) hm.1 dX0_slipAt_29 (by decide) (fun c29 => ?_) (fun c29 => ?_)
  · have h := h.1 c29
    refine kk_iconst (v := (-1 : Int32)) hm.1 dX0_slipAt_86 (by decide) ?_
    exact kk_iret hm.1 hm.2.1 dX0_slipAt_87 ⟨_, rfl, rfl, rfl, rfl, rfl, rfl, h⟩
  · have h := h.2 c29
    refine kk_iconst (v := (0 : Int32)) hm.1 dX0_slipAt_32 (by decide) ?_
    refine kk_istore (L' := [(4, kw_i (0 : Int32)), (0, kw_a a0), (1, kw_i x1), (2, kw_i x2), (3, kw_i x3)]) hm.1 dX0_slipAt_33 (by decide) rfl ?_
    refine kk_loc (L' := [(0, kw_a a0), (1, kw_i x1), (2, kw_i x2), (3, kw_i x3), (4, kw_i (0 : Int32))]) [1, 2, 3, 4, 0] rfl ?_
    obtain ⟨N, h⟩ := h
    exact q_X0_slipAt_35 hm  h0  hk18 N x2 x3 ((0 : Int32)) h
set_option maxHeartbeats 4000000 in
set_option maxRecDepth 100000 in
theorem q_X0_slipAt_18 {a0 : Nat} {x1 : Int32} {T : kw_T} {n : Nat} {r : kw_R} {i : kw_I} {w : kw_L} {Q : Int32 → Prop} {E : kw_E} {G : kw_G} (hm : kw_m E G cX0_slipAt 5 RX0 (some .int) rm_X0_slipAt "slipAt")  (h0 : T a0 = (0, 0))    : ∀ (N : Nat) (x2 : Int32) (x3 : Int32), w_X0_slipAt_18 a0 x1 T n r i w Q  N x2 x3 → kw_K E G 5 0 0 (kw_Z E G 0 0 (kw_PI (fun v T' n' r' i' w' => T = T' ∧ n = n' ∧ r = r' ∧ i = i' ∧ w = w' ∧ Q v))) 18 [(0, kw_a a0), (1, kw_i x1), (2, kw_i x2), (3, kw_i x3)] [] T n r i w := by
  intro N
  induction N with
  | zero => intro x2 x3 h; exact h.elim
  | succ N ih => intro x2 x3 h; exact qs_X0_slipAt_18 hm  h0  ih x2 x3 h
set_option maxHeartbeats 4000000 in
set_option maxRecDepth 100000 in
theorem t_X0_slipAt {l : Launch} {G : kw_G} {a0 : Nat} {x1 : Int32} {T : kw_T} {n : Nat} {r : kw_R} {i : kw_I} {w : kw_L} {Q : Int32 → Prop} (h0 : T a0 = (0, 0)) (h : w_X0_slipAt a0 x1 T n r i w Q) : kw_Met l G yX0_slipAt cX0_slipAt 5 (some .int) rm_X0_slipAt [kw_a a0, kw_i x1] (T, n, r, i, w) (kw_PI (fun v T' n' r' i' w' => T = T' ∧ n = n' ∧ r = r' ∧ i = i' ∧ w = w' ∧ Q v)) := by
  refine kw_Met.of (by decide) (Nat.le_of_ble_eq_true rfl) fun E hl hRm hE hT hnm => ?_
  have hm : kw_m E G cX0_slipAt 5 RX0 (some .int) rm_X0_slipAt "slipAt" := ⟨hE, hT, hRm, hnm⟩
  subst hl
  show kw_K E G 5 0 0 (kw_Z E G 0 0 (kw_PI (fun v T' n' r' i' w' => T = T' ∧ n = n' ∧ r = r' ∧ i = i' ∧ w = w' ∧ Q v))) 0 [(0, kw_a a0), (1, kw_i x1)] [] T n r i w
  refine kk_iload_n hm.1 1 dX0_slipAt_0 rfl rfl ?_
  refine kk_istore_n (L' := [(2, kw_i x1), (0, kw_a a0), (1, kw_i x1)]) hm.1 dX0_slipAt_1 rfl (by decide) rfl ?_
  refine kk_iload_n hm.1 0 dX0_slipAt_2 rfl rfl ?_
  refine kk_if_lt (tgt := 14) hm.1 dX0_slipAt_3 (by decide) (fun c3 => ?_) (fun c3 => ?_)
  · have h := h.1 c3
    refine kk_iconst (v := (-1 : Int32)) hm.1 dX0_slipAt_14 (by decide) ?_
    exact kk_iret hm.1 hm.2.1 dX0_slipAt_15 ⟨_, rfl, rfl, rfl, rfl, rfl, rfl, h⟩
  · have h := h.2 c3
    refine kk_iload_n hm.1 0 dX0_slipAt_6 rfl rfl ?_
    refine kk_aload_n hm.1 1 dX0_slipAt_7 rfl rfl ?_
    refine kk_getI hm.1 ff_X0_41 dX0_slipAt_8 h0 ?_
    refine kk_icmp_lt (tgt := 16) hm.1 dX0_slipAt_11 (by decide) (fun c11 => ?_) (fun c11 => ?_)
    · have h := h.1 c11
      refine kk_iconst (v := (0 : Int32)) hm.1 dX0_slipAt_16 (by decide) ?_
      refine kk_istore_n (L' := [(3, kw_i (0 : Int32)), (2, kw_i x1), (0, kw_a a0), (1, kw_i x1)]) hm.1 dX0_slipAt_17 rfl (by decide) rfl ?_
      refine kk_loc (L' := [(0, kw_a a0), (1, kw_i x1), (2, kw_i x1), (3, kw_i (0 : Int32))]) [2, 3, 1, 0] rfl ?_
      obtain ⟨N, h⟩ := h
      exact q_X0_slipAt_18 hm  h0   N x1 ((0 : Int32)) h
    · have h := h.2 c11
      refine kk_iconst (v := (-1 : Int32)) hm.1 dX0_slipAt_14 (by decide) ?_
      exact kk_iret hm.1 hm.2.1 dX0_slipAt_15 ⟨_, rfl, rfl, rfl, rfl, rfl, rfl, h⟩
def w_X1_init  (a0 : Nat) (x1 : Int32) (a2 : Nat) (a3 : Nat) (T : kw_T) (n : Nat) (r : kw_R) (i : kw_I) (w : kw_L) (Q : kw_R → kw_I → Prop) : Prop :=
  ∀ i6 : kw_I, i6 = kw_st i a0 0 x1 → (∀ r11 : kw_R, r11 = kw_st r a0 1 a2 → (∀ r16 : kw_R, r16 = kw_st r11 a0 2 a3 → (Q r16 i6)))
abbrev rm_X1_init : Room := { frames := 1, cells := 0, slots := 0, locals := 60 }
set_option maxHeartbeats 4000000 in
set_option maxRecDepth 100000 in
theorem t_X1_init {l : Launch} {G : kw_G} {a0 : Nat} {x1 : Int32} {a2 : Nat} {a3 : Nat} {T : kw_T} {n : Nat} {r : kw_R} {i : kw_I} {w : kw_L} {Q : kw_R → kw_I → Prop} (h0 : T a0 = (0, 1)) (h : w_X1_init a0 x1 a2 a3 T n r i w Q) : kw_Met l G yX1_init cX1_init 4 none rm_X1_init [kw_a a0, kw_i x1, kw_a a2, kw_a a3] (T, n, r, i, w) (kw_PV (fun T' n' r' i' w' => T = T' ∧ n = n' ∧ w = w' ∧ Q r' i')) := by
  refine kw_Met.of (by decide) (Nat.le_of_ble_eq_true rfl) fun E hl hRm hE hT hnm => ?_
  have hm : kw_m E G cX1_init 4 RX1 none rm_X1_init "<init>" := ⟨hE, hT, hRm, hnm⟩
  subst hl
  show kw_K E G 4 0 0 (kw_Z E G 0 0 (kw_PV (fun T' n' r' i' w' => T = T' ∧ n = n' ∧ w = w' ∧ Q r' i'))) 0 [(0, kw_a a0), (1, kw_i x1), (2, kw_a a2), (3, kw_a a3)] [] T n r i w
  refine kk_aload_n hm.1 0 dX1_init_0 rfl rfl ?_
  refine kn_objInit (st := []) hm.1 wm_X1_1 wo_1 wo_2 dX1_init_1 h0 hm.2.2.1 (by decide) (Nat.le_of_ble_eq_true rfl) ?_
  refine kk_aload_n hm.1 0 dX1_init_4 rfl rfl ?_
  refine kk_iload_n hm.1 1 dX1_init_5 rfl rfl ?_
  refine kn_putFI hm.1 fp_X1_7 hm.2.2.2 dX1_init_6 h0 (fun i6 e6 => ?_)
  have h := h i6 e6
  refine kk_aload_n hm.1 0 dX1_init_9 rfl rfl ?_
  refine kk_aload_n hm.1 2 dX1_init_10 rfl rfl ?_
  refine kn_putR hm.1 fp_X1_13 rfl (fun h => hm.2.2.2) dX1_init_11 h0 (fun r11 e11 => ?_)
  have h := h r11 e11
  refine kk_aload_n hm.1 0 dX1_init_14 rfl rfl ?_
  refine kk_aload_n hm.1 3 dX1_init_15 rfl rfl ?_
  refine kn_putR hm.1 fp_X1_17 rfl (fun h => hm.2.2.2) dX1_init_16 h0 (fun r16 e16 => ?_)
  have h := h r16 e16
  exact kk_vret hm.1 hm.2.1 dX1_init_19 ⟨rfl, rfl, rfl, rfl, h⟩
def w_X2_init  (a0 : Nat) (T : kw_T) (n : Nat) (r : kw_R) (i : kw_I) (w : kw_L) (Q : kw_T → Nat → kw_R → kw_I → kw_L → Prop) : Prop :=
  kw_al n 1 ∧ (∀ (T7 : kw_T) (w7 : kw_L), T7 = kw_row T n (4, 10) → w7 = kw_row w n (fun _ => 0) → (T7 a0 = (0, 2) ∧ (∀ r9 : kw_R, r9 = kw_st r a0 0 n → (kw_al (n + 1) 1 ∧ (∀ (T15 : kw_T) (i15 : kw_I), T15 = kw_row T7 (n + 1) (1, 10) → i15 = kw_row i (n + 1) (fun _ => 0) → (T15 a0 = (0, 2) ∧ (∀ r17 : kw_R, r17 = kw_st r9 a0 1 (n + 1) → (kw_al ((n + 1) + 1) 1 ∧ (∀ (T23 : kw_T) (i23 : kw_I), T23 = kw_row T15 ((n + 1) + 1) (1, 10) → i23 = kw_row i15 ((n + 1) + 1) (fun _ => 0) → (T23 a0 = (0, 2) ∧ (∀ r25 : kw_R, r25 = kw_st r17 a0 2 ((n + 1) + 1) → (kw_al (((n + 1) + 1) + 1) 1 ∧ (∀ (T31 : kw_T) (w31 : kw_L), T31 = kw_row T23 (((n + 1) + 1) + 1) (4, 50) → w31 = kw_row w7 (((n + 1) + 1) + 1) (fun _ => 0) → (T31 a0 = (0, 2) ∧ (∀ r33 : kw_R, r33 = kw_st r25 a0 3 (((n + 1) + 1) + 1) → (kw_al ((((n + 1) + 1) + 1) + 1) 1 ∧ (∀ (T39 : kw_T) (i39 : kw_I), T39 = kw_row T31 ((((n + 1) + 1) + 1) + 1) (1, 9) → i39 = kw_row i23 ((((n + 1) + 1) + 1) + 1) (fun _ => 0) → (T39 a0 = (0, 2) ∧ (∀ r41 : kw_R, r41 = kw_st r33 a0 4 ((((n + 1) + 1) + 1) + 1) → (∀ i46 : kw_I, i46 = kw_st i39 a0 5 (0 : Int32) → (∀ i51 : kw_I, i51 = kw_st i46 a0 6 (0 : Int32) → (∀ r56 : kw_R, r56 = kw_st r41 a0 7 0 → (Q T39 (((((n + 1) + 1) + 1) + 1) + 1) r56 i51 w31)))))))))))))))))))))))
abbrev rm_X2_init : Room := { frames := 1, cells := 5, slots := 89, locals := 60 }
set_option maxHeartbeats 4000000 in
set_option maxRecDepth 100000 in
theorem t_X2_init {l : Launch} {G : kw_G} {a0 : Nat} {T : kw_T} {n : Nat} {r : kw_R} {i : kw_I} {w : kw_L} {Q : kw_T → Nat → kw_R → kw_I → kw_L → Prop} (h0 : T a0 = (0, 2)) (h : w_X2_init a0 T n r i w Q) : kw_Met l G yX2_init cX2_init 1 none rm_X2_init [kw_a a0] (T, n, r, i, w) (kw_PV (fun T' n' r' i' w' => Q T' n' r' i' w')) := by
  refine kw_Met.of (by decide) (Nat.le_of_ble_eq_true rfl) fun E hl hRm hE hT hnm => ?_
  have hm : kw_m E G cX2_init 1 RX2 none rm_X2_init "<init>" := ⟨hE, hT, hRm, hnm⟩
  subst hl
  show kw_K E G 1 0 0 (kw_Z E G 5 89 (kw_PV (fun T' n' r' i' w' => Q T' n' r' i' w'))) 0 [(0, kw_a a0)] [] T n r i w
  refine kk_aload_n hm.1 0 dX2_init_0 rfl rfl ?_
  refine kn_objInit (st := []) hm.1 wm_X2_3 wo_1 wo_2 dX2_init_1 h0 hm.2.2.1 (by decide) (Nat.le_of_ble_eq_true rfl) ?_
  refine kk_aload_n hm.1 0 dX2_init_4 rfl rfl ?_
  refine kk_bipush (v := (10 : Int32)) hm.1 dX2_init_5 (by decide) ?_
  obtain ⟨o7, h⟩ := h
  refine kn_newaL (m := 10) hm.1 wa_4 dX2_init_7 (by decide) (by decide) (by decide) o7 hm.2.2.1 (by decide) (by decide) rfl rfl (fun T7 w7 e7 f7 => ?_)
  have h := h T7 w7 e7 f7
  obtain ⟨o9, h⟩ := h
  refine kn_putR hm.1 fp_X2_9 rfl (fun h => hm.2.2.2) dX2_init_9 o9 (fun r9 e9 => ?_)
  have h := h r9 e9
  refine kk_aload_n hm.1 0 dX2_init_12 rfl rfl ?_
  refine kk_bipush (v := (10 : Int32)) hm.1 dX2_init_13 (by decide) ?_
  obtain ⟨o15, h⟩ := h
  refine kn_newaI (m := 10) hm.1 1 (by decide) (by decide) rfl wa_1 dX2_init_15 (by decide) (by decide) (by decide) o15 hm.2.2.1 (by decide) (by decide) rfl rfl (fun T15 i15 e15 f15 => ?_)
  have h := h T15 i15 e15 f15
  obtain ⟨o17, h⟩ := h
  refine kn_putR hm.1 fp_X2_15 rfl (fun h => hm.2.2.2) dX2_init_17 o17 (fun r17 e17 => ?_)
  have h := h r17 e17
  refine kk_aload_n hm.1 0 dX2_init_20 rfl rfl ?_
  refine kk_bipush (v := (10 : Int32)) hm.1 dX2_init_21 (by decide) ?_
  obtain ⟨o23, h⟩ := h
  refine kn_newaI (m := 10) hm.1 1 (by decide) (by decide) rfl wa_1 dX2_init_23 (by decide) (by decide) (by decide) o23 hm.2.2.1 (by decide) (by decide) rfl rfl (fun T23 i23 e23 f23 => ?_)
  have h := h T23 i23 e23 f23
  obtain ⟨o25, h⟩ := h
  refine kn_putR hm.1 fp_X2_19 rfl (fun h => hm.2.2.2) dX2_init_25 o25 (fun r25 e25 => ?_)
  have h := h r25 e25
  refine kk_aload_n hm.1 0 dX2_init_28 rfl rfl ?_
  refine kk_bipush (v := (50 : Int32)) hm.1 dX2_init_29 (by decide) ?_
  obtain ⟨o31, h⟩ := h
  refine kn_newaL (m := 50) hm.1 wa_4 dX2_init_31 (by decide) (by decide) (by decide) o31 hm.2.2.1 (by decide) (by decide) rfl rfl (fun T31 w31 e31 f31 => ?_)
  have h := h T31 w31 e31 f31
  obtain ⟨o33, h⟩ := h
  refine kn_putR hm.1 fp_X2_22 rfl (fun h => hm.2.2.2) dX2_init_33 o33 (fun r33 e33 => ?_)
  have h := h r33 e33
  refine kk_aload_n hm.1 0 dX2_init_36 rfl rfl ?_
  refine kk_bipush (v := (9 : Int32)) hm.1 dX2_init_37 (by decide) ?_
  obtain ⟨o39, h⟩ := h
  refine kn_newaI (m := 9) hm.1 1 (by decide) (by decide) rfl wa_1 dX2_init_39 (by decide) (by decide) (by decide) o39 hm.2.2.1 (by decide) (by decide) rfl rfl (fun T39 i39 e39 f39 => ?_)
  have h := h T39 i39 e39 f39
  obtain ⟨o41, h⟩ := h
  refine kn_putR hm.1 fp_X2_25 rfl (fun h => hm.2.2.2) dX2_init_41 o41 (fun r41 e41 => ?_)
  have h := h r41 e41
  refine kk_aload_n hm.1 0 dX2_init_44 rfl rfl ?_
  refine kk_iconst (v := (0 : Int32)) hm.1 dX2_init_45 (by decide) ?_
  refine kn_putI hm.1 fp_X2_28 dX2_init_46 o41 (fun i46 e46 => ?_)
  have h := h i46 e46
  refine kk_aload_n hm.1 0 dX2_init_49 rfl rfl ?_
  refine kk_iconst (v := (0 : Int32)) hm.1 dX2_init_50 (by decide) ?_
  refine kn_putI hm.1 fp_X2_32 dX2_init_51 o41 (fun i51 e51 => ?_)
  have h := h i51 e51
  refine kk_aload_n hm.1 0 dX2_init_54 rfl rfl ?_
  refine kk_null hm.1 dX2_init_55 ?_
  refine kn_putR hm.1 fp_X2_35 rfl (fun h => by cases h) dX2_init_56 o41 (fun r56 e56 => ?_)
  have h := h r56 e56
  exact kk_vret hm.1 hm.2.1 dX2_init_59 ⟨rfl, h⟩
def w_X6_lawInForce  (a0 : Nat) (T : kw_T) (n : Nat) (r : kw_R) (i : kw_I) (w : kw_L) (Q : Nat → Prop) : Prop :=
  ((i a0 7) < 0 → Q 0) ∧ (¬ (i a0 7) < 0 → ((i a0 6) ≤ (i a0 7) → Q 0) ∧ (¬ (i a0 6) ≤ (i a0 7) → kw_in T 7 (r a0 4) (i a0 7) ∧ (Q (r (r a0 4) ((i a0 7)).toNatClampNeg))))
abbrev rm_X6_lawInForce : Room := { frames := 1, cells := 0, slots := 0, locals := 60 }
set_option maxHeartbeats 4000000 in
set_option maxRecDepth 100000 in
theorem t_X6_lawInForce {l : Launch} {G : kw_G} {a0 : Nat} {T : kw_T} {n : Nat} {r : kw_R} {i : kw_I} {w : kw_L} {Q : Nat → Prop} (h0 : T a0 = (0, 6)) (h : w_X6_lawInForce a0 T n r i w Q) : kw_Met l G yX6_lawInForce cX6_lawInForce 1 (some (.object "KeyholeWeave$Law")) rm_X6_lawInForce [kw_a a0] (T, n, r, i, w) (kw_PA (fun v T' n' r' i' w' => T = T' ∧ n = n' ∧ r = r' ∧ i = i' ∧ w = w' ∧ Q v)) := by
  refine kw_Met.of (by decide) (Nat.le_of_ble_eq_true rfl) fun E hl hRm hE hT hnm => ?_
  have hm : kw_m E G cX6_lawInForce 1 RX6 (some (.object "KeyholeWeave$Law")) rm_X6_lawInForce "lawInForce" := ⟨hE, hT, hRm, hnm⟩
  subst hl
  show kw_K E G 1 0 0 (kw_Z E G 0 0 (kw_PA (fun v T' n' r' i' w' => T = T' ∧ n = n' ∧ r = r' ∧ i = i' ∧ w = w' ∧ Q v))) 0 [(0, kw_a a0)] [] T n r i w
  refine kk_aload_n hm.1 0 dX6_lawInForce_0 rfl rfl ?_
  refine kk_getI hm.1 ff_X6_39 dX6_lawInForce_1 h0 ?_
  refine kk_if_lt (tgt := 30) hm.1 dX6_lawInForce_4 (by decide) (fun c4 => ?_) (fun c4 => ?_)
  · have h := h.1 c4
    refine kk_null hm.1 dX6_lawInForce_30 ?_
    exact kk_aret hm.1 hm.2.1 (by first | exact Or.inl ⟨_, rfl⟩ | exact Or.inr ⟨_, rfl⟩) dX6_lawInForce_31 ⟨_, rfl, rfl, rfl, rfl, rfl, rfl, h⟩
  · have h := h.2 c4
    refine kk_aload_n hm.1 0 dX6_lawInForce_7 rfl rfl ?_
    refine kk_getI hm.1 ff_X6_39 dX6_lawInForce_8 h0 ?_
    refine kk_aload_n hm.1 0 dX6_lawInForce_11 rfl rfl ?_
    refine kk_getI hm.1 ff_X6_36 dX6_lawInForce_12 h0 ?_
    refine kk_icmp_ge (tgt := 30) hm.1 dX6_lawInForce_15 (by decide) (fun c15 => ?_) (fun c15 => ?_)
    · have h := h.1 c15
      refine kk_null hm.1 dX6_lawInForce_30 ?_
      exact kk_aret hm.1 hm.2.1 (by first | exact Or.inl ⟨_, rfl⟩ | exact Or.inr ⟨_, rfl⟩) dX6_lawInForce_31 ⟨_, rfl, rfl, rfl, rfl, rfl, rfl, h⟩
    · have h := h.2 c15
      refine kk_aload_n hm.1 0 dX6_lawInForce_18 rfl rfl ?_
      refine kk_getR hm.1 ff_X6_28 dX6_lawInForce_19 h0 ?_
      refine kk_aload_n hm.1 0 dX6_lawInForce_22 rfl rfl ?_
      refine kk_getI hm.1 ff_X6_39 dX6_lawInForce_23 h0 ?_
      obtain ⟨o26, h⟩ := h
      refine kk_aaload hm.1 7 (by decide) (by decide) rfl rfl dX6_lawInForce_26 o26 ?_
      refine kk_goto (tgt := 31) hm.1 dX6_lawInForce_27 (by decide) ?_
      exact kk_aret hm.1 hm.2.1 (by first | exact Or.inl ⟨_, rfl⟩ | exact Or.inr ⟨_, rfl⟩) dX6_lawInForce_31 ⟨_, rfl, rfl, rfl, rfl, rfl, rfl, h⟩
def s_X2_setUp_99 (a0 : Nat) (a1 : Nat) (T : kw_T) (n : Nat) (Q : kw_R → kw_I → kw_L → Prop) (k31 : Int32 → kw_R → kw_I → kw_L → Prop) (k99 : Int32 → Int64 → Int32 → kw_R → kw_I → kw_L → Prop) (x2 : Int32) (l3 : Int64) (x5 : Int32) (r : kw_R) (i : kw_I) (w : kw_L) : Prop :=
  T a1 = (0, 6) ∧ (kw_in T 5 (r a1 0) (3 : Int32) ∧ (kw_in T 1 (r (r a1 0) ((3 : Int32)).toNatClampNeg) x2 ∧ (((i (r (r a1 0) ((3 : Int32)).toNatClampNeg) (x2).toNatClampNeg) ≤ x5 → k31 ((x2 + (1 : Int32))) r i w) ∧ (¬ (i (r (r a1 0) ((3 : Int32)).toNatClampNeg) (x2).toNatClampNeg) ≤ x5 → kw_in T 4 (r a0 0) x2 ∧ (kw_in T 5 (r a1 0) (1 : Int32) ∧ (kw_in T 1 (r (r a1 0) ((1 : Int32)).toNatClampNeg) x2 ∧ (kw_in T 4 (r a0 0) x2 ∧ (∀ w136 : kw_L, w136 = kw_st w (r a0 0) (x2).toNatClampNeg ((w (r a0 0) (x2).toNatClampNeg) ||| (l3 <<< (((6 : Int32) * ((i (r (r a1 0) ((1 : Int32)).toNatClampNeg) (x2).toNatClampNeg) + x5)).toInt64 &&& 63))) → (k99 x2 l3 ((x5 + (1 : Int32))) r i w136)))))))))
def w_X2_setUp_99 (a0 : Nat) (a1 : Nat) (T : kw_T) (n : Nat) (Q : kw_R → kw_I → kw_L → Prop) (k31 : Int32 → kw_R → kw_I → kw_L → Prop) : Nat → Int32 → Int64 → Int32 → kw_R → kw_I → kw_L → Prop
  | 0 => fun _ _ _ _ _ _ => False
  | N + 1 => s_X2_setUp_99 a0 a1 T n Q k31 (w_X2_setUp_99 a0 a1 T n Q k31 N)
def s_X2_setUp_31 (a0 : Nat) (a1 : Nat) (T : kw_T) (n : Nat) (Q : kw_R → kw_I → kw_L → Prop)  (k31 : Int32 → kw_R → kw_I → kw_L → Prop) (x2 : Int32) (r : kw_R) (i : kw_I) (w : kw_L) : Prop :=
  ((i a0 5) ≤ x2 → Q r i w) ∧ (¬ (i a0 5) ≤ x2 → T a1 = (0, 6) ∧ (kw_in T 5 (r a1 0) (5 : Int32) ∧ (kw_in T 1 (r (r a1 0) ((5 : Int32)).toNatClampNeg) x2 ∧ (kw_in T 1 (r a0 1) x2 ∧ (∀ i52 : kw_I, i52 = kw_st i (r a0 1) (x2).toNatClampNeg (i (r (r a1 0) ((5 : Int32)).toNatClampNeg) (x2).toNatClampNeg) → (kw_in T 5 (r a1 0) (4 : Int32) ∧ (kw_in T 1 (r (r a1 0) ((4 : Int32)).toNatClampNeg) x2 ∧ (kw_in T 1 (r a0 2) x2 ∧ (∀ i66 : kw_I, i66 = kw_st i52 (r a0 2) (x2).toNatClampNeg (i52 (r (r a1 0) ((4 : Int32)).toNatClampNeg) (x2).toNatClampNeg) → (kw_in T 5 (r a1 0) (2 : Int32) ∧ (kw_in T 1 (r (r a1 0) ((2 : Int32)).toNatClampNeg) x2 ∧ (kw_in T 5 (r a1 0) (0 : Int32) ∧ (kw_in T 1 (r (r a1 0) ((0 : Int32)).toNatClampNeg) x2 ∧ (kw_in T 4 (r a0 0) x2 ∧ (∀ w95 : kw_L, w95 = kw_st w (r a0 0) (x2).toNatClampNeg (0 : Int64) → (∃ N, w_X2_setUp_99 a0 a1 T n Q k31 N x2 (((((1 : Int64) <<< ((i66 (r (r a1 0) ((2 : Int32)).toNatClampNeg) (x2).toNatClampNeg).toInt64 &&& 63)) - (1 : Int64)) <<< ((i66 (r (r a1 0) ((0 : Int32)).toNatClampNeg) (x2).toNatClampNeg).toInt64 &&& 63))) ((0 : Int32)) r i66 w95))))))))))))))))
def w_X2_setUp_31 (a0 : Nat) (a1 : Nat) (T : kw_T) (n : Nat) (Q : kw_R → kw_I → kw_L → Prop)  : Nat → Int32 → kw_R → kw_I → kw_L → Prop
  | 0 => fun _ _ _ _ => False
  | N + 1 => s_X2_setUp_31 a0 a1 T n Q  (w_X2_setUp_31 a0 a1 T n Q  N)
def w_X2_setUp  (a0 : Nat) (a1 : Nat) (T : kw_T) (n : Nat) (r : kw_R) (i : kw_I) (w : kw_L) (Q : kw_R → kw_I → kw_L → Prop) : Prop :=
  T a1 = (0, 6) ∧ (∀ i5 : kw_I, i5 = kw_st i a0 5 (i a1 5) → (w_X6_lawInForce a1 T n r i5 w (fun v10 => ∀ r13 : kw_R, r13 = kw_st r a0 7 v10 → (kw_in T 1 (r13 a1 3) (1 : Int32) ∧ (kw_in T 1 (r13 a0 4) (8 : Int32) ∧ (∀ i28 : kw_I, i28 = kw_st i5 (r13 a0 4) ((8 : Int32)).toNatClampNeg (i5 (r13 a1 3) ((1 : Int32)).toNatClampNeg) → (∃ N, w_X2_setUp_31 a0 a1 T n Q  N ((0 : Int32)) r13 i28 w)))))))
abbrev rm_X2_setUp : Room := { frames := 2, cells := 0, slots := 0, locals := 80 }
set_option maxHeartbeats 4000000 in
set_option maxRecDepth 100000 in
theorem qs_X2_setUp_99 {a0 : Nat} {a1 : Nat} {T : kw_T} {n : Nat} {Q : kw_R → kw_I → kw_L → Prop} {E : kw_E} {G : kw_G} (hm : kw_m E G cX2_setUp 6 RX2 none rm_X2_setUp "setUp")  (h0 : T a0 = (0, 2))  {k31 : Int32 → kw_R → kw_I → kw_L → Prop} (hk31 : ∀ (x2 : Int32) (r : kw_R) (i : kw_I) (w : kw_L), k31 x2 r i w → kw_K E G 6 0 0 (kw_Z E G 0 0 (kw_PV (fun T' n' r' i' w' => T = T' ∧ n = n' ∧ Q r' i' w'))) 31 [(0, kw_a a0), (1, kw_a a1), (2, kw_i x2)] [] T n r i w) {k99 : Int32 → Int64 → Int32 → kw_R → kw_I → kw_L → Prop} (hk99 : ∀ (x2 : Int32) (l3 : Int64) (x5 : Int32) (r : kw_R) (i : kw_I) (w : kw_L), k99 x2 l3 x5 r i w → kw_K E G 6 0 0 (kw_Z E G 0 0 (kw_PV (fun T' n' r' i' w' => T = T' ∧ n = n' ∧ Q r' i' w'))) 99 [(0, kw_a a0), (1, kw_a a1), (2, kw_i x2), (3, kw_l l3), (5, kw_i x5)] [] T n r i w) (x2 : Int32) (l3 : Int64) (x5 : Int32) (r : kw_R) (i : kw_I) (w : kw_L) (h : s_X2_setUp_99 a0 a1 T n Q k31 k99 x2 l3 x5 r i w) : kw_K E G 6 0 0 (kw_Z E G 0 0 (kw_PV (fun T' n' r' i' w' => T = T' ∧ n = n' ∧ Q r' i' w'))) 99 [(0, kw_a a0), (1, kw_a a1), (2, kw_i x2), (3, kw_l l3), (5, kw_i x5)] [] T n r i w := by
  refine kk_iload hm.1 4 dX2_setUp_99 rfl ?_
  refine kk_aload_n hm.1 1 dX2_setUp_101 rfl rfl ?_
  obtain ⟨o102, h⟩ := h
  refine kk_getR hm.1 ff_X2_49 dX2_setUp_102 o102 ?_
  refine kk_iconst (v := (3 : Int32)) hm.1 dX2_setUp_105 (by decide) ?_
  obtain ⟨o106, h⟩ := h
  refine kk_aaload hm.1 5 (by decide) (by decide) rfl rfl dX2_setUp_106 o106 ?_
  refine kk_iload_n hm.1 2 dX2_setUp_107 rfl rfl ?_
  obtain ⟨o108, h⟩ := h
  refine kk_iaload hm.1 dX2_setUp_108 o108 ?_
  refine kk_icmp_ge (tgt := 143) hm.1 dX2_setUp_109 (by decide) (fun c109 => ?_) (fun c109 => ?_)
  · have h := h.1 c109
    refine kk_iinc (v := (x2 + (1 : Int32))) (L' := [(2, kw_i (x2 + (1 : Int32))), (0, kw_a a0), (1, kw_a a1), (3, kw_l l3), (5, kw_i x5)]) hm.1 2 dX2_setUp_143 rfl rfl (by decide) rfl ?_
    refine kk_goto (tgt := 31) hm.1 dX2_setUp_146 (by decide) ?_
    refine kk_loc (L' := [(0, kw_a a0), (1, kw_a a1), (2, kw_i (x2 + (1 : Int32)))]) [1, 2, 0] rfl ?_
    exact hk31 ((x2 + (1 : Int32))) r i w h
  · have h := h.2 c109
    refine kk_aload_n hm.1 0 dX2_setUp_112 rfl rfl ?_
    refine kk_getR hm.1 ff_X2_9 dX2_setUp_113 h0 ?_
    refine kk_iload_n hm.1 2 dX2_setUp_116 rfl rfl ?_
    refine kk_dup2 hm.1 dX2_setUp_117 rfl rfl ?_
    obtain ⟨o118, h⟩ := h
    refine kk_laload hm.1 dX2_setUp_118 o118 ?_
    refine kk_lload_n hm.1 3 dX2_setUp_119 rfl rfl ?_
    refine kk_bipush (v := (6 : Int32)) hm.1 dX2_setUp_120 (by decide) ?_
    refine kk_aload_n hm.1 1 dX2_setUp_122 rfl rfl ?_
    refine kk_getR hm.1 ff_X2_49 dX2_setUp_123 o102 ?_
    refine kk_iconst (v := (1 : Int32)) hm.1 dX2_setUp_126 (by decide) ?_
    obtain ⟨o127, h⟩ := h
    refine kk_aaload hm.1 5 (by decide) (by decide) rfl rfl dX2_setUp_127 o127 ?_
    refine kk_iload_n hm.1 2 dX2_setUp_128 rfl rfl ?_
    obtain ⟨o129, h⟩ := h
    refine kk_iaload hm.1 dX2_setUp_129 o129 ?_
    refine kk_iload hm.1 4 dX2_setUp_130 rfl ?_
    refine kk_iadd hm.1 dX2_setUp_132 ?_
    refine kk_imul hm.1 dX2_setUp_133 ?_
    refine kk_lshl hm.1 dX2_setUp_134 ?_
    refine kk_lor hm.1 dX2_setUp_135 ?_
    obtain ⟨o136, h⟩ := h
    refine kn_lastore hm.1 dX2_setUp_136 o136 (fun w136 e136 => ?_)
    have h := h w136 e136
    refine kk_iinc (v := (x5 + (1 : Int32))) (L' := [(5, kw_i (x5 + (1 : Int32))), (0, kw_a a0), (1, kw_a a1), (2, kw_i x2), (3, kw_l l3)]) hm.1 4 dX2_setUp_137 rfl rfl (by decide) rfl ?_
    refine kk_goto (tgt := 99) hm.1 dX2_setUp_140 (by decide) ?_
    refine kk_loc (L' := [(0, kw_a a0), (1, kw_a a1), (2, kw_i x2), (3, kw_l l3), (5, kw_i (x5 + (1 : Int32)))]) [1, 2, 3, 4, 0] rfl ?_
    exact hk99 x2 l3 ((x5 + (1 : Int32))) r i w136 h
set_option maxHeartbeats 4000000 in
set_option maxRecDepth 100000 in
theorem q_X2_setUp_99 {a0 : Nat} {a1 : Nat} {T : kw_T} {n : Nat} {Q : kw_R → kw_I → kw_L → Prop} {E : kw_E} {G : kw_G} (hm : kw_m E G cX2_setUp 6 RX2 none rm_X2_setUp "setUp")  (h0 : T a0 = (0, 2))  {k31 : Int32 → kw_R → kw_I → kw_L → Prop} (hk31 : ∀ (x2 : Int32) (r : kw_R) (i : kw_I) (w : kw_L), k31 x2 r i w → kw_K E G 6 0 0 (kw_Z E G 0 0 (kw_PV (fun T' n' r' i' w' => T = T' ∧ n = n' ∧ Q r' i' w'))) 31 [(0, kw_a a0), (1, kw_a a1), (2, kw_i x2)] [] T n r i w) : ∀ (N : Nat) (x2 : Int32) (l3 : Int64) (x5 : Int32) (r : kw_R) (i : kw_I) (w : kw_L), w_X2_setUp_99 a0 a1 T n Q k31 N x2 l3 x5 r i w → kw_K E G 6 0 0 (kw_Z E G 0 0 (kw_PV (fun T' n' r' i' w' => T = T' ∧ n = n' ∧ Q r' i' w'))) 99 [(0, kw_a a0), (1, kw_a a1), (2, kw_i x2), (3, kw_l l3), (5, kw_i x5)] [] T n r i w := by
  intro N
  induction N with
  | zero => intro x2 l3 x5 r i w h; exact h.elim
  | succ N ih => intro x2 l3 x5 r i w h; exact qs_X2_setUp_99 hm  h0 hk31 ih x2 l3 x5 r i w h
set_option maxHeartbeats 4000000 in
set_option maxRecDepth 100000 in
theorem qs_X2_setUp_31 {a0 : Nat} {a1 : Nat} {T : kw_T} {n : Nat} {Q : kw_R → kw_I → kw_L → Prop} {E : kw_E} {G : kw_G} (hm : kw_m E G cX2_setUp 6 RX2 none rm_X2_setUp "setUp")  (h0 : T a0 = (0, 2))    {k31 : Int32 → kw_R → kw_I → kw_L → Prop} (hk31 : ∀ (x2 : Int32) (r : kw_R) (i : kw_I) (w : kw_L), k31 x2 r i w → kw_K E G 6 0 0 (kw_Z E G 0 0 (kw_PV (fun T' n' r' i' w' => T = T' ∧ n = n' ∧ Q r' i' w'))) 31 [(0, kw_a a0), (1, kw_a a1), (2, kw_i x2)] [] T n r i w) (x2 : Int32) (r : kw_R) (i : kw_I) (w : kw_L) (h : s_X2_setUp_31 a0 a1 T n Q  k31 x2 r i w) : kw_K E G 6 0 0 (kw_Z E G 0 0 (kw_PV (fun T' n' r' i' w' => T = T' ∧ n = n' ∧ Q r' i' w'))) 31 [(0, kw_a a0), (1, kw_a a1), (2, kw_i x2)] [] T n r i w := by
  refine kk_iload_n hm.1 2 dX2_setUp_31 rfl rfl ?_
  refine kk_aload_n hm.1 0 dX2_setUp_32 rfl rfl ?_
  refine kk_getI hm.1 ff_X2_28 dX2_setUp_33 h0 ?_
  refine kk_icmp_ge (tgt := 149) hm.1 dX2_setUp_36 (by decide) (fun c36 => ?_) (fun c36 => ?_)
  · have h := h.1 c36
    exact kk_vret hm.1 hm.2.1 dX2_setUp_149 ⟨rfl, rfl, rfl, h⟩
  · have h := h.2 c36
    refine kk_aload_n hm.1 0 dX2_setUp_39 rfl rfl ?_
    refine kk_getR hm.1 ff_X2_15 dX2_setUp_40 h0 ?_
    refine kk_iload_n hm.1 2 dX2_setUp_43 rfl rfl ?_
    refine kk_aload_n hm.1 1 dX2_setUp_44 rfl rfl ?_
    obtain ⟨o45, h⟩ := h
    refine kk_getR hm.1 ff_X2_49 dX2_setUp_45 o45 ?_
    refine kk_iconst (v := (5 : Int32)) hm.1 dX2_setUp_48 (by decide) ?_
    obtain ⟨o49, h⟩ := h
    refine kk_aaload hm.1 5 (by decide) (by decide) rfl rfl dX2_setUp_49 o49 ?_
    refine kk_iload_n hm.1 2 dX2_setUp_50 rfl rfl ?_
    obtain ⟨o51, h⟩ := h
    refine kk_iaload hm.1 dX2_setUp_51 o51 ?_
    obtain ⟨o52, h⟩ := h
    refine kn_iastore hm.1 dX2_setUp_52 o52 (fun i52 e52 => ?_)
    have h := h i52 e52
    refine kk_aload_n hm.1 0 dX2_setUp_53 rfl rfl ?_
    refine kk_getR hm.1 ff_X2_19 dX2_setUp_54 h0 ?_
    refine kk_iload_n hm.1 2 dX2_setUp_57 rfl rfl ?_
    refine kk_aload_n hm.1 1 dX2_setUp_58 rfl rfl ?_
    refine kk_getR hm.1 ff_X2_49 dX2_setUp_59 o45 ?_
    refine kk_iconst (v := (4 : Int32)) hm.1 dX2_setUp_62 (by decide) ?_
    obtain ⟨o63, h⟩ := h
    refine kk_aaload hm.1 5 (by decide) (by decide) rfl rfl dX2_setUp_63 o63 ?_
    refine kk_iload_n hm.1 2 dX2_setUp_64 rfl rfl ?_
    obtain ⟨o65, h⟩ := h
    refine kk_iaload hm.1 dX2_setUp_65 o65 ?_
    obtain ⟨o66, h⟩ := h
    refine kn_iastore hm.1 dX2_setUp_66 o66 (fun i66 e66 => ?_)
    have h := h i66 e66
    refine kk_lconst (v := (1 : Int64)) hm.1 dX2_setUp_67 (by decide) ?_
    refine kk_aload_n hm.1 1 dX2_setUp_68 rfl rfl ?_
    refine kk_getR hm.1 ff_X2_49 dX2_setUp_69 o45 ?_
    refine kk_iconst (v := (2 : Int32)) hm.1 dX2_setUp_72 (by decide) ?_
    obtain ⟨o73, h⟩ := h
    refine kk_aaload hm.1 5 (by decide) (by decide) rfl rfl dX2_setUp_73 o73 ?_
    refine kk_iload_n hm.1 2 dX2_setUp_74 rfl rfl ?_
    obtain ⟨o75, h⟩ := h
    refine kk_iaload hm.1 dX2_setUp_75 o75 ?_
    refine kk_lshl hm.1 dX2_setUp_76 ?_
    refine kk_lconst (v := (1 : Int64)) hm.1 dX2_setUp_77 (by decide) ?_
    refine kk_lsub hm.1 dX2_setUp_78 ?_
    refine kk_aload_n hm.1 1 dX2_setUp_79 rfl rfl ?_
    refine kk_getR hm.1 ff_X2_49 dX2_setUp_80 o45 ?_
    refine kk_iconst (v := (0 : Int32)) hm.1 dX2_setUp_83 (by decide) ?_
    obtain ⟨o84, h⟩ := h
    refine kk_aaload hm.1 5 (by decide) (by decide) rfl rfl dX2_setUp_84 o84 ?_
    refine kk_iload_n hm.1 2 dX2_setUp_85 rfl rfl ?_
    obtain ⟨o86, h⟩ := h
    refine kk_iaload hm.1 dX2_setUp_86 o86 ?_
    refine kk_lshl hm.1 dX2_setUp_87 ?_
    refine kk_lstore_n (L' := [(3, kw_l ((((1 : Int64) <<< ((i66 (r (r a1 0) ((2 : Int32)).toNatClampNeg) (x2).toNatClampNeg).toInt64 &&& 63)) - (1 : Int64)) <<< ((i66 (r (r a1 0) ((0 : Int32)).toNatClampNeg) (x2).toNatClampNeg).toInt64 &&& 63))), (0, kw_a a0), (1, kw_a a1), (2, kw_i x2)]) hm.1 dX2_setUp_88 rfl (by decide) rfl ?_
    refine kk_aload_n hm.1 1 dX2_setUp_89 rfl rfl ?_
    refine kk_getR hm.1 ff_X2_9 dX2_setUp_90 h0 ?_
    refine kk_iload_n hm.1 3 dX2_setUp_93 rfl rfl ?_
    refine kk_lconst (v := (0 : Int64)) hm.1 dX2_setUp_94 (by decide) ?_
    obtain ⟨o95, h⟩ := h
    refine kn_lastore hm.1 dX2_setUp_95 o95 (fun w95 e95 => ?_)
    have h := h w95 e95
    refine kk_iconst (v := (0 : Int32)) hm.1 dX2_setUp_96 (by decide) ?_
    refine kk_istore (L' := [(5, kw_i (0 : Int32)), (3, kw_l ((((1 : Int64) <<< ((i66 (r (r a1 0) ((2 : Int32)).toNatClampNeg) (x2).toNatClampNeg).toInt64 &&& 63)) - (1 : Int64)) <<< ((i66 (r (r a1 0) ((0 : Int32)).toNatClampNeg) (x2).toNatClampNeg).toInt64 &&& 63))), (0, kw_a a0), (1, kw_a a1), (2, kw_i x2)]) hm.1 dX2_setUp_97 (by decide) rfl ?_
    refine kk_loc (L' := [(0, kw_a a0), (1, kw_a a1), (2, kw_i x2), (3, kw_l ((((1 : Int64) <<< ((i66 (r (r a1 0) ((2 : Int32)).toNatClampNeg) (x2).toNatClampNeg).toInt64 &&& 63)) - (1 : Int64)) <<< ((i66 (r (r a1 0) ((0 : Int32)).toNatClampNeg) (x2).toNatClampNeg).toInt64 &&& 63))), (5, kw_i (0 : Int32))]) [2, 3, 4, 1, 0] rfl ?_
    obtain ⟨N, h⟩ := h
    exact q_X2_setUp_99 hm  h0  hk31 N x2 (((((1 : Int64) <<< ((i66 (r (r a1 0) ((2 : Int32)).toNatClampNeg) (x2).toNatClampNeg).toInt64 &&& 63)) - (1 : Int64)) <<< ((i66 (r (r a1 0) ((0 : Int32)).toNatClampNeg) (x2).toNatClampNeg).toInt64 &&& 63))) ((0 : Int32)) r i66 w95 h
set_option maxHeartbeats 4000000 in
set_option maxRecDepth 100000 in
theorem q_X2_setUp_31 {a0 : Nat} {a1 : Nat} {T : kw_T} {n : Nat} {Q : kw_R → kw_I → kw_L → Prop} {E : kw_E} {G : kw_G} (hm : kw_m E G cX2_setUp 6 RX2 none rm_X2_setUp "setUp")  (h0 : T a0 = (0, 2))    : ∀ (N : Nat) (x2 : Int32) (r : kw_R) (i : kw_I) (w : kw_L), w_X2_setUp_31 a0 a1 T n Q  N x2 r i w → kw_K E G 6 0 0 (kw_Z E G 0 0 (kw_PV (fun T' n' r' i' w' => T = T' ∧ n = n' ∧ Q r' i' w'))) 31 [(0, kw_a a0), (1, kw_a a1), (2, kw_i x2)] [] T n r i w := by
  intro N
  induction N with
  | zero => intro x2 r i w h; exact h.elim
  | succ N ih => intro x2 r i w h; exact qs_X2_setUp_31 hm  h0  ih x2 r i w h
set_option maxHeartbeats 4000000 in
set_option maxRecDepth 100000 in
theorem t_X2_setUp {l : Launch} {G : kw_G} {a0 : Nat} {a1 : Nat} {T : kw_T} {n : Nat} {r : kw_R} {i : kw_I} {w : kw_L} {Q : kw_R → kw_I → kw_L → Prop} (h0 : T a0 = (0, 2)) (h : w_X2_setUp a0 a1 T n r i w Q) : kw_Met l G yX2_setUp cX2_setUp 6 none rm_X2_setUp [kw_a a0, kw_a a1] (T, n, r, i, w) (kw_PV (fun T' n' r' i' w' => T = T' ∧ n = n' ∧ Q r' i' w')) := by
  refine kw_Met.of (by decide) (Nat.le_of_ble_eq_true rfl) fun E hl hRm hE hT hnm => ?_
  have hm : kw_m E G cX2_setUp 6 RX2 none rm_X2_setUp "setUp" := ⟨hE, hT, hRm, hnm⟩
  subst hl
  show kw_K E G 6 0 0 (kw_Z E G 0 0 (kw_PV (fun T' n' r' i' w' => T = T' ∧ n = n' ∧ Q r' i' w'))) 0 [(0, kw_a a0), (1, kw_a a1)] [] T n r i w
  refine kk_aload_n hm.1 0 dX2_setUp_0 rfl rfl ?_
  refine kk_aload_n hm.1 1 dX2_setUp_1 rfl rfl ?_
  obtain ⟨o2, h⟩ := h
  refine kk_getI hm.1 ff_X2_39 dX2_setUp_2 o2 ?_
  refine kn_putI hm.1 fp_X2_28 dX2_setUp_5 h0 (fun i5 e5 => ?_)
  have h := h i5 e5
  refine kk_aload_n hm.1 0 dX2_setUp_8 rfl rfl ?_
  refine kk_aload_n hm.1 1 dX2_setUp_9 rfl rfl ?_
  refine kk_callVa (cs' := 0) (sl' := 0) (st := [kw_a a0]) hm.1 cv_X2_42 (t_X6_lawInForce o2 h) dX2_setUp_10 o2 rfl rfl hm.2.2.1 ⟨by decide, by decide⟩ ⟨by decide, by decide⟩ rfl rfl (Nat.le_of_ble_eq_true rfl) rfl ?_
  rintro v10 _ _ _ _ _ ⟨rfl, rfl, rfl, rfl, rfl, h⟩
  refine kn_putR hm.1 fp_X2_35 rfl (fun h => by cases h) dX2_setUp_13 h0 (fun r13 e13 => ?_)
  have h := h r13 e13
  refine kk_aload_n hm.1 0 dX2_setUp_16 rfl rfl ?_
  refine kk_getR hm.1 ff_X2_25 dX2_setUp_17 h0 ?_
  refine kk_bipush (v := (8 : Int32)) hm.1 dX2_setUp_20 (by decide) ?_
  refine kk_aload_n hm.1 1 dX2_setUp_22 rfl rfl ?_
  refine kk_getR hm.1 ff_X2_46 dX2_setUp_23 o2 ?_
  refine kk_iconst (v := (1 : Int32)) hm.1 dX2_setUp_26 (by decide) ?_
  obtain ⟨o27, h⟩ := h
  refine kk_iaload hm.1 dX2_setUp_27 o27 ?_
  obtain ⟨o28, h⟩ := h
  refine kn_iastore hm.1 dX2_setUp_28 o28 (fun i28 e28 => ?_)
  have h := h i28 e28
  refine kk_iconst (v := (0 : Int32)) hm.1 dX2_setUp_29 (by decide) ?_
  refine kk_istore_n (L' := [(2, kw_i (0 : Int32)), (0, kw_a a0), (1, kw_a a1)]) hm.1 dX2_setUp_30 rfl (by decide) rfl ?_
  refine kk_loc (L' := [(0, kw_a a0), (1, kw_a a1), (2, kw_i (0 : Int32))]) [1, 2, 0] rfl ?_
  obtain ⟨N, h⟩ := h
  exact q_X2_setUp_31 hm  h0   N ((0 : Int32)) r13 i28 w h
def w_X3_init  (a0 : Nat) (T : kw_T) (n : Nat) (r : kw_R) (i : kw_I) (w : kw_L) (Q : kw_T → Nat → kw_R → kw_I → Prop) : Prop :=
  kw_al n 1 ∧ (∀ (T6 : kw_T) (i6 : kw_I), T6 = kw_row T n (1, 5) → i6 = kw_row i n (fun _ => 0) → (T6 a0 = (0, 3) ∧ (∀ r8 : kw_R, r8 = kw_st r a0 0 n → (kw_al (n + 1) 1 ∧ (∀ (T13 : kw_T) (i13 : kw_I), T13 = kw_row T6 (n + 1) (1, 5) → i13 = kw_row i6 (n + 1) (fun _ => 0) → (T13 a0 = (0, 3) ∧ (∀ r15 : kw_R, r15 = kw_st r8 a0 1 (n + 1) → (kw_al ((n + 1) + 1) 1 ∧ (∀ (T20 : kw_T) (i20 : kw_I), T20 = kw_row T13 ((n + 1) + 1) (1, 5) → i20 = kw_row i13 ((n + 1) + 1) (fun _ => 0) → (T20 a0 = (0, 3) ∧ (∀ r22 : kw_R, r22 = kw_st r15 a0 2 ((n + 1) + 1) → (kw_al (((n + 1) + 1) + 1) 1 ∧ (∀ (T27 : kw_T) (i27 : kw_I), T27 = kw_row T20 (((n + 1) + 1) + 1) (1, 5) → i27 = kw_row i20 (((n + 1) + 1) + 1) (fun _ => 0) → (T27 a0 = (0, 3) ∧ (∀ r29 : kw_R, r29 = kw_st r22 a0 3 (((n + 1) + 1) + 1) → (kw_al ((((n + 1) + 1) + 1) + 1) 1 ∧ (∀ (T35 : kw_T) (i35 : kw_I), T35 = kw_row T27 ((((n + 1) + 1) + 1) + 1) (1, 36) → i35 = kw_row i27 ((((n + 1) + 1) + 1) + 1) (fun _ => 0) → (T35 a0 = (0, 3) ∧ (∀ r37 : kw_R, r37 = kw_st r29 a0 4 ((((n + 1) + 1) + 1) + 1) → (∀ i42 : kw_I, i42 = kw_st i35 a0 5 (0 : Int32) → (∀ i47 : kw_I, i47 = kw_st i42 a0 6 (0 : Int32) → (Q T35 (((((n + 1) + 1) + 1) + 1) + 1) r37 i47))))))))))))))))))))))
abbrev rm_X3_init : Room := { frames := 1, cells := 5, slots := 56, locals := 60 }
set_option maxHeartbeats 4000000 in
set_option maxRecDepth 100000 in
theorem t_X3_init {l : Launch} {G : kw_G} {a0 : Nat} {T : kw_T} {n : Nat} {r : kw_R} {i : kw_I} {w : kw_L} {Q : kw_T → Nat → kw_R → kw_I → Prop} (h0 : T a0 = (0, 3)) (h : w_X3_init a0 T n r i w Q) : kw_Met l G yX3_init cX3_init 1 none rm_X3_init [kw_a a0] (T, n, r, i, w) (kw_PV (fun T' n' r' i' w' => w = w' ∧ Q T' n' r' i')) := by
  refine kw_Met.of (by decide) (Nat.le_of_ble_eq_true rfl) fun E hl hRm hE hT hnm => ?_
  have hm : kw_m E G cX3_init 1 RX3 none rm_X3_init "<init>" := ⟨hE, hT, hRm, hnm⟩
  subst hl
  show kw_K E G 1 0 0 (kw_Z E G 5 56 (kw_PV (fun T' n' r' i' w' => w = w' ∧ Q T' n' r' i'))) 0 [(0, kw_a a0)] [] T n r i w
  refine kk_aload_n hm.1 0 dX3_init_0 rfl rfl ?_
  refine kn_objInit (st := []) hm.1 wm_X3_3 wo_1 wo_2 dX3_init_1 h0 hm.2.2.1 (by decide) (Nat.le_of_ble_eq_true rfl) ?_
  refine kk_aload_n hm.1 0 dX3_init_4 rfl rfl ?_
  refine kk_iconst (v := (5 : Int32)) hm.1 dX3_init_5 (by decide) ?_
  obtain ⟨o6, h⟩ := h
  refine kn_newaI (m := 5) hm.1 1 (by decide) (by decide) rfl wa_1 dX3_init_6 (by decide) (by decide) (by decide) o6 hm.2.2.1 (by decide) (by decide) rfl rfl (fun T6 i6 e6 f6 => ?_)
  have h := h T6 i6 e6 f6
  obtain ⟨o8, h⟩ := h
  refine kn_putR hm.1 fp_X3_9 rfl (fun h => hm.2.2.2) dX3_init_8 o8 (fun r8 e8 => ?_)
  have h := h r8 e8
  refine kk_aload_n hm.1 0 dX3_init_11 rfl rfl ?_
  refine kk_iconst (v := (5 : Int32)) hm.1 dX3_init_12 (by decide) ?_
  obtain ⟨o13, h⟩ := h
  refine kn_newaI (m := 5) hm.1 1 (by decide) (by decide) rfl wa_1 dX3_init_13 (by decide) (by decide) (by decide) o13 hm.2.2.1 (by decide) (by decide) rfl rfl (fun T13 i13 e13 f13 => ?_)
  have h := h T13 i13 e13 f13
  obtain ⟨o15, h⟩ := h
  refine kn_putR hm.1 fp_X3_15 rfl (fun h => hm.2.2.2) dX3_init_15 o15 (fun r15 e15 => ?_)
  have h := h r15 e15
  refine kk_aload_n hm.1 0 dX3_init_18 rfl rfl ?_
  refine kk_iconst (v := (5 : Int32)) hm.1 dX3_init_19 (by decide) ?_
  obtain ⟨o20, h⟩ := h
  refine kn_newaI (m := 5) hm.1 1 (by decide) (by decide) rfl wa_1 dX3_init_20 (by decide) (by decide) (by decide) o20 hm.2.2.1 (by decide) (by decide) rfl rfl (fun T20 i20 e20 f20 => ?_)
  have h := h T20 i20 e20 f20
  obtain ⟨o22, h⟩ := h
  refine kn_putR hm.1 fp_X3_18 rfl (fun h => hm.2.2.2) dX3_init_22 o22 (fun r22 e22 => ?_)
  have h := h r22 e22
  refine kk_aload_n hm.1 0 dX3_init_25 rfl rfl ?_
  refine kk_iconst (v := (5 : Int32)) hm.1 dX3_init_26 (by decide) ?_
  obtain ⟨o27, h⟩ := h
  refine kn_newaI (m := 5) hm.1 1 (by decide) (by decide) rfl wa_1 dX3_init_27 (by decide) (by decide) (by decide) o27 hm.2.2.1 (by decide) (by decide) rfl rfl (fun T27 i27 e27 f27 => ?_)
  have h := h T27 i27 e27 f27
  obtain ⟨o29, h⟩ := h
  refine kn_putR hm.1 fp_X3_21 rfl (fun h => hm.2.2.2) dX3_init_29 o29 (fun r29 e29 => ?_)
  have h := h r29 e29
  refine kk_aload_n hm.1 0 dX3_init_32 rfl rfl ?_
  refine kk_bipush (v := (36 : Int32)) hm.1 dX3_init_33 (by decide) ?_
  obtain ⟨o35, h⟩ := h
  refine kn_newaI (m := 36) hm.1 1 (by decide) (by decide) rfl wa_1 dX3_init_35 (by decide) (by decide) (by decide) o35 hm.2.2.1 (by decide) (by decide) rfl rfl (fun T35 i35 e35 f35 => ?_)
  have h := h T35 i35 e35 f35
  obtain ⟨o37, h⟩ := h
  refine kn_putR hm.1 fp_X3_24 rfl (fun h => hm.2.2.2) dX3_init_37 o37 (fun r37 e37 => ?_)
  have h := h r37 e37
  refine kk_aload_n hm.1 0 dX3_init_40 rfl rfl ?_
  refine kk_iconst (v := (0 : Int32)) hm.1 dX3_init_41 (by decide) ?_
  refine kn_putI hm.1 fp_X3_27 dX3_init_42 o37 (fun i42 e42 => ?_)
  have h := h i42 e42
  refine kk_aload_n hm.1 0 dX3_init_45 rfl rfl ?_
  refine kk_iconst (v := (0 : Int32)) hm.1 dX3_init_46 (by decide) ?_
  refine kn_putI hm.1 fp_X3_31 dX3_init_47 o37 (fun i47 e47 => ?_)
  have h := h i47 e47
  exact kk_vret hm.1 hm.2.1 dX3_init_50 ⟨rfl, rfl, h⟩
def w_X9_isCell  (x0 : Int32) (T : kw_T) (n : Nat) (r : kw_R) (i : kw_I) (w : kw_L) (Q : Int32 → Prop) : Prop :=
  (x0 < 0 → Q (0 : Int32)) ∧ (¬ x0 < 0 → ((36 : Int32) ≤ x0 → Q (0 : Int32)) ∧ (¬ (36 : Int32) ≤ x0 → Q (1 : Int32)))
abbrev rm_X9_isCell : Room := { frames := 1, cells := 0, slots := 0, locals := 60 }
set_option maxHeartbeats 4000000 in
set_option maxRecDepth 100000 in
theorem t_X9_isCell {l : Launch} {G : kw_G} {x0 : Int32} {T : kw_T} {n : Nat} {r : kw_R} {i : kw_I} {w : kw_L} {Q : Int32 → Prop} (h : w_X9_isCell x0 T n r i w Q) : kw_Met l G yX9_isCell cX9_isCell 1 (some .boolean) rm_X9_isCell [kw_i x0] (T, n, r, i, w) (kw_PI (fun v T' n' r' i' w' => T = T' ∧ n = n' ∧ r = r' ∧ i = i' ∧ w = w' ∧ Q v)) := by
  refine kw_Met.of (by decide) (Nat.le_of_ble_eq_true rfl) fun E hl hRm hE hT hnm => ?_
  have hm : kw_m E G cX9_isCell 1 RX9 (some .boolean) rm_X9_isCell "isCell" := ⟨hE, hT, hRm, hnm⟩
  subst hl
  show kw_K E G 1 0 0 (kw_Z E G 0 0 (kw_PI (fun v T' n' r' i' w' => T = T' ∧ n = n' ∧ r = r' ∧ i = i' ∧ w = w' ∧ Q v))) 0 [(0, kw_i x0)] [] T n r i w
  refine kk_iload_n hm.1 0 dX9_isCell_0 rfl rfl ?_
  refine kk_if_lt (tgt := 14) hm.1 dX9_isCell_1 (by decide) (fun c1 => ?_) (fun c1 => ?_)
  · have h := h.1 c1
    refine kk_iconst (v := (0 : Int32)) hm.1 dX9_isCell_14 (by decide) ?_
    exact kk_zret hm.1 hm.2.1 dX9_isCell_15 (Or.inl rfl) ⟨_, rfl, rfl, rfl, rfl, rfl, rfl, h⟩
  · have h := h.2 c1
    refine kk_iload_n hm.1 0 dX9_isCell_4 rfl rfl ?_
    refine kk_bipush (v := (36 : Int32)) hm.1 dX9_isCell_5 (by decide) ?_
    refine kk_icmp_ge (tgt := 14) hm.1 dX9_isCell_7 (by decide) (fun c7 => ?_) (fun c7 => ?_)
    · have h := h.1 c7
      refine kk_iconst (v := (0 : Int32)) hm.1 dX9_isCell_14 (by decide) ?_
      exact kk_zret hm.1 hm.2.1 dX9_isCell_15 (Or.inl rfl) ⟨_, rfl, rfl, rfl, rfl, rfl, rfl, h⟩
    · have h := h.2 c7
      refine kk_iconst (v := (1 : Int32)) hm.1 dX9_isCell_10 (by decide) ?_
      refine kk_goto (tgt := 15) hm.1 dX9_isCell_11 (by decide) ?_
      exact kk_zret hm.1 hm.2.1 dX9_isCell_15 (Or.inr rfl) ⟨_, rfl, rfl, rfl, rfl, rfl, rfl, h⟩
def s_X3_insert_59 (a0 : Nat) (x1 : Int32) (T : kw_T) (n : Nat) (r : kw_R) (w : kw_L) (Q : Int32 → kw_I → Prop)  (k59 : Int32 → Int32 → kw_I → Prop) (x2 : Int32) (x3 : Int32) (i : kw_I) : Prop :=
  (x3 ≤ x2 → kw_in T 1 (r a0 1) x2 ∧ (∀ i90 : kw_I, i90 = kw_st i (r a0 1) (x2).toNatClampNeg x1 → (∀ i98 : kw_I, i98 = kw_st i90 a0 5 ((i90 a0 5) + (1 : Int32)) → (Q (1 : Int32) i98)))) ∧ (¬ x3 ≤ x2 → kw_in T 1 (r a0 1) (x3 - (1 : Int32)) ∧ (kw_in T 1 (r a0 1) x3 ∧ (∀ i77 : kw_I, i77 = kw_st i (r a0 1) (x3).toNatClampNeg (i (r a0 1) ((x3 - (1 : Int32))).toNatClampNeg) → (k59 x2 ((x3 + (-1 : Int32))) i77))))
def w_X3_insert_59 (a0 : Nat) (x1 : Int32) (T : kw_T) (n : Nat) (r : kw_R) (w : kw_L) (Q : Int32 → kw_I → Prop)  : Nat → Int32 → Int32 → kw_I → Prop
  | 0 => fun _ _ _ => False
  | N + 1 => s_X3_insert_59 a0 x1 T n r w Q  (w_X3_insert_59 a0 x1 T n r w Q  N)
def w_X3_insert_54 (a0 : Nat) (x1 : Int32) (T : kw_T) (n : Nat) (r : kw_R) (w : kw_L) (Q : Int32 → kw_I → Prop)  (x2 : Int32) (i : kw_I) : Prop :=
  ∃ N, w_X3_insert_59 a0 x1 T n r w Q  N x2 ((i a0 5)) i
def w_X3_insert_34 (a0 : Nat) (x1 : Int32) (T : kw_T) (n : Nat) (r : kw_R) (w : kw_L) (Q : Int32 → kw_I → Prop)  (x2 : Int32) (i : kw_I) : Prop :=
  ((i a0 5) ≤ x2 → w_X3_insert_54 a0 x1 T n r w Q  x2 i) ∧ (¬ (i a0 5) ≤ x2 → kw_in T 1 (r a0 1) x2 ∧ ((¬ (i (r a0 1) (x2).toNatClampNeg) = x1 → w_X3_insert_54 a0 x1 T n r w Q  x2 i) ∧ ((i (r a0 1) (x2).toNatClampNeg) = x1 → Q (0 : Int32) i)))
def s_X3_insert_12 (a0 : Nat) (x1 : Int32) (T : kw_T) (n : Nat) (r : kw_R) (w : kw_L) (Q : Int32 → kw_I → Prop)  (k12 : Int32 → Int32 → kw_I → Prop) (x2 : Int32) (x3 : Int32) (i : kw_I) : Prop :=
  (x3 < 0 → w_X3_insert_34 a0 x1 T n r w Q  x2 i) ∧ (¬ x3 < 0 → kw_in T 1 (r a0 1) x3 ∧ (((i (r a0 1) (x3).toNatClampNeg) < x1 → w_X3_insert_34 a0 x1 T n r w Q  x2 i) ∧ (¬ (i (r a0 1) (x3).toNatClampNeg) < x1 → k12 x3 ((x3 + (-1 : Int32))) i)))
def w_X3_insert_12 (a0 : Nat) (x1 : Int32) (T : kw_T) (n : Nat) (r : kw_R) (w : kw_L) (Q : Int32 → kw_I → Prop)  : Nat → Int32 → Int32 → kw_I → Prop
  | 0 => fun _ _ _ => False
  | N + 1 => s_X3_insert_12 a0 x1 T n r w Q  (w_X3_insert_12 a0 x1 T n r w Q  N)
def w_X3_insert  (a0 : Nat) (x1 : Int32) (T : kw_T) (n : Nat) (r : kw_R) (i : kw_I) (w : kw_L) (Q : Int32 → kw_I → Prop) : Prop :=
  ∃ N, w_X3_insert_12 a0 x1 T n r w Q  N ((i a0 5)) (((i a0 5) - (1 : Int32))) i
abbrev rm_X3_insert : Room := { frames := 1, cells := 0, slots := 0, locals := 60 }
set_option maxHeartbeats 4000000 in
set_option maxRecDepth 100000 in
theorem qs_X3_insert_59 {a0 : Nat} {x1 : Int32} {T : kw_T} {n : Nat} {r : kw_R} {w : kw_L} {Q : Int32 → kw_I → Prop} {E : kw_E} {G : kw_G} (hm : kw_m E G cX3_insert 4 RX3 (some .boolean) rm_X3_insert "insert")  (h0 : T a0 = (0, 3))    {k59 : Int32 → Int32 → kw_I → Prop} (hk59 : ∀ (x2 : Int32) (x3 : Int32) (i : kw_I), k59 x2 x3 i → kw_K E G 4 0 0 (kw_Z E G 0 0 (kw_PI (fun v T' n' r' i' w' => T = T' ∧ n = n' ∧ r = r' ∧ w = w' ∧ Q v i'))) 59 [(0, kw_a a0), (1, kw_i x1), (2, kw_i x2), (3, kw_i x3)] [] T n r i w) (x2 : Int32) (x3 : Int32) (i : kw_I) (h : s_X3_insert_59 a0 x1 T n r w Q  k59 x2 x3 i) : kw_K E G 4 0 0 (kw_Z E G 0 0 (kw_PI (fun v T' n' r' i' w' => T = T' ∧ n = n' ∧ r = r' ∧ w = w' ∧ Q v i'))) 59 [(0, kw_a a0), (1, kw_i x1), (2, kw_i x2), (3, kw_i x3)] [] T n r i w := by
  refine kk_iload_n hm.1 3 dX3_insert_59 rfl rfl ?_
  refine kk_iload_n hm.1 2 dX3_insert_60 rfl rfl ?_
  refine kk_icmp_le (tgt := 84) hm.1 dX3_insert_61 (by decide) (fun c61 => ?_) (fun c61 => ?_)
  · have h := h.1 c61
    refine kk_aload_n hm.1 0 dX3_insert_84 rfl rfl ?_
    refine kk_getR hm.1 ff_X3_15 dX3_insert_85 h0 ?_
    refine kk_iload_n hm.1 2 dX3_insert_88 rfl rfl ?_
    refine kk_iload_n hm.1 1 dX3_insert_89 rfl rfl ?_
    obtain ⟨o90, h⟩ := h
    refine kn_iastore hm.1 dX3_insert_90 o90 (fun i90 e90 => ?_)
    have h := h i90 e90
    refine kk_aload_n hm.1 0 dX3_insert_91 rfl rfl ?_
    refine kk_dup hm.1 dX3_insert_92 rfl ?_
    refine kk_getI hm.1 ff_X3_27 dX3_insert_93 h0 ?_
    refine kk_iconst (v := (1 : Int32)) hm.1 dX3_insert_96 (by decide) ?_
    refine kk_iadd hm.1 dX3_insert_97 ?_
    refine kn_putI hm.1 fp_X3_27 dX3_insert_98 h0 (fun i98 e98 => ?_)
    have h := h i98 e98
    refine kk_iconst (v := (1 : Int32)) hm.1 dX3_insert_101 (by decide) ?_
    exact kk_zret hm.1 hm.2.1 dX3_insert_102 (Or.inr rfl) ⟨_, rfl, rfl, rfl, rfl, rfl, h⟩
  · have h := h.2 c61
    refine kk_aload_n hm.1 0 dX3_insert_64 rfl rfl ?_
    refine kk_getR hm.1 ff_X3_15 dX3_insert_65 h0 ?_
    refine kk_iload_n hm.1 3 dX3_insert_68 rfl rfl ?_
    refine kk_aload_n hm.1 0 dX3_insert_69 rfl rfl ?_
    refine kk_getR hm.1 ff_X3_15 dX3_insert_70 h0 ?_
    refine kk_iload_n hm.1 3 dX3_insert_73 rfl rfl ?_
    refine kk_iconst (v := (1 : Int32)) hm.1 dX3_insert_74 (by decide) ?_
    refine kk_isub hm.1 dX3_insert_75 ?_
    obtain ⟨o76, h⟩ := h
    refine kk_iaload hm.1 dX3_insert_76 o76 ?_
    obtain ⟨o77, h⟩ := h
    refine kn_iastore hm.1 dX3_insert_77 o77 (fun i77 e77 => ?_)
    have h := h i77 e77
    refine kk_iinc (v := (x3 + (-1 : Int32))) (L' := [(3, kw_i (x3 + (-1 : Int32))), (0, kw_a a0), (1, kw_i x1), (2, kw_i x2)]) hm.1 3 dX3_insert_78 rfl rfl (by decide) rfl ?_
    refine kk_goto (tgt := 59) hm.1 dX3_insert_81 (by decide) ?_
    refine kk_loc (L' := [(0, kw_a a0), (1, kw_i x1), (2, kw_i x2), (3, kw_i (x3 + (-1 : Int32)))]) [1, 2, 3, 0] rfl ?_
    exact hk59 x2 ((x3 + (-1 : Int32))) i77 h
set_option maxHeartbeats 4000000 in
set_option maxRecDepth 100000 in
theorem q_X3_insert_59 {a0 : Nat} {x1 : Int32} {T : kw_T} {n : Nat} {r : kw_R} {w : kw_L} {Q : Int32 → kw_I → Prop} {E : kw_E} {G : kw_G} (hm : kw_m E G cX3_insert 4 RX3 (some .boolean) rm_X3_insert "insert")  (h0 : T a0 = (0, 3))    : ∀ (N : Nat) (x2 : Int32) (x3 : Int32) (i : kw_I), w_X3_insert_59 a0 x1 T n r w Q  N x2 x3 i → kw_K E G 4 0 0 (kw_Z E G 0 0 (kw_PI (fun v T' n' r' i' w' => T = T' ∧ n = n' ∧ r = r' ∧ w = w' ∧ Q v i'))) 59 [(0, kw_a a0), (1, kw_i x1), (2, kw_i x2), (3, kw_i x3)] [] T n r i w := by
  intro N
  induction N with
  | zero => intro x2 x3 i h; exact h.elim
  | succ N ih => intro x2 x3 i h; exact qs_X3_insert_59 hm  h0  ih x2 x3 i h
set_option maxHeartbeats 4000000 in
set_option maxRecDepth 100000 in
theorem q_X3_insert_54 {a0 : Nat} {x1 : Int32} {T : kw_T} {n : Nat} {r : kw_R} {w : kw_L} {Q : Int32 → kw_I → Prop} {E : kw_E} {G : kw_G} (hm : kw_m E G cX3_insert 4 RX3 (some .boolean) rm_X3_insert "insert")  (h0 : T a0 = (0, 3))    (x2 : Int32) (i : kw_I) (h : w_X3_insert_54 a0 x1 T n r w Q  x2 i) : kw_K E G 4 0 0 (kw_Z E G 0 0 (kw_PI (fun v T' n' r' i' w' => T = T' ∧ n = n' ∧ r = r' ∧ w = w' ∧ Q v i'))) 54 [(0, kw_a a0), (1, kw_i x1), (2, kw_i x2)] [] T n r i w := by
  refine kk_aload_n hm.1 0 dX3_insert_54 rfl rfl ?_
  refine kk_getI hm.1 ff_X3_27 dX3_insert_55 h0 ?_
  refine kk_istore_n (L' := [(3, kw_i (i a0 5)), (0, kw_a a0), (1, kw_i x1), (2, kw_i x2)]) hm.1 dX3_insert_58 rfl (by decide) rfl ?_
  refine kk_loc (L' := [(0, kw_a a0), (1, kw_i x1), (2, kw_i x2), (3, kw_i (i a0 5))]) [1, 2, 3, 0] rfl ?_
  obtain ⟨N, h⟩ := h
  exact q_X3_insert_59 hm  h0   N x2 ((i a0 5)) i h
set_option maxHeartbeats 4000000 in
set_option maxRecDepth 100000 in
theorem q_X3_insert_34 {a0 : Nat} {x1 : Int32} {T : kw_T} {n : Nat} {r : kw_R} {w : kw_L} {Q : Int32 → kw_I → Prop} {E : kw_E} {G : kw_G} (hm : kw_m E G cX3_insert 4 RX3 (some .boolean) rm_X3_insert "insert")  (h0 : T a0 = (0, 3))    (x2 : Int32) (i : kw_I) (h : w_X3_insert_34 a0 x1 T n r w Q  x2 i) : kw_K E G 4 0 0 (kw_Z E G 0 0 (kw_PI (fun v T' n' r' i' w' => T = T' ∧ n = n' ∧ r = r' ∧ w = w' ∧ Q v i'))) 34 [(0, kw_a a0), (1, kw_i x1), (2, kw_i x2)] [] T n r i w := by
  refine kk_iload_n hm.1 2 dX3_insert_34 rfl rfl ?_
  refine kk_aload_n hm.1 0 dX3_insert_35 rfl rfl ?_
  refine kk_getI hm.1 ff_X3_27 dX3_insert_36 h0 ?_
  refine kk_icmp_ge (tgt := 54) hm.1 dX3_insert_39 (by decide) (fun c39 => ?_) (fun c39 => ?_)
  · have h := h.1 c39
    exact q_X3_insert_54 hm  h0   x2 i h
  · have h := h.2 c39
    refine kk_aload_n hm.1 0 dX3_insert_42 rfl rfl ?_
    refine kk_getR hm.1 ff_X3_15 dX3_insert_43 h0 ?_
    refine kk_iload_n hm.1 2 dX3_insert_46 rfl rfl ?_
    obtain ⟨o47, h⟩ := h
    refine kk_iaload hm.1 dX3_insert_47 o47 ?_
    refine kk_iload_n hm.1 1 dX3_insert_48 rfl rfl ?_
    refine kk_icmp_ne (tgt := 54) hm.1 dX3_insert_49 (by decide) (fun c49 => ?_) (fun c49 => ?_)
    · have h := h.1 c49
      exact q_X3_insert_54 hm  h0   x2 i h
    · have h := h.2 c49
      refine kk_iconst (v := (0 : Int32)) hm.1 dX3_insert_52 (by decide) ?_
      exact kk_zret hm.1 hm.2.1 dX3_insert_53 (Or.inl rfl) ⟨_, rfl, rfl, rfl, rfl, rfl, h⟩
set_option maxHeartbeats 4000000 in
set_option maxRecDepth 100000 in
theorem qs_X3_insert_12 {a0 : Nat} {x1 : Int32} {T : kw_T} {n : Nat} {r : kw_R} {w : kw_L} {Q : Int32 → kw_I → Prop} {E : kw_E} {G : kw_G} (hm : kw_m E G cX3_insert 4 RX3 (some .boolean) rm_X3_insert "insert")  (h0 : T a0 = (0, 3))    {k12 : Int32 → Int32 → kw_I → Prop} (hk12 : ∀ (x2 : Int32) (x3 : Int32) (i : kw_I), k12 x2 x3 i → kw_K E G 4 0 0 (kw_Z E G 0 0 (kw_PI (fun v T' n' r' i' w' => T = T' ∧ n = n' ∧ r = r' ∧ w = w' ∧ Q v i'))) 12 [(0, kw_a a0), (1, kw_i x1), (2, kw_i x2), (3, kw_i x3)] [] T n r i w) (x2 : Int32) (x3 : Int32) (i : kw_I) (h : s_X3_insert_12 a0 x1 T n r w Q  k12 x2 x3 i) : kw_K E G 4 0 0 (kw_Z E G 0 0 (kw_PI (fun v T' n' r' i' w' => T = T' ∧ n = n' ∧ r = r' ∧ w = w' ∧ Q v i'))) 12 [(0, kw_a a0), (1, kw_i x1), (2, kw_i x2), (3, kw_i x3)] [] T n r i w := by
  refine kk_iload_n hm.1 3 dX3_insert_12 rfl rfl ?_
  refine kk_if_lt (tgt := 34) hm.1 dX3_insert_13 (by decide) (fun c13 => ?_) (fun c13 => ?_)
  · have h := h.1 c13
    refine kk_loc (L' := [(0, kw_a a0), (1, kw_i x1), (2, kw_i x2)]) [0, 1, 2] rfl ?_
    exact q_X3_insert_34 hm  h0   x2 i h
  · have h := h.2 c13
    refine kk_aload_n hm.1 0 dX3_insert_16 rfl rfl ?_
    refine kk_getR hm.1 ff_X3_15 dX3_insert_17 h0 ?_
    refine kk_iload_n hm.1 3 dX3_insert_20 rfl rfl ?_
    obtain ⟨o21, h⟩ := h
    refine kk_iaload hm.1 dX3_insert_21 o21 ?_
    refine kk_iload_n hm.1 1 dX3_insert_22 rfl rfl ?_
    refine kk_icmp_lt (tgt := 34) hm.1 dX3_insert_23 (by decide) (fun c23 => ?_) (fun c23 => ?_)
    · have h := h.1 c23
      refine kk_loc (L' := [(0, kw_a a0), (1, kw_i x1), (2, kw_i x2)]) [0, 1, 2] rfl ?_
      exact q_X3_insert_34 hm  h0   x2 i h
    · have h := h.2 c23
      refine kk_iload_n hm.1 3 dX3_insert_26 rfl rfl ?_
      refine kk_istore_n (L' := [(2, kw_i x3), (0, kw_a a0), (1, kw_i x1), (3, kw_i x3)]) hm.1 dX3_insert_27 rfl (by decide) rfl ?_
      refine kk_iinc (v := (x3 + (-1 : Int32))) (L' := [(3, kw_i (x3 + (-1 : Int32))), (2, kw_i x3), (0, kw_a a0), (1, kw_i x1)]) hm.1 3 dX3_insert_28 rfl rfl (by decide) rfl ?_
      refine kk_goto (tgt := 12) hm.1 dX3_insert_31 (by decide) ?_
      refine kk_loc (L' := [(0, kw_a a0), (1, kw_i x1), (2, kw_i x3), (3, kw_i (x3 + (-1 : Int32)))]) [2, 3, 1, 0] rfl ?_
      exact hk12 x3 ((x3 + (-1 : Int32))) i h
set_option maxHeartbeats 4000000 in
set_option maxRecDepth 100000 in
theorem q_X3_insert_12 {a0 : Nat} {x1 : Int32} {T : kw_T} {n : Nat} {r : kw_R} {w : kw_L} {Q : Int32 → kw_I → Prop} {E : kw_E} {G : kw_G} (hm : kw_m E G cX3_insert 4 RX3 (some .boolean) rm_X3_insert "insert")  (h0 : T a0 = (0, 3))    : ∀ (N : Nat) (x2 : Int32) (x3 : Int32) (i : kw_I), w_X3_insert_12 a0 x1 T n r w Q  N x2 x3 i → kw_K E G 4 0 0 (kw_Z E G 0 0 (kw_PI (fun v T' n' r' i' w' => T = T' ∧ n = n' ∧ r = r' ∧ w = w' ∧ Q v i'))) 12 [(0, kw_a a0), (1, kw_i x1), (2, kw_i x2), (3, kw_i x3)] [] T n r i w := by
  intro N
  induction N with
  | zero => intro x2 x3 i h; exact h.elim
  | succ N ih => intro x2 x3 i h; exact qs_X3_insert_12 hm  h0  ih x2 x3 i h
set_option maxHeartbeats 4000000 in
set_option maxRecDepth 100000 in
theorem t_X3_insert {l : Launch} {G : kw_G} {a0 : Nat} {x1 : Int32} {T : kw_T} {n : Nat} {r : kw_R} {i : kw_I} {w : kw_L} {Q : Int32 → kw_I → Prop} (h0 : T a0 = (0, 3)) (h : w_X3_insert a0 x1 T n r i w Q) : kw_Met l G yX3_insert cX3_insert 4 (some .boolean) rm_X3_insert [kw_a a0, kw_i x1] (T, n, r, i, w) (kw_PI (fun v T' n' r' i' w' => T = T' ∧ n = n' ∧ r = r' ∧ w = w' ∧ Q v i')) := by
  refine kw_Met.of (by decide) (Nat.le_of_ble_eq_true rfl) fun E hl hRm hE hT hnm => ?_
  have hm : kw_m E G cX3_insert 4 RX3 (some .boolean) rm_X3_insert "insert" := ⟨hE, hT, hRm, hnm⟩
  subst hl
  show kw_K E G 4 0 0 (kw_Z E G 0 0 (kw_PI (fun v T' n' r' i' w' => T = T' ∧ n = n' ∧ r = r' ∧ w = w' ∧ Q v i'))) 0 [(0, kw_a a0), (1, kw_i x1)] [] T n r i w
  refine kk_aload_n hm.1 0 dX3_insert_0 rfl rfl ?_
  refine kk_getI hm.1 ff_X3_27 dX3_insert_1 h0 ?_
  refine kk_istore_n (L' := [(2, kw_i (i a0 5)), (0, kw_a a0), (1, kw_i x1)]) hm.1 dX3_insert_4 rfl (by decide) rfl ?_
  refine kk_aload_n hm.1 1 dX3_insert_5 rfl rfl ?_
  refine kk_getI hm.1 ff_X3_27 dX3_insert_6 h0 ?_
  refine kk_iconst (v := (1 : Int32)) hm.1 dX3_insert_9 (by decide) ?_
  refine kk_isub hm.1 dX3_insert_10 ?_
  refine kk_istore_n (L' := [(3, kw_i ((i a0 5) - (1 : Int32))), (2, kw_i (i a0 5)), (0, kw_a a0), (1, kw_i x1)]) hm.1 dX3_insert_11 rfl (by decide) rfl ?_
  refine kk_loc (L' := [(0, kw_a a0), (1, kw_i x1), (2, kw_i (i a0 5)), (3, kw_i ((i a0 5) - (1 : Int32)))]) [2, 3, 1, 0] rfl ?_
  obtain ⟨N, h⟩ := h
  exact q_X3_insert_12 hm  h0   N ((i a0 5)) (((i a0 5) - (1 : Int32))) i h
def w_X3_takeCells_103 (a0 : Nat) (x1 : Int32) (x2 : Int32) (x3 : Int32) (x4 : Int32) (x5 : Int32) (T : kw_T) (n : Nat) (r : kw_R) (w : kw_L) (Q : Int32 → kw_I → Prop) (k45 : Int32 → kw_I → Prop) (x6 : Int32) (i : kw_I) : Prop :=
  k45 ((x6 + (1 : Int32))) i
def s_X3_takeCells_45 (a0 : Nat) (x1 : Int32) (x2 : Int32) (x3 : Int32) (x4 : Int32) (x5 : Int32) (T : kw_T) (n : Nat) (r : kw_R) (w : kw_L) (Q : Int32 → kw_I → Prop)  (k45 : Int32 → kw_I → Prop) (x6 : Int32) (i : kw_I) : Prop :=
  ((5 : Int32) ≤ x6 → Q (1 : Int32) i) ∧ (¬ (5 : Int32) ≤ x6 → kw_in T 1 (r a0 0) x6 ∧ ((¬ (i (r a0 0) (x6).toNatClampNeg) = (-1 : Int32) → kw_in T 1 (r a0 0) x6 ∧ (w_X9_isCell (i (r a0 0) (x6).toNatClampNeg) T n r i w (fun v72 => (v72 = 0 → Q (0 : Int32) i) ∧ (¬ v72 = 0 → ((i a0 5) < x6 → Q (0 : Int32) i) ∧ (¬ (i a0 5) < x6 → kw_in T 1 (r a0 0) x6 ∧ (w_X3_insert a0 (i (r a0 0) (x6).toNatClampNeg) T n r i w (fun v95 i95 => (¬ v95 = 0 → w_X3_takeCells_103 a0 x1 x2 x3 x4 x5 T n r w Q k45 x6 i95) ∧ (v95 = 0 → Q (0 : Int32) i95)))))))) ∧ ((i (r a0 0) (x6).toNatClampNeg) = (-1 : Int32) → w_X3_takeCells_103 a0 x1 x2 x3 x4 x5 T n r w Q k45 x6 i)))
def w_X3_takeCells_45 (a0 : Nat) (x1 : Int32) (x2 : Int32) (x3 : Int32) (x4 : Int32) (x5 : Int32) (T : kw_T) (n : Nat) (r : kw_R) (w : kw_L) (Q : Int32 → kw_I → Prop)  : Nat → Int32 → kw_I → Prop
  | 0 => fun _ _ => False
  | N + 1 => s_X3_takeCells_45 a0 x1 x2 x3 x4 x5 T n r w Q  (w_X3_takeCells_45 a0 x1 x2 x3 x4 x5 T n r w Q  N)
def w_X3_takeCells  (a0 : Nat) (x1 : Int32) (x2 : Int32) (x3 : Int32) (x4 : Int32) (x5 : Int32) (T : kw_T) (n : Nat) (r : kw_R) (i : kw_I) (w : kw_L) (Q : Int32 → kw_I → Prop) : Prop :=
  kw_in T 1 (r a0 0) (0 : Int32) ∧ (∀ i6 : kw_I, i6 = kw_st i (r a0 0) ((0 : Int32)).toNatClampNeg x1 → (kw_in T 1 (r a0 0) (1 : Int32) ∧ (∀ i13 : kw_I, i13 = kw_st i6 (r a0 0) ((1 : Int32)).toNatClampNeg x2 → (kw_in T 1 (r a0 0) (2 : Int32) ∧ (∀ i20 : kw_I, i20 = kw_st i13 (r a0 0) ((2 : Int32)).toNatClampNeg x3 → (kw_in T 1 (r a0 0) (3 : Int32) ∧ (∀ i28 : kw_I, i28 = kw_st i20 (r a0 0) ((3 : Int32)).toNatClampNeg x4 → (kw_in T 1 (r a0 0) (4 : Int32) ∧ (∀ i36 : kw_I, i36 = kw_st i28 (r a0 0) ((4 : Int32)).toNatClampNeg x5 → (∀ i39 : kw_I, i39 = kw_st i36 a0 5 (0 : Int32) → (∃ N, w_X3_takeCells_45 a0 x1 x2 x3 x4 x5 T n r w Q  N ((0 : Int32)) i39)))))))))))
abbrev rm_X3_takeCells : Room := { frames := 2, cells := 0, slots := 0, locals := 83 }
set_option maxHeartbeats 4000000 in
set_option maxRecDepth 100000 in
theorem q_X3_takeCells_103 {a0 : Nat} {x1 : Int32} {x2 : Int32} {x3 : Int32} {x4 : Int32} {x5 : Int32} {T : kw_T} {n : Nat} {r : kw_R} {w : kw_L} {Q : Int32 → kw_I → Prop} {E : kw_E} {G : kw_G} (hm : kw_m E G cX3_takeCells 7 RX3 (some .boolean) rm_X3_takeCells "takeCells")  (h0 : T a0 = (0, 3))  {k45 : Int32 → kw_I → Prop} (hk45 : ∀ (x6 : Int32) (i : kw_I), k45 x6 i → kw_K E G 7 0 0 (kw_Z E G 0 0 (kw_PI (fun v T' n' r' i' w' => T = T' ∧ n = n' ∧ r = r' ∧ w = w' ∧ Q v i'))) 45 [(0, kw_a a0), (1, kw_i x1), (2, kw_i x2), (3, kw_i x3), (4, kw_i x4), (5, kw_i x5), (6, kw_i x6)] [] T n r i w) (x6 : Int32) (i : kw_I) (h : w_X3_takeCells_103 a0 x1 x2 x3 x4 x5 T n r w Q k45 x6 i) : kw_K E G 7 0 0 (kw_Z E G 0 0 (kw_PI (fun v T' n' r' i' w' => T = T' ∧ n = n' ∧ r = r' ∧ w = w' ∧ Q v i'))) 103 [(0, kw_a a0), (1, kw_i x1), (2, kw_i x2), (3, kw_i x3), (4, kw_i x4), (5, kw_i x5), (6, kw_i x6)] [] T n r i w := by
  refine kk_iinc (v := (x6 + (1 : Int32))) (L' := [(6, kw_i (x6 + (1 : Int32))), (0, kw_a a0), (1, kw_i x1), (2, kw_i x2), (3, kw_i x3), (4, kw_i x4), (5, kw_i x5)]) hm.1 6 dX3_takeCells_103 rfl rfl (by decide) rfl ?_
  refine kk_goto (tgt := 45) hm.1 dX3_takeCells_106 (by decide) ?_
  refine kk_loc (L' := [(0, kw_a a0), (1, kw_i x1), (2, kw_i x2), (3, kw_i x3), (4, kw_i x4), (5, kw_i x5), (6, kw_i (x6 + (1 : Int32)))]) [1, 2, 3, 4, 5, 6, 0] rfl ?_
  exact hk45 ((x6 + (1 : Int32))) i h
set_option maxHeartbeats 4000000 in
set_option maxRecDepth 100000 in
theorem qs_X3_takeCells_45 {a0 : Nat} {x1 : Int32} {x2 : Int32} {x3 : Int32} {x4 : Int32} {x5 : Int32} {T : kw_T} {n : Nat} {r : kw_R} {w : kw_L} {Q : Int32 → kw_I → Prop} {E : kw_E} {G : kw_G} (hm : kw_m E G cX3_takeCells 7 RX3 (some .boolean) rm_X3_takeCells "takeCells")  (h0 : T a0 = (0, 3))    {k45 : Int32 → kw_I → Prop} (hk45 : ∀ (x6 : Int32) (i : kw_I), k45 x6 i → kw_K E G 7 0 0 (kw_Z E G 0 0 (kw_PI (fun v T' n' r' i' w' => T = T' ∧ n = n' ∧ r = r' ∧ w = w' ∧ Q v i'))) 45 [(0, kw_a a0), (1, kw_i x1), (2, kw_i x2), (3, kw_i x3), (4, kw_i x4), (5, kw_i x5), (6, kw_i x6)] [] T n r i w) (x6 : Int32) (i : kw_I) (h : s_X3_takeCells_45 a0 x1 x2 x3 x4 x5 T n r w Q  k45 x6 i) : kw_K E G 7 0 0 (kw_Z E G 0 0 (kw_PI (fun v T' n' r' i' w' => T = T' ∧ n = n' ∧ r = r' ∧ w = w' ∧ Q v i'))) 45 [(0, kw_a a0), (1, kw_i x1), (2, kw_i x2), (3, kw_i x3), (4, kw_i x4), (5, kw_i x5), (6, kw_i x6)] [] T n r i w := by
  refine kk_iload hm.1 6 dX3_takeCells_45 rfl ?_
  refine kk_iconst (v := (5 : Int32)) hm.1 dX3_takeCells_47 (by decide) ?_
  refine kk_icmp_ge (tgt := 109) hm.1 dX3_takeCells_48 (by decide) (fun c48 => ?_) (fun c48 => ?_)
  · have h := h.1 c48
    refine kk_iconst (v := (1 : Int32)) hm.1 dX3_takeCells_109 (by decide) ?_
    exact kk_zret hm.1 hm.2.1 dX3_takeCells_110 (Or.inr rfl) ⟨_, rfl, rfl, rfl, rfl, rfl, h⟩
  · have h := h.2 c48
    refine kk_aload_n hm.1 0 dX3_takeCells_51 rfl rfl ?_
    refine kk_getR hm.1 ff_X3_9 dX3_takeCells_52 h0 ?_
    refine kk_iload hm.1 6 dX3_takeCells_55 rfl ?_
    obtain ⟨o57, h⟩ := h
    refine kk_iaload hm.1 dX3_takeCells_57 o57 ?_
    refine kk_iconst (v := (-1 : Int32)) hm.1 dX3_takeCells_58 (by decide) ?_
    refine kk_icmp_ne (tgt := 65) hm.1 dX3_takeCells_59 (by decide) (fun c59 => ?_) (fun c59 => ?_)
    · have h := h.1 c59
      refine kk_aload_n hm.1 0 dX3_takeCells_65 rfl rfl ?_
      refine kk_getR hm.1 ff_X3_9 dX3_takeCells_66 h0 ?_
      refine kk_iload hm.1 6 dX3_takeCells_69 rfl ?_
      obtain ⟨o71, h⟩ := h
      refine kk_iaload hm.1 dX3_takeCells_71 o71 ?_
      refine kk_callSi (cs' := 0) (sl' := 0) (st := []) hm.1 cs_X3_34 (t_X9_isCell h) dX3_takeCells_72 rfl hm.2.2.1 ⟨by decide, by decide⟩ ⟨by decide, by decide⟩ rfl rfl (Nat.le_of_ble_eq_true rfl) rfl ?_
      rintro v72 _ _ _ _ _ ⟨rfl, rfl, rfl, rfl, rfl, h⟩
      refine kk_if_eq (tgt := 101) hm.1 dX3_takeCells_75 (by decide) (fun c75 => ?_) (fun c75 => ?_)
      · have h := h.1 c75
        refine kk_iconst (v := (0 : Int32)) hm.1 dX3_takeCells_101 (by decide) ?_
        exact kk_zret hm.1 hm.2.1 dX3_takeCells_102 (Or.inl rfl) ⟨_, rfl, rfl, rfl, rfl, rfl, h⟩
      · have h := h.2 c75
        refine kk_aload_n hm.1 0 dX3_takeCells_78 rfl rfl ?_
        refine kk_getI hm.1 ff_X3_27 dX3_takeCells_79 h0 ?_
        refine kk_iload hm.1 6 dX3_takeCells_82 rfl ?_
        refine kk_icmp_lt (tgt := 101) hm.1 dX3_takeCells_84 (by decide) (fun c84 => ?_) (fun c84 => ?_)
        · have h := h.1 c84
          refine kk_iconst (v := (0 : Int32)) hm.1 dX3_takeCells_101 (by decide) ?_
          exact kk_zret hm.1 hm.2.1 dX3_takeCells_102 (Or.inl rfl) ⟨_, rfl, rfl, rfl, rfl, rfl, h⟩
        · have h := h.2 c84
          refine kk_aload_n hm.1 0 dX3_takeCells_87 rfl rfl ?_
          refine kk_aload_n hm.1 0 dX3_takeCells_88 rfl rfl ?_
          refine kk_getR hm.1 ff_X3_9 dX3_takeCells_89 h0 ?_
          refine kk_iload hm.1 6 dX3_takeCells_92 rfl ?_
          obtain ⟨o94, h⟩ := h
          refine kk_iaload hm.1 dX3_takeCells_94 o94 ?_
          refine kk_callVi (cs' := 0) (sl' := 0) (st := []) hm.1 cv_X3_38 (t_X3_insert h0 h) dX3_takeCells_95 h0 rfl rfl hm.2.2.1 ⟨by decide, by decide⟩ ⟨by decide, by decide⟩ rfl rfl (Nat.le_of_ble_eq_true rfl) rfl ?_
          rintro v95 _ _ _ i95 _ ⟨rfl, rfl, rfl, rfl, h⟩
          refine kk_if_ne (tgt := 103) hm.1 dX3_takeCells_98 (by decide) (fun c98 => ?_) (fun c98 => ?_)
          · have h := h.1 c98
            exact q_X3_takeCells_103 hm  h0  hk45 x6 i95 h
          · have h := h.2 c98
            refine kk_iconst (v := (0 : Int32)) hm.1 dX3_takeCells_101 (by decide) ?_
            exact kk_zret hm.1 hm.2.1 dX3_takeCells_102 (Or.inl rfl) ⟨_, rfl, rfl, rfl, rfl, rfl, h⟩
    · have h := h.2 c59
      refine kk_goto (tgt := 103) hm.1 dX3_takeCells_62 (by decide) ?_
      exact q_X3_takeCells_103 hm  h0  hk45 x6 i h
set_option maxHeartbeats 4000000 in
set_option maxRecDepth 100000 in
theorem q_X3_takeCells_45 {a0 : Nat} {x1 : Int32} {x2 : Int32} {x3 : Int32} {x4 : Int32} {x5 : Int32} {T : kw_T} {n : Nat} {r : kw_R} {w : kw_L} {Q : Int32 → kw_I → Prop} {E : kw_E} {G : kw_G} (hm : kw_m E G cX3_takeCells 7 RX3 (some .boolean) rm_X3_takeCells "takeCells")  (h0 : T a0 = (0, 3))    : ∀ (N : Nat) (x6 : Int32) (i : kw_I), w_X3_takeCells_45 a0 x1 x2 x3 x4 x5 T n r w Q  N x6 i → kw_K E G 7 0 0 (kw_Z E G 0 0 (kw_PI (fun v T' n' r' i' w' => T = T' ∧ n = n' ∧ r = r' ∧ w = w' ∧ Q v i'))) 45 [(0, kw_a a0), (1, kw_i x1), (2, kw_i x2), (3, kw_i x3), (4, kw_i x4), (5, kw_i x5), (6, kw_i x6)] [] T n r i w := by
  intro N
  induction N with
  | zero => intro x6 i h; exact h.elim
  | succ N ih => intro x6 i h; exact qs_X3_takeCells_45 hm  h0  ih x6 i h
set_option maxHeartbeats 4000000 in
set_option maxRecDepth 100000 in
theorem t_X3_takeCells {l : Launch} {G : kw_G} {a0 : Nat} {x1 : Int32} {x2 : Int32} {x3 : Int32} {x4 : Int32} {x5 : Int32} {T : kw_T} {n : Nat} {r : kw_R} {i : kw_I} {w : kw_L} {Q : Int32 → kw_I → Prop} (h0 : T a0 = (0, 3)) (h : w_X3_takeCells a0 x1 x2 x3 x4 x5 T n r i w Q) : kw_Met l G yX3_takeCells cX3_takeCells 7 (some .boolean) rm_X3_takeCells [kw_a a0, kw_i x1, kw_i x2, kw_i x3, kw_i x4, kw_i x5] (T, n, r, i, w) (kw_PI (fun v T' n' r' i' w' => T = T' ∧ n = n' ∧ r = r' ∧ w = w' ∧ Q v i')) := by
  refine kw_Met.of (by decide) (Nat.le_of_ble_eq_true rfl) fun E hl hRm hE hT hnm => ?_
  have hm : kw_m E G cX3_takeCells 7 RX3 (some .boolean) rm_X3_takeCells "takeCells" := ⟨hE, hT, hRm, hnm⟩
  subst hl
  show kw_K E G 7 0 0 (kw_Z E G 0 0 (kw_PI (fun v T' n' r' i' w' => T = T' ∧ n = n' ∧ r = r' ∧ w = w' ∧ Q v i'))) 0 [(0, kw_a a0), (1, kw_i x1), (2, kw_i x2), (3, kw_i x3), (4, kw_i x4), (5, kw_i x5)] [] T n r i w
  refine kk_aload_n hm.1 0 dX3_takeCells_0 rfl rfl ?_
  refine kk_getR hm.1 ff_X3_9 dX3_takeCells_1 h0 ?_
  refine kk_iconst (v := (0 : Int32)) hm.1 dX3_takeCells_4 (by decide) ?_
  refine kk_iload_n hm.1 1 dX3_takeCells_5 rfl rfl ?_
  obtain ⟨o6, h⟩ := h
  refine kn_iastore hm.1 dX3_takeCells_6 o6 (fun i6 e6 => ?_)
  have h := h i6 e6
  refine kk_aload_n hm.1 0 dX3_takeCells_7 rfl rfl ?_
  refine kk_getR hm.1 ff_X3_9 dX3_takeCells_8 h0 ?_
  refine kk_iconst (v := (1 : Int32)) hm.1 dX3_takeCells_11 (by decide) ?_
  refine kk_iload_n hm.1 2 dX3_takeCells_12 rfl rfl ?_
  obtain ⟨o13, h⟩ := h
  refine kn_iastore hm.1 dX3_takeCells_13 o13 (fun i13 e13 => ?_)
  have h := h i13 e13
  refine kk_aload_n hm.1 0 dX3_takeCells_14 rfl rfl ?_
  refine kk_getR hm.1 ff_X3_9 dX3_takeCells_15 h0 ?_
  refine kk_iconst (v := (2 : Int32)) hm.1 dX3_takeCells_18 (by decide) ?_
  refine kk_iload_n hm.1 3 dX3_takeCells_19 rfl rfl ?_
  obtain ⟨o20, h⟩ := h
  refine kn_iastore hm.1 dX3_takeCells_20 o20 (fun i20 e20 => ?_)
  have h := h i20 e20
  refine kk_aload_n hm.1 0 dX3_takeCells_21 rfl rfl ?_
  refine kk_getR hm.1 ff_X3_9 dX3_takeCells_22 h0 ?_
  refine kk_iconst (v := (3 : Int32)) hm.1 dX3_takeCells_25 (by decide) ?_
  refine kk_iload hm.1 4 dX3_takeCells_26 rfl ?_
  obtain ⟨o28, h⟩ := h
  refine kn_iastore hm.1 dX3_takeCells_28 o28 (fun i28 e28 => ?_)
  have h := h i28 e28
  refine kk_aload_n hm.1 0 dX3_takeCells_29 rfl rfl ?_
  refine kk_getR hm.1 ff_X3_9 dX3_takeCells_30 h0 ?_
  refine kk_iconst (v := (4 : Int32)) hm.1 dX3_takeCells_33 (by decide) ?_
  refine kk_iload hm.1 5 dX3_takeCells_34 rfl ?_
  obtain ⟨o36, h⟩ := h
  refine kn_iastore hm.1 dX3_takeCells_36 o36 (fun i36 e36 => ?_)
  have h := h i36 e36
  refine kk_aload_n hm.1 0 dX3_takeCells_37 rfl rfl ?_
  refine kk_iconst (v := (0 : Int32)) hm.1 dX3_takeCells_38 (by decide) ?_
  refine kn_putI hm.1 fp_X3_27 dX3_takeCells_39 h0 (fun i39 e39 => ?_)
  have h := h i39 e39
  refine kk_iconst (v := (0 : Int32)) hm.1 dX3_takeCells_42 (by decide) ?_
  refine kk_istore (L' := [(6, kw_i (0 : Int32)), (0, kw_a a0), (1, kw_i x1), (2, kw_i x2), (3, kw_i x3), (4, kw_i x4), (5, kw_i x5)]) hm.1 dX3_takeCells_43 (by decide) rfl ?_
  refine kk_loc (L' := [(0, kw_a a0), (1, kw_i x1), (2, kw_i x2), (3, kw_i x3), (4, kw_i x4), (5, kw_i x5), (6, kw_i (0 : Int32))]) [1, 2, 3, 4, 5, 6, 0] rfl ?_
  obtain ⟨N, h⟩ := h
  exact q_X3_takeCells_45 hm  h0   N ((0 : Int32)) i39 h
def w_X9_seam  (x0 : Int32) (x1 : Int32) (T : kw_T) (n : Nat) (r : kw_R) (i : kw_I) (w : kw_L) (Q : Int32 → Prop) : Prop :=
  (x1 = (-1 : Int32) → Q (0 : Int32)) ∧ (¬ x1 = (-1 : Int32) → (x1 = x0 → Q (0 : Int32)) ∧ (¬ x1 = x0 → Q (1 : Int32)))
abbrev rm_X9_seam : Room := { frames := 1, cells := 0, slots := 0, locals := 60 }
set_option maxHeartbeats 4000000 in
set_option maxRecDepth 100000 in
theorem t_X9_seam {l : Launch} {G : kw_G} {x0 : Int32} {x1 : Int32} {T : kw_T} {n : Nat} {r : kw_R} {i : kw_I} {w : kw_L} {Q : Int32 → Prop} (h : w_X9_seam x0 x1 T n r i w Q) : kw_Met l G yX9_seam cX9_seam 2 (some .int) rm_X9_seam [kw_i x0, kw_i x1] (T, n, r, i, w) (kw_PI (fun v T' n' r' i' w' => T = T' ∧ n = n' ∧ r = r' ∧ i = i' ∧ w = w' ∧ Q v)) := by
  refine kw_Met.of (by decide) (Nat.le_of_ble_eq_true rfl) fun E hl hRm hE hT hnm => ?_
  have hm : kw_m E G cX9_seam 2 RX9 (some .int) rm_X9_seam "seam" := ⟨hE, hT, hRm, hnm⟩
  subst hl
  show kw_K E G 2 0 0 (kw_Z E G 0 0 (kw_PI (fun v T' n' r' i' w' => T = T' ∧ n = n' ∧ r = r' ∧ i = i' ∧ w = w' ∧ Q v))) 0 [(0, kw_i x0), (1, kw_i x1)] [] T n r i w
  refine kk_iload_n hm.1 1 dX9_seam_0 rfl rfl ?_
  refine kk_iconst (v := (-1 : Int32)) hm.1 dX9_seam_1 (by decide) ?_
  refine kk_icmp_eq (tgt := 14) hm.1 dX9_seam_2 (by decide) (fun c2 => ?_) (fun c2 => ?_)
  · have h := h.1 c2
    refine kk_iconst (v := (0 : Int32)) hm.1 dX9_seam_14 (by decide) ?_
    exact kk_iret hm.1 hm.2.1 dX9_seam_15 ⟨_, rfl, rfl, rfl, rfl, rfl, rfl, h⟩
  · have h := h.2 c2
    refine kk_iload_n hm.1 1 dX9_seam_5 rfl rfl ?_
    refine kk_iload_n hm.1 0 dX9_seam_6 rfl rfl ?_
    refine kk_icmp_eq (tgt := 14) hm.1 dX9_seam_7 (by decide) (fun c7 => ?_) (fun c7 => ?_)
    · have h := h.1 c7
      refine kk_iconst (v := (0 : Int32)) hm.1 dX9_seam_14 (by decide) ?_
      exact kk_iret hm.1 hm.2.1 dX9_seam_15 ⟨_, rfl, rfl, rfl, rfl, rfl, rfl, h⟩
    · have h := h.2 c7
      refine kk_iconst (v := (1 : Int32)) hm.1 dX9_seam_10 (by decide) ?_
      refine kk_goto (tgt := 15) hm.1 dX9_seam_11 (by decide) ?_
      exact kk_iret hm.1 hm.2.1 dX9_seam_15 ⟨_, rfl, rfl, rfl, rfl, rfl, rfl, h⟩
def w_X9_seamsOf_62 (a0 : Nat) (T : kw_T) (n : Nat) (r : kw_R) (i : kw_I) (w : kw_L) (Q : Int32 → Prop) (k4 : Int32 → Int32 → Prop) (x1 : Int32) (x2 : Int32) : Prop :=
  k4 x1 ((x2 + (1 : Int32)))
def w_X9_seamsOf_41 (a0 : Nat) (T : kw_T) (n : Nat) (r : kw_R) (i : kw_I) (w : kw_L) (Q : Int32 → Prop) (k4 : Int32 → Int32 → Prop) (x1 : Int32) (x2 : Int32) : Prop :=
  (x2 < (6 : Int32) → w_X9_seamsOf_62 a0 T n r i w Q k4 x1 x2) ∧ (¬ x2 < (6 : Int32) → kw_in T 1 a0 x2 ∧ (kw_in T 1 a0 (x2 - (6 : Int32)) ∧ (w_X9_seam (i a0 (x2).toNatClampNeg) (i a0 ((x2 - (6 : Int32))).toNatClampNeg) T n r i w (fun v57 => w_X9_seamsOf_62 a0 T n r i w Q k4 ((x1 + v57)) x2))))
def s_X9_seamsOf_4 (a0 : Nat) (T : kw_T) (n : Nat) (r : kw_R) (i : kw_I) (w : kw_L) (Q : Int32 → Prop)  (k4 : Int32 → Int32 → Prop) (x1 : Int32) (x2 : Int32) : Prop :=
  ((36 : Int32) ≤ x2 → Q x1) ∧ (¬ (36 : Int32) ≤ x2 → kw_in T 1 a0 x2 ∧ ((¬ (i a0 (x2).toNatClampNeg) = (-1 : Int32) → ((x2 - x2 / (6 : Int32) * (6 : Int32)) ≤ 0 → w_X9_seamsOf_41 a0 T n r i w Q k4 x1 x2) ∧ (¬ (x2 - x2 / (6 : Int32) * (6 : Int32)) ≤ 0 → kw_in T 1 a0 x2 ∧ (kw_in T 1 a0 (x2 - (1 : Int32)) ∧ (w_X9_seam (i a0 (x2).toNatClampNeg) (i a0 ((x2 - (1 : Int32))).toNatClampNeg) T n r i w (fun v36 => w_X9_seamsOf_41 a0 T n r i w Q k4 ((x1 + v36)) x2))))) ∧ ((i a0 (x2).toNatClampNeg) = (-1 : Int32) → w_X9_seamsOf_62 a0 T n r i w Q k4 x1 x2)))
def w_X9_seamsOf_4 (a0 : Nat) (T : kw_T) (n : Nat) (r : kw_R) (i : kw_I) (w : kw_L) (Q : Int32 → Prop)  : Nat → Int32 → Int32 → Prop
  | 0 => fun _ _ => False
  | N + 1 => s_X9_seamsOf_4 a0 T n r i w Q  (w_X9_seamsOf_4 a0 T n r i w Q  N)
def w_X9_seamsOf  (a0 : Nat) (T : kw_T) (n : Nat) (r : kw_R) (i : kw_I) (w : kw_L) (Q : Int32 → Prop) : Prop :=
  ∃ N, w_X9_seamsOf_4 a0 T n r i w Q  N ((0 : Int32)) ((0 : Int32))
abbrev rm_X9_seamsOf : Room := { frames := 2, cells := 0, slots := 0, locals := 81 }
set_option maxHeartbeats 4000000 in
set_option maxRecDepth 100000 in
theorem q_X9_seamsOf_62 {a0 : Nat} {T : kw_T} {n : Nat} {r : kw_R} {i : kw_I} {w : kw_L} {Q : Int32 → Prop} {E : kw_E} {G : kw_G} (hm : kw_m E G cX9_seamsOf 3 RX9 (some .int) rm_X9_seamsOf "seamsOf")   {k4 : Int32 → Int32 → Prop} (hk4 : ∀ (x1 : Int32) (x2 : Int32), k4 x1 x2 → kw_K E G 3 0 0 (kw_Z E G 0 0 (kw_PI (fun v T' n' r' i' w' => T = T' ∧ n = n' ∧ r = r' ∧ i = i' ∧ w = w' ∧ Q v))) 4 [(0, kw_a a0), (1, kw_i x1), (2, kw_i x2)] [] T n r i w) (x1 : Int32) (x2 : Int32) (h : w_X9_seamsOf_62 a0 T n r i w Q k4 x1 x2) : kw_K E G 3 0 0 (kw_Z E G 0 0 (kw_PI (fun v T' n' r' i' w' => T = T' ∧ n = n' ∧ r = r' ∧ i = i' ∧ w = w' ∧ Q v))) 62 [(0, kw_a a0), (1, kw_i x1), (2, kw_i x2)] [] T n r i w := by
  refine kk_iinc (v := (x2 + (1 : Int32))) (L' := [(2, kw_i (x2 + (1 : Int32))), (0, kw_a a0), (1, kw_i x1)]) hm.1 2 dX9_seamsOf_62 rfl rfl (by decide) rfl ?_
  refine kk_goto (tgt := 4) hm.1 dX9_seamsOf_65 (by decide) ?_
  refine kk_loc (L' := [(0, kw_a a0), (1, kw_i x1), (2, kw_i (x2 + (1 : Int32)))]) [1, 2, 0] rfl ?_
  exact hk4 x1 ((x2 + (1 : Int32))) h
set_option maxHeartbeats 4000000 in
set_option maxRecDepth 100000 in
theorem q_X9_seamsOf_41 {a0 : Nat} {T : kw_T} {n : Nat} {r : kw_R} {i : kw_I} {w : kw_L} {Q : Int32 → Prop} {E : kw_E} {G : kw_G} (hm : kw_m E G cX9_seamsOf 3 RX9 (some .int) rm_X9_seamsOf "seamsOf")   {k4 : Int32 → Int32 → Prop} (hk4 : ∀ (x1 : Int32) (x2 : Int32), k4 x1 x2 → kw_K E G 3 0 0 (kw_Z E G 0 0 (kw_PI (fun v T' n' r' i' w' => T = T' ∧ n = n' ∧ r = r' ∧ i = i' ∧ w = w' ∧ Q v))) 4 [(0, kw_a a0), (1, kw_i x1), (2, kw_i x2)] [] T n r i w) (x1 : Int32) (x2 : Int32) (h : w_X9_seamsOf_41 a0 T n r i w Q k4 x1 x2) : kw_K E G 3 0 0 (kw_Z E G 0 0 (kw_PI (fun v T' n' r' i' w' => T = T' ∧ n = n' ∧ r = r' ∧ i = i' ∧ w = w' ∧ Q v))) 41 [(0, kw_a a0), (1, kw_i x1), (2, kw_i x2)] [] T n r i w := by
  refine kk_iload_n hm.1 2 dX9_seamsOf_41 rfl rfl ?_
  refine kk_bipush (v := (6 : Int32)) hm.1 dX9_seamsOf_42 (by decide) ?_
  refine kk_icmp_lt (tgt := 62) hm.1 dX9_seamsOf_44 (by decide) (fun c44 => ?_) (fun c44 => ?_)
  · have h := h.1 c44
    exact q_X9_seamsOf_62 hm   hk4 x1 x2 h
  · have h := h.2 c44
    refine kk_iload_n hm.1 1 dX9_seamsOf_47 rfl rfl ?_
    refine kk_aload_n hm.1 0 dX9_seamsOf_48 rfl rfl ?_
    refine kk_iload_n hm.1 2 dX9_seamsOf_49 rfl rfl ?_
    obtain ⟨o50, h⟩ := h
    refine kk_iaload hm.1 dX9_seamsOf_50 o50 ?_
    refine kk_aload_n hm.1 0 dX9_seamsOf_51 rfl rfl ?_
    refine kk_iload_n hm.1 2 dX9_seamsOf_52 rfl rfl ?_
    refine kk_bipush (v := (6 : Int32)) hm.1 dX9_seamsOf_53 (by decide) ?_
    refine kk_isub hm.1 dX9_seamsOf_55 ?_
    obtain ⟨o56, h⟩ := h
    refine kk_iaload hm.1 dX9_seamsOf_56 o56 ?_
    refine kk_callSi (cs' := 0) (sl' := 0) (st := [kw_i x1]) hm.1 cs_X9_265 (t_X9_seam h) dX9_seamsOf_57 rfl hm.2.2.1 ⟨by decide, by decide⟩ ⟨by decide, by decide⟩ rfl rfl (Nat.le_of_ble_eq_true rfl) rfl ?_
    rintro v57 _ _ _ _ _ ⟨rfl, rfl, rfl, rfl, rfl, h⟩
    refine kk_iadd hm.1 dX9_seamsOf_60 ?_
    refine kk_istore_n (L' := [(1, kw_i (x1 + v57)), (0, kw_a a0), (2, kw_i x2)]) hm.1 dX9_seamsOf_61 rfl (by decide) rfl ?_
    refine kk_loc (L' := [(0, kw_a a0), (1, kw_i (x1 + v57)), (2, kw_i x2)]) [1, 0, 2] rfl ?_
    exact q_X9_seamsOf_62 hm   hk4 ((x1 + v57)) x2 h
set_option maxHeartbeats 4000000 in
set_option maxRecDepth 100000 in
theorem qs_X9_seamsOf_4 {a0 : Nat} {T : kw_T} {n : Nat} {r : kw_R} {i : kw_I} {w : kw_L} {Q : Int32 → Prop} {E : kw_E} {G : kw_G} (hm : kw_m E G cX9_seamsOf 3 RX9 (some .int) rm_X9_seamsOf "seamsOf")     {k4 : Int32 → Int32 → Prop} (hk4 : ∀ (x1 : Int32) (x2 : Int32), k4 x1 x2 → kw_K E G 3 0 0 (kw_Z E G 0 0 (kw_PI (fun v T' n' r' i' w' => T = T' ∧ n = n' ∧ r = r' ∧ i = i' ∧ w = w' ∧ Q v))) 4 [(0, kw_a a0), (1, kw_i x1), (2, kw_i x2)] [] T n r i w) (x1 : Int32) (x2 : Int32) (h : s_X9_seamsOf_4 a0 T n r i w Q  k4 x1 x2) : kw_K E G 3 0 0 (kw_Z E G 0 0 (kw_PI (fun v T' n' r' i' w' => T = T' ∧ n = n' ∧ r = r' ∧ i = i' ∧ w = w' ∧ Q v))) 4 [(0, kw_a a0), (1, kw_i x1), (2, kw_i x2)] [] T n r i w := by
  refine kk_iload_n hm.1 2 dX9_seamsOf_4 rfl rfl ?_
  refine kk_bipush (v := (36 : Int32)) hm.1 dX9_seamsOf_5 (by decide) ?_
  refine kk_icmp_ge (tgt := 68) hm.1 dX9_seamsOf_7 (by decide) (fun c7 => ?_) (fun c7 => ?_)
  · have h := h.1 c7
    refine kk_iload_n hm.1 1 dX9_seamsOf_68 rfl rfl ?_
    exact kk_iret hm.1 hm.2.1 dX9_seamsOf_69 ⟨_, rfl, rfl, rfl, rfl, rfl, rfl, h⟩
  · have h := h.2 c7
    refine kk_aload_n hm.1 0 dX9_seamsOf_10 rfl rfl ?_
    refine kk_iload_n hm.1 2 dX9_seamsOf_11 rfl rfl ?_
    obtain ⟨o12, h⟩ := h
    refine kk_iaload hm.1 dX9_seamsOf_12 o12 ?_
    refine kk_iconst (v := (-1 : Int32)) hm.1 dX9_seamsOf_13 (by decide) ?_
    refine kk_icmp_ne (tgt := 20) hm.1 dX9_seamsOf_14 (by decide) (fun c14 => ?_) (fun c14 => ?_)
    · have h := h.1 c14
      refine kk_iload_n hm.1 2 dX9_seamsOf_20 rfl rfl ?_
      refine kk_bipush (v := (6 : Int32)) hm.1 dX9_seamsOf_21 (by decide) ?_
      refine kk_irem hm.1 dX9_seamsOf_23 (by decide) ?_
      refine kk_if_le (tgt := 41) hm.1 dX9_seamsOf_24 (by decide) (fun c24 => ?_) (fun c24 => ?_)
      · have h := h.1 c24
        exact q_X9_seamsOf_41 hm   hk4 x1 x2 h
      · have h := h.2 c24
        refine kk_iload_n hm.1 1 dX9_seamsOf_27 rfl rfl ?_
        refine kk_aload_n hm.1 0 dX9_seamsOf_28 rfl rfl ?_
        refine kk_iload_n hm.1 2 dX9_seamsOf_29 rfl rfl ?_
        obtain ⟨o30, h⟩ := h
        refine kk_iaload hm.1 dX9_seamsOf_30 o30 ?_
        refine kk_aload_n hm.1 0 dX9_seamsOf_31 rfl rfl ?_
        refine kk_iload_n hm.1 2 dX9_seamsOf_32 rfl rfl ?_
        refine kk_iconst (v := (1 : Int32)) hm.1 dX9_seamsOf_33 (by decide) ?_
        refine kk_isub hm.1 dX9_seamsOf_34 ?_
        obtain ⟨o35, h⟩ := h
        refine kk_iaload hm.1 dX9_seamsOf_35 o35 ?_
        refine kk_callSi (cs' := 0) (sl' := 0) (st := [kw_i x1]) hm.1 cs_X9_265 (t_X9_seam h) dX9_seamsOf_36 rfl hm.2.2.1 ⟨by decide, by decide⟩ ⟨by decide, by decide⟩ rfl rfl (Nat.le_of_ble_eq_true rfl) rfl ?_
        rintro v36 _ _ _ _ _ ⟨rfl, rfl, rfl, rfl, rfl, h⟩
        refine kk_iadd hm.1 dX9_seamsOf_39 ?_
        refine kk_istore_n (L' := [(1, kw_i (x1 + v36)), (0, kw_a a0), (2, kw_i x2)]) hm.1 dX9_seamsOf_40 rfl (by decide) rfl ?_
        refine kk_loc (L' := [(0, kw_a a0), (1, kw_i (x1 + v36)), (2, kw_i x2)]) [1, 0, 2] rfl ?_
        exact q_X9_seamsOf_41 hm   hk4 ((x1 + v36)) x2 h
    · have h := h.2 c14
      refine kk_goto (tgt := 62) hm.1 dX9_seamsOf_17 (by decide) ?_
      exact q_X9_seamsOf_62 hm   hk4 x1 x2 h
set_option maxHeartbeats 4000000 in
set_option maxRecDepth 100000 in
theorem q_X9_seamsOf_4 {a0 : Nat} {T : kw_T} {n : Nat} {r : kw_R} {i : kw_I} {w : kw_L} {Q : Int32 → Prop} {E : kw_E} {G : kw_G} (hm : kw_m E G cX9_seamsOf 3 RX9 (some .int) rm_X9_seamsOf "seamsOf")     : ∀ (N : Nat) (x1 : Int32) (x2 : Int32), w_X9_seamsOf_4 a0 T n r i w Q  N x1 x2 → kw_K E G 3 0 0 (kw_Z E G 0 0 (kw_PI (fun v T' n' r' i' w' => T = T' ∧ n = n' ∧ r = r' ∧ i = i' ∧ w = w' ∧ Q v))) 4 [(0, kw_a a0), (1, kw_i x1), (2, kw_i x2)] [] T n r i w := by
  intro N
  induction N with
  | zero => intro x1 x2 h; exact h.elim
  | succ N ih => intro x1 x2 h; exact qs_X9_seamsOf_4 hm    ih x1 x2 h
set_option maxHeartbeats 4000000 in
set_option maxRecDepth 100000 in
theorem t_X9_seamsOf {l : Launch} {G : kw_G} {a0 : Nat} {T : kw_T} {n : Nat} {r : kw_R} {i : kw_I} {w : kw_L} {Q : Int32 → Prop} (h : w_X9_seamsOf a0 T n r i w Q) : kw_Met l G yX9_seamsOf cX9_seamsOf 3 (some .int) rm_X9_seamsOf [kw_a a0] (T, n, r, i, w) (kw_PI (fun v T' n' r' i' w' => T = T' ∧ n = n' ∧ r = r' ∧ i = i' ∧ w = w' ∧ Q v)) := by
  refine kw_Met.of (by decide) (Nat.le_of_ble_eq_true rfl) fun E hl hRm hE hT hnm => ?_
  have hm : kw_m E G cX9_seamsOf 3 RX9 (some .int) rm_X9_seamsOf "seamsOf" := ⟨hE, hT, hRm, hnm⟩
  subst hl
  show kw_K E G 3 0 0 (kw_Z E G 0 0 (kw_PI (fun v T' n' r' i' w' => T = T' ∧ n = n' ∧ r = r' ∧ i = i' ∧ w = w' ∧ Q v))) 0 [(0, kw_a a0)] [] T n r i w
  refine kk_iconst (v := (0 : Int32)) hm.1 dX9_seamsOf_0 (by decide) ?_
  refine kk_istore_n (L' := [(1, kw_i (0 : Int32)), (0, kw_a a0)]) hm.1 dX9_seamsOf_1 rfl (by decide) rfl ?_
  refine kk_iconst (v := (0 : Int32)) hm.1 dX9_seamsOf_2 (by decide) ?_
  refine kk_istore_n (L' := [(2, kw_i (0 : Int32)), (1, kw_i (0 : Int32)), (0, kw_a a0)]) hm.1 dX9_seamsOf_3 rfl (by decide) rfl ?_
  refine kk_loc (L' := [(0, kw_a a0), (1, kw_i (0 : Int32)), (2, kw_i (0 : Int32))]) [2, 1, 0] rfl ?_
  obtain ⟨N, h⟩ := h
  exact q_X9_seamsOf_4 hm    N ((0 : Int32)) ((0 : Int32)) h
