def s_X5_backward_24 (a0 : Nat) (T : kw_T) (n : Nat) (r : kw_R) (Q : Nat → kw_I → kw_L → Prop)  (k24 : Nat → Int32 → kw_I → kw_L → Prop) (a1 : Nat) (x2 : Int32) (i : kw_I) (w : kw_L) : Prop :=
  (x2 < 0 → ∀ i58 : kw_I, i58 = kw_st i a0 4 (1 : Int32) → (Q (r a0 2) i58 w)) ∧ (¬ x2 < 0 → kw_in T 5 (r a0 2) x2 ∧ (T ((r a0 0)) = (0, 2) ∧ (w_X2_weave (r a0 0) x2 a1 (r (r a0 2) (x2).toNatClampNeg) T n r i w (fun i40 w40 => kw_in T 5 (r a0 2) x2 ∧ (k24 ((r (r a0 2) (x2).toNatClampNeg)) ((x2 + (-1 : Int32))) i40 w40)))))
def w_X5_backward_24 (a0 : Nat) (T : kw_T) (n : Nat) (r : kw_R) (Q : Nat → kw_I → kw_L → Prop)  : Nat → Nat → Int32 → kw_I → kw_L → Prop
  | 0 => fun _ _ _ _ => False
  | N + 1 => s_X5_backward_24 a0 T n r Q  (w_X5_backward_24 a0 T n r Q  N)
def w_X5_backward  (a0 : Nat) (T : kw_T) (n : Nat) (r : kw_R) (i : kw_I) (w : kw_L) (Q : Nat → kw_I → kw_L → Prop) : Prop :=
  (¬ (i a0 4) = 0 → Q (r a0 2) i w) ∧ ((i a0 4) = 0 → kw_in T 5 (r a0 3) (1 : Int32) ∧ (T ((r a0 0)) = (0, 2) ∧ (∃ N, w_X5_backward_24 a0 T n r Q  N ((r (r a0 3) ((1 : Int32)).toNatClampNeg)) (((i (r a0 0) 5) - (1 : Int32))) i w)))
abbrev rm_X5_backward : Room := { frames := 5, cells := 0, slots := 0, locals := 167 }
set_option maxHeartbeats 4000000 in
set_option maxRecDepth 100000 in
theorem qs_X5_backward_24 {a0 : Nat} {T : kw_T} {n : Nat} {r : kw_R} {Q : Nat → kw_I → kw_L → Prop} {E : kw_E} {G : kw_G} (hm : kw_m E G cX5_backward 3 RX5 (some (.array (.array .int))) rm_X5_backward "backward")  (h0 : T a0 = (0, 5))    {k24 : Nat → Int32 → kw_I → kw_L → Prop} (hk24 : ∀ (a1 : Nat) (x2 : Int32) (i : kw_I) (w : kw_L), k24 a1 x2 i w → kw_K E G 3 0 0 (kw_Z E G 0 0 (kw_PA (fun v T' n' r' i' w' => T = T' ∧ n = n' ∧ r = r' ∧ Q v i' w'))) 24 [(0, kw_a a0), (1, kw_a a1), (2, kw_i x2)] [] T n r i w) (a1 : Nat) (x2 : Int32) (i : kw_I) (w : kw_L) (h : s_X5_backward_24 a0 T n r Q  k24 a1 x2 i w) : kw_K E G 3 0 0 (kw_Z E G 0 0 (kw_PA (fun v T' n' r' i' w' => T = T' ∧ n = n' ∧ r = r' ∧ Q v i' w'))) 24 [(0, kw_a a0), (1, kw_a a1), (2, kw_i x2)] [] T n r i w := by
  refine kk_iload_n hm.1 2 dX5_backward_24 rfl rfl ?_
  refine kk_if_lt (tgt := 56) hm.1 dX5_backward_25 (by decide) (fun c25 => ?_) (fun c25 => ?_)
  · have h := h.1 c25
    refine kk_aload_n hm.1 0 dX5_backward_56 rfl rfl ?_
    refine kk_iconst (v := (1 : Int32)) hm.1 dX5_backward_57 (by decide) ?_
    refine kn_putZ hm.1 fp_X5_29 dX5_backward_58 h0 (Or.inr rfl) (fun i58 e58 => ?_)
    have h := h i58 e58
    refine kk_aload_n hm.1 0 dX5_backward_61 rfl rfl ?_
    refine kk_getR hm.1 ff_X5_23 dX5_backward_62 h0 ?_
    exact kk_aret hm.1 hm.2.1 (by first | exact Or.inl ⟨_, rfl⟩ | exact Or.inr ⟨_, rfl⟩) dX5_backward_65 ⟨_, rfl, rfl, rfl, rfl, h⟩
  · have h := h.2 c25
    refine kk_aload_n hm.1 0 dX5_backward_28 rfl rfl ?_
    refine kk_getR hm.1 ff_X5_12 dX5_backward_29 h0 ?_
    refine kk_iload_n hm.1 2 dX5_backward_32 rfl rfl ?_
    refine kk_aload_n hm.1 1 dX5_backward_33 rfl rfl ?_
    refine kk_aload_n hm.1 0 dX5_backward_34 rfl rfl ?_
    refine kk_getR hm.1 ff_X5_23 dX5_backward_35 h0 ?_
    refine kk_iload_n hm.1 2 dX5_backward_38 rfl rfl ?_
    obtain ⟨o39, h⟩ := h
    refine kk_aaload hm.1 5 (by decide) (by decide) rfl rfl dX5_backward_39 o39 ?_
    obtain ⟨o40, h⟩ := h
    refine kk_callVv (cs' := 0) (sl' := 0) (st := []) hm.1 cv_X5_46 (t_X2_weave o40 h) dX5_backward_40 o40 rfl rfl hm.2.2.1 ⟨by decide, by decide⟩ ⟨by decide, by decide⟩ rfl rfl (Nat.le_of_ble_eq_true rfl) rfl ?_
    rintro _ _ _ i40 w40 ⟨rfl, rfl, rfl, h⟩
    refine kk_aload_n hm.1 0 dX5_backward_43 rfl rfl ?_
    refine kk_getR hm.1 ff_X5_23 dX5_backward_44 h0 ?_
    refine kk_iload_n hm.1 2 dX5_backward_47 rfl rfl ?_
    obtain ⟨o48, h⟩ := h
    refine kk_aaload hm.1 5 (by decide) (by decide) rfl rfl dX5_backward_48 o48 ?_
    refine kk_astore_n (L' := [(1, kw_a (r (r a0 2) (x2).toNatClampNeg)), (0, kw_a a0), (2, kw_i x2)]) hm.1 dX5_backward_49 rfl (by decide) rfl ?_
    refine kk_iinc (v := (x2 + (-1 : Int32))) (L' := [(2, kw_i (x2 + (-1 : Int32))), (1, kw_a (r (r a0 2) (x2).toNatClampNeg)), (0, kw_a a0)]) hm.1 2 dX5_backward_50 rfl rfl (by decide) rfl ?_
    refine kk_goto (tgt := 24) hm.1 dX5_backward_53 (by decide) ?_
    refine kk_loc (L' := [(0, kw_a a0), (1, kw_a (r (r a0 2) (x2).toNatClampNeg)), (2, kw_i (x2 + (-1 : Int32)))]) [2, 1, 0] rfl ?_
    exact hk24 ((r (r a0 2) (x2).toNatClampNeg)) ((x2 + (-1 : Int32))) i40 w40 h
set_option maxHeartbeats 4000000 in
set_option maxRecDepth 100000 in
theorem q_X5_backward_24 {a0 : Nat} {T : kw_T} {n : Nat} {r : kw_R} {Q : Nat → kw_I → kw_L → Prop} {E : kw_E} {G : kw_G} (hm : kw_m E G cX5_backward 3 RX5 (some (.array (.array .int))) rm_X5_backward "backward")  (h0 : T a0 = (0, 5))    : ∀ (N : Nat) (a1 : Nat) (x2 : Int32) (i : kw_I) (w : kw_L), w_X5_backward_24 a0 T n r Q  N a1 x2 i w → kw_K E G 3 0 0 (kw_Z E G 0 0 (kw_PA (fun v T' n' r' i' w' => T = T' ∧ n = n' ∧ r = r' ∧ Q v i' w'))) 24 [(0, kw_a a0), (1, kw_a a1), (2, kw_i x2)] [] T n r i w := by
  intro N
  induction N with
  | zero => intro a1 x2 i w h; exact h.elim
  | succ N ih => intro a1 x2 i w h; exact qs_X5_backward_24 hm  h0  ih a1 x2 i w h
set_option maxHeartbeats 4000000 in
set_option maxRecDepth 100000 in
theorem t_X5_backward {l : Launch} {G : kw_G} {a0 : Nat} {T : kw_T} {n : Nat} {r : kw_R} {i : kw_I} {w : kw_L} {Q : Nat → kw_I → kw_L → Prop} (h0 : T a0 = (0, 5)) (h : w_X5_backward a0 T n r i w Q) : kw_Met l G yX5_backward cX5_backward 3 (some (.array (.array .int))) rm_X5_backward [kw_a a0] (T, n, r, i, w) (kw_PA (fun v T' n' r' i' w' => T = T' ∧ n = n' ∧ r = r' ∧ Q v i' w')) := by
  refine kw_Met.of (by decide) (Nat.le_of_ble_eq_true rfl) fun E hl hRm hE hT hnm => ?_
  have hm : kw_m E G cX5_backward 3 RX5 (some (.array (.array .int))) rm_X5_backward "backward" := ⟨hE, hT, hRm, hnm⟩
  subst hl
  show kw_K E G 3 0 0 (kw_Z E G 0 0 (kw_PA (fun v T' n' r' i' w' => T = T' ∧ n = n' ∧ r = r' ∧ Q v i' w'))) 0 [(0, kw_a a0)] [] T n r i w
  refine kk_aload_n hm.1 0 dX5_backward_0 rfl rfl ?_
  refine kk_getI hm.1 ff_X5_29 dX5_backward_1 h0 ?_
  refine kk_if_ne (tgt := 61) hm.1 dX5_backward_4 (by decide) (fun c4 => ?_) (fun c4 => ?_)
  · have h := h.1 c4
    refine kk_aload_n hm.1 0 dX5_backward_61 rfl rfl ?_
    refine kk_getR hm.1 ff_X5_23 dX5_backward_62 h0 ?_
    exact kk_aret hm.1 hm.2.1 (by first | exact Or.inl ⟨_, rfl⟩ | exact Or.inr ⟨_, rfl⟩) dX5_backward_65 ⟨_, rfl, rfl, rfl, rfl, h⟩
  · have h := h.2 c4
    refine kk_aload_n hm.1 0 dX5_backward_7 rfl rfl ?_
    refine kk_getR hm.1 ff_X5_26 dX5_backward_8 h0 ?_
    refine kk_iconst (v := (1 : Int32)) hm.1 dX5_backward_11 (by decide) ?_
    obtain ⟨o12, h⟩ := h
    refine kk_aaload hm.1 5 (by decide) (by decide) rfl rfl dX5_backward_12 o12 ?_
    refine kk_astore_n (L' := [(1, kw_a (r (r a0 3) ((1 : Int32)).toNatClampNeg)), (0, kw_a a0)]) hm.1 dX5_backward_13 rfl (by decide) rfl ?_
    refine kk_aload_n hm.1 1 dX5_backward_14 rfl rfl ?_
    refine kk_getR hm.1 ff_X5_12 dX5_backward_15 h0 ?_
    obtain ⟨o18, h⟩ := h
    refine kk_getI hm.1 ff_X5_42 dX5_backward_18 o18 ?_
    refine kk_iconst (v := (1 : Int32)) hm.1 dX5_backward_21 (by decide) ?_
    refine kk_isub hm.1 dX5_backward_22 ?_
    refine kk_istore_n (L' := [(2, kw_i ((i (r a0 0) 5) - (1 : Int32))), (1, kw_a (r (r a0 3) ((1 : Int32)).toNatClampNeg)), (0, kw_a a0)]) hm.1 dX5_backward_23 rfl (by decide) rfl ?_
    refine kk_loc (L' := [(0, kw_a a0), (1, kw_a (r (r a0 3) ((1 : Int32)).toNatClampNeg)), (2, kw_i ((i (r a0 0) 5) - (1 : Int32)))]) [2, 1, 0] rfl ?_
    obtain ⟨N, h⟩ := h
    exact q_X5_backward_24 hm  h0   N ((r (r a0 3) ((1 : Int32)).toNatClampNeg)) (((i (r a0 0) 5) - (1 : Int32))) i w h
def w_X5_last  (a0 : Nat) (T : kw_T) (n : Nat) (r : kw_R) (i : kw_I) (w : kw_L) (Q : Nat → Prop) : Prop :=
  T ((r a0 0)) = (0, 2) ∧ (w_X5_picture a0 ((i (r a0 0) 5) - (1 : Int32)) T n r i w (fun v10 => Q v10))
abbrev rm_X5_last : Room := { frames := 2, cells := 0, slots := 0, locals := 81 }
set_option maxHeartbeats 4000000 in
set_option maxRecDepth 100000 in
theorem t_X5_last {l : Launch} {G : kw_G} {a0 : Nat} {T : kw_T} {n : Nat} {r : kw_R} {i : kw_I} {w : kw_L} {Q : Nat → Prop} (h0 : T a0 = (0, 5)) (h : w_X5_last a0 T n r i w Q) : kw_Met l G yX5_last cX5_last 1 (some (.array .int)) rm_X5_last [kw_a a0] (T, n, r, i, w) (kw_PA (fun v T' n' r' i' w' => T = T' ∧ n = n' ∧ r = r' ∧ i = i' ∧ w = w' ∧ Q v)) := by
  refine kw_Met.of (by decide) (Nat.le_of_ble_eq_true rfl) fun E hl hRm hE hT hnm => ?_
  have hm : kw_m E G cX5_last 1 RX5 (some (.array .int)) rm_X5_last "last" := ⟨hE, hT, hRm, hnm⟩
  subst hl
  show kw_K E G 1 0 0 (kw_Z E G 0 0 (kw_PA (fun v T' n' r' i' w' => T = T' ∧ n = n' ∧ r = r' ∧ i = i' ∧ w = w' ∧ Q v))) 0 [(0, kw_a a0)] [] T n r i w
  refine kk_aload_n hm.1 0 dX5_last_0 rfl rfl ?_
  refine kk_aload_n hm.1 0 dX5_last_1 rfl rfl ?_
  refine kk_getR hm.1 ff_X5_12 dX5_last_2 h0 ?_
  obtain ⟨o5, h⟩ := h
  refine kk_getI hm.1 ff_X5_42 dX5_last_5 o5 ?_
  refine kk_iconst (v := (1 : Int32)) hm.1 dX5_last_8 (by decide) ?_
  refine kk_isub hm.1 dX5_last_9 ?_
  refine kk_callVa (cs' := 0) (sl' := 0) (st := []) hm.1 cv_X5_50 (t_X5_picture h0 h) dX5_last_10 h0 rfl rfl hm.2.2.1 ⟨by decide, by decide⟩ ⟨by decide, by decide⟩ rfl rfl (Nat.le_of_ble_eq_true rfl) rfl ?_
  rintro v10 _ _ _ _ _ ⟨rfl, rfl, rfl, rfl, rfl, h⟩
  exact kk_aret hm.1 hm.2.1 (by first | exact Or.inl ⟨_, rfl⟩ | exact Or.inr ⟨_, rfl⟩) dX5_last_13 ⟨_, rfl, rfl, rfl, rfl, rfl, rfl, h⟩
def w_X6_init  (a0 : Nat) (T : kw_T) (n : Nat) (r : kw_R) (i : kw_I) (w : kw_L) (Q : kw_T → Nat → kw_R → kw_I → Prop) : Prop :=
  kw_al n (1 + 6) ∧ (∀ (T9 : kw_T) (r9 : kw_R) (i9 : kw_I), T9 = kw_mT T n 6 10 → r9 = kw_mR r n 6 → i9 = kw_mI i n 6 → (T9 a0 = (0, 6) ∧ (∀ r13 : kw_R, r13 = kw_st r9 a0 0 n → (kw_al (n + 7) (1 + 3) ∧ (∀ (T20 : kw_T) (r20 : kw_R) (i20 : kw_I), T20 = kw_mT T9 (n + 7) 3 36 → r20 = kw_mR r13 (n + 7) 3 → i20 = kw_mI i9 (n + 7) 3 → (T20 a0 = (0, 6) ∧ (∀ r24 : kw_R, r24 = kw_st r20 a0 1 (n + 7) → (kw_al ((n + 7) + 4) 1 ∧ (∀ (T30 : kw_T) (i30 : kw_I), T30 = kw_row T20 ((n + 7) + 4) (1, 8) → i30 = kw_row i20 ((n + 7) + 4) (fun _ => 0) → (T30 a0 = (0, 6) ∧ (∀ r32 : kw_R, r32 = kw_st r24 a0 2 ((n + 7) + 4) → (kw_al (((n + 7) + 4) + 1) 1 ∧ (∀ (T37 : kw_T) (i37 : kw_I), T37 = kw_row T30 (((n + 7) + 4) + 1) (1, 2) → i37 = kw_row i30 (((n + 7) + 4) + 1) (fun _ => 0) → (T37 a0 = (0, 6) ∧ (∀ r39 : kw_R, r39 = kw_st r32 a0 3 (((n + 7) + 4) + 1) → (kw_al ((((n + 7) + 4) + 1) + 1) 1 ∧ (∀ (T45 : kw_T) (r45 : kw_R), T45 = kw_row T37 ((((n + 7) + 4) + 1) + 1) (7, 6) → r45 = kw_row r39 ((((n + 7) + 4) + 1) + 1) (fun _ => 0) → (T45 a0 = (0, 6) ∧ (∀ r48 : kw_R, r48 = kw_st r45 a0 4 ((((n + 7) + 4) + 1) + 1) → (∀ i53 : kw_I, i53 = kw_st i37 a0 5 (0 : Int32) → (∀ i58 : kw_I, i58 = kw_st i53 a0 6 (0 : Int32) → (∀ i63 : kw_I, i63 = kw_st i58 a0 7 (-1 : Int32) → (w_J7_fill_53178 (r48 a0 2) (1 : Int32) T45 (((((n + 7) + 4) + 1) + 1) + 1) r48 i63 w (fun i71 => kw_in T45 1 (r48 a0 3) (0 : Int32) ∧ (∀ i81 : kw_I, i81 = kw_st i71 (r48 a0 3) ((0 : Int32)).toNatClampNeg (10 : Int32) → (Q T45 (((((n + 7) + 4) + 1) + 1) + 1) r48 i81))))))))))))))))))))))))))
abbrev rm_X6_init : Room := { frames := 2, cells := 14, slots := 193, locals := 83 }
set_option maxHeartbeats 4000000 in
set_option maxRecDepth 100000 in
theorem t_X6_init {l : Launch} {G : kw_G} {a0 : Nat} {T : kw_T} {n : Nat} {r : kw_R} {i : kw_I} {w : kw_L} {Q : kw_T → Nat → kw_R → kw_I → Prop} (h0 : T a0 = (0, 6)) (h : w_X6_init a0 T n r i w Q) : kw_Met l G yX6_init cX6_init 1 none rm_X6_init [kw_a a0] (T, n, r, i, w) (kw_PV (fun T' n' r' i' w' => w = w' ∧ Q T' n' r' i')) := by
  refine kw_Met.of (by decide) (Nat.le_of_ble_eq_true rfl) fun E hl hRm hE hT hnm => ?_
  have hm : kw_m E G cX6_init 1 RX6 none rm_X6_init "<init>" := ⟨hE, hT, hRm, hnm⟩
  subst hl
  show kw_K E G 1 0 0 (kw_Z E G 14 193 (kw_PV (fun T' n' r' i' w' => w = w' ∧ Q T' n' r' i'))) 0 [(0, kw_a a0)] [] T n r i w
  refine kk_aload_n hm.1 0 dX6_init_0 rfl rfl ?_
  refine kn_objInit (st := []) hm.1 wm_X6_3 wo_1 wo_2 dX6_init_1 h0 hm.2.2.1 (by decide) (Nat.le_of_ble_eq_true rfl) ?_
  refine kk_aload_n hm.1 0 dX6_init_4 rfl rfl ?_
  refine kk_bipush (v := (6 : Int32)) hm.1 dX6_init_5 (by decide) ?_
  refine kk_bipush (v := (10 : Int32)) hm.1 dX6_init_7 (by decide) ?_
  obtain ⟨o9, h⟩ := h
  refine kn_mna (N := 6) (K := 10) (cs' := 7) (sl' := 66) (n' := n + 7) hm.1 wk_X6_9 wa_1 dX6_init_9 (by decide) (by decide) (by decide) (by decide) (by decide) (by decide) o9 hm.2.2.1 (by decide) (by decide) rfl rfl (by rw [Nat.add_assoc]) (fun T9 r9 i9 e9 f9 g9 => ?_)
  have h := h T9 r9 i9 e9 f9 g9
  obtain ⟨o13, h⟩ := h
  refine kn_putR hm.1 fp_X6_11 rfl (fun h => hm.2.2.2) dX6_init_13 o13 (fun r13 e13 => ?_)
  have h := h r13 e13
  refine kk_aload_n hm.1 0 dX6_init_16 rfl rfl ?_
  refine kk_iconst (v := (3 : Int32)) hm.1 dX6_init_17 (by decide) ?_
  refine kk_bipush (v := (36 : Int32)) hm.1 dX6_init_18 (by decide) ?_
  obtain ⟨o20, h⟩ := h
  refine kn_mna (N := 3) (K := 36) (cs' := 11) (sl' := 177) (n' := (n + 7) + 4) hm.1 wk_X6_9 wa_1 dX6_init_20 (by decide) (by decide) (by decide) (by decide) (by decide) (by decide) o20 hm.2.2.1 (by decide) (by decide) rfl rfl (by rw [Nat.add_assoc]) (fun T20 r20 i20 e20 f20 g20 => ?_)
  have h := h T20 r20 i20 e20 f20 g20
  obtain ⟨o24, h⟩ := h
  refine kn_putR hm.1 fp_X6_16 rfl (fun h => hm.2.2.2) dX6_init_24 o24 (fun r24 e24 => ?_)
  have h := h r24 e24
  refine kk_aload_n hm.1 0 dX6_init_27 rfl rfl ?_
  refine kk_bipush (v := (8 : Int32)) hm.1 dX6_init_28 (by decide) ?_
  obtain ⟨o30, h⟩ := h
  refine kn_newaI (m := 8) hm.1 1 (by decide) (by decide) rfl wa_1 dX6_init_30 (by decide) (by decide) (by decide) o30 hm.2.2.1 (by decide) (by decide) rfl rfl (fun T30 i30 e30 f30 => ?_)
  have h := h T30 i30 e30 f30
  obtain ⟨o32, h⟩ := h
  refine kn_putR hm.1 fp_X6_19 rfl (fun h => hm.2.2.2) dX6_init_32 o32 (fun r32 e32 => ?_)
  have h := h r32 e32
  refine kk_aload_n hm.1 0 dX6_init_35 rfl rfl ?_
  refine kk_iconst (v := (2 : Int32)) hm.1 dX6_init_36 (by decide) ?_
  obtain ⟨o37, h⟩ := h
  refine kn_newaI (m := 2) hm.1 1 (by decide) (by decide) rfl wa_1 dX6_init_37 (by decide) (by decide) (by decide) o37 hm.2.2.1 (by decide) (by decide) rfl rfl (fun T37 i37 e37 f37 => ?_)
  have h := h T37 i37 e37 f37
  obtain ⟨o39, h⟩ := h
  refine kn_putR hm.1 fp_X6_23 rfl (fun h => hm.2.2.2) dX6_init_39 o39 (fun r39 e39 => ?_)
  have h := h r39 e39
  refine kk_aload_n hm.1 0 dX6_init_42 rfl rfl ?_
  refine kk_bipush (v := (6 : Int32)) hm.1 dX6_init_43 (by decide) ?_
  obtain ⟨o45, h⟩ := h
  refine kn_anew (m := 6) hm.1 7 (by decide) wk_X6_26 dX6_init_45 (by decide) (by decide) (by decide) o45 hm.2.2.1 (by decide) (by decide) rfl rfl (fun T45 r45 e45 f45 => ?_)
  have h := h T45 r45 e45 f45
  obtain ⟨o48, h⟩ := h
  refine kn_putR hm.1 fp_X6_28 rfl (fun h => hm.2.2.2) dX6_init_48 o48 (fun r48 e48 => ?_)
  have h := h r48 e48
  refine kk_aload_n hm.1 0 dX6_init_51 rfl rfl ?_
  refine kk_iconst (v := (0 : Int32)) hm.1 dX6_init_52 (by decide) ?_
  refine kn_putI hm.1 fp_X6_32 dX6_init_53 o48 (fun i53 e53 => ?_)
  have h := h i53 e53
  refine kk_aload_n hm.1 0 dX6_init_56 rfl rfl ?_
  refine kk_iconst (v := (0 : Int32)) hm.1 dX6_init_57 (by decide) ?_
  refine kn_putI hm.1 fp_X6_36 dX6_init_58 o48 (fun i58 e58 => ?_)
  have h := h i58 e58
  refine kk_aload_n hm.1 0 dX6_init_61 rfl rfl ?_
  refine kk_iconst (v := (-1 : Int32)) hm.1 dX6_init_62 (by decide) ?_
  refine kn_putI hm.1 fp_X6_39 dX6_init_63 o48 (fun i63 e63 => ?_)
  have h := h i63 e63
  refine kk_aload_n hm.1 0 dX6_init_66 rfl rfl ?_
  refine kk_getR hm.1 ff_X6_19 dX6_init_67 o48 ?_
  refine kk_iconst (v := (1 : Int32)) hm.1 dX6_init_70 (by decide) ?_
  refine kk_callSv (cs' := 14) (sl' := 193) (st := []) hm.1 cs_X6_42 (t_J7_fill_53178 h) dX6_init_71 rfl hm.2.2.1 ⟨by decide, by decide⟩ ⟨by decide, by decide⟩ rfl rfl (Nat.le_of_ble_eq_true rfl) rfl ?_
  rintro _ _ _ i71 _ ⟨rfl, rfl, rfl, rfl, h⟩
  refine kk_aload_n hm.1 0 dX6_init_74 rfl rfl ?_
  refine kk_getR hm.1 ff_X6_23 dX6_init_75 o48 ?_
  refine kk_iconst (v := (0 : Int32)) hm.1 dX6_init_78 (by decide) ?_
  refine kk_bipush (v := (10 : Int32)) hm.1 dX6_init_79 (by decide) ?_
  obtain ⟨o81, h⟩ := h
  refine kn_iastore hm.1 dX6_init_81 o81 (fun i81 e81 => ?_)
  have h := h i81 e81
  exact kk_vret hm.1 hm.2.1 dX6_init_82 ⟨rfl, rfl, h⟩
def w_X6_setKeyhole  (a0 : Nat) (x1 : Int32) (x2 : Int32) (x3 : Int32) (x4 : Int32) (x5 : Int32) (T : kw_T) (n : Nat) (r : kw_R) (i : kw_I) (w : kw_L) (Q : kw_I → Prop) : Prop :=
  kw_in T 5 (r a0 0) (0 : Int32) ∧ (kw_in T 1 (r (r a0 0) ((0 : Int32)).toNatClampNeg) x1 ∧ (∀ i8 : kw_I, i8 = kw_st i (r (r a0 0) ((0 : Int32)).toNatClampNeg) (x1).toNatClampNeg x2 → (kw_in T 5 (r a0 0) (1 : Int32) ∧ (kw_in T 1 (r (r a0 0) ((1 : Int32)).toNatClampNeg) x1 ∧ (∀ i17 : kw_I, i17 = kw_st i8 (r (r a0 0) ((1 : Int32)).toNatClampNeg) (x1).toNatClampNeg x3 → (kw_in T 5 (r a0 0) (2 : Int32) ∧ (kw_in T 1 (r (r a0 0) ((2 : Int32)).toNatClampNeg) x1 ∧ (∀ i27 : kw_I, i27 = kw_st i17 (r (r a0 0) ((2 : Int32)).toNatClampNeg) (x1).toNatClampNeg x4 → (kw_in T 5 (r a0 0) (3 : Int32) ∧ (kw_in T 1 (r (r a0 0) ((3 : Int32)).toNatClampNeg) x1 ∧ (∀ i37 : kw_I, i37 = kw_st i27 (r (r a0 0) ((3 : Int32)).toNatClampNeg) (x1).toNatClampNeg x5 → (Q i37))))))))))))
abbrev rm_X6_setKeyhole : Room := { frames := 1, cells := 0, slots := 0, locals := 60 }
set_option maxHeartbeats 4000000 in
set_option maxRecDepth 100000 in
theorem t_X6_setKeyhole {l : Launch} {G : kw_G} {a0 : Nat} {x1 : Int32} {x2 : Int32} {x3 : Int32} {x4 : Int32} {x5 : Int32} {T : kw_T} {n : Nat} {r : kw_R} {i : kw_I} {w : kw_L} {Q : kw_I → Prop} (h0 : T a0 = (0, 6)) (h : w_X6_setKeyhole a0 x1 x2 x3 x4 x5 T n r i w Q) : kw_Met l G yX6_setKeyhole cX6_setKeyhole 6 none rm_X6_setKeyhole [kw_a a0, kw_i x1, kw_i x2, kw_i x3, kw_i x4, kw_i x5] (T, n, r, i, w) (kw_PV (fun T' n' r' i' w' => T = T' ∧ n = n' ∧ r = r' ∧ w = w' ∧ Q i')) := by
  refine kw_Met.of (by decide) (Nat.le_of_ble_eq_true rfl) fun E hl hRm hE hT hnm => ?_
  have hm : kw_m E G cX6_setKeyhole 6 RX6 none rm_X6_setKeyhole "setKeyhole" := ⟨hE, hT, hRm, hnm⟩
  subst hl
  show kw_K E G 6 0 0 (kw_Z E G 0 0 (kw_PV (fun T' n' r' i' w' => T = T' ∧ n = n' ∧ r = r' ∧ w = w' ∧ Q i'))) 0 [(0, kw_a a0), (1, kw_i x1), (2, kw_i x2), (3, kw_i x3), (4, kw_i x4), (5, kw_i x5)] [] T n r i w
  refine kk_aload_n hm.1 0 dX6_setKeyhole_0 rfl rfl ?_
  refine kk_getR hm.1 ff_X6_11 dX6_setKeyhole_1 h0 ?_
  refine kk_iconst (v := (0 : Int32)) hm.1 dX6_setKeyhole_4 (by decide) ?_
  obtain ⟨o5, h⟩ := h
  refine kk_aaload hm.1 5 (by decide) (by decide) rfl rfl dX6_setKeyhole_5 o5 ?_
  refine kk_iload_n hm.1 1 dX6_setKeyhole_6 rfl rfl ?_
  refine kk_iload_n hm.1 2 dX6_setKeyhole_7 rfl rfl ?_
  obtain ⟨o8, h⟩ := h
  refine kn_iastore hm.1 dX6_setKeyhole_8 o8 (fun i8 e8 => ?_)
  have h := h i8 e8
  refine kk_aload_n hm.1 0 dX6_setKeyhole_9 rfl rfl ?_
  refine kk_getR hm.1 ff_X6_11 dX6_setKeyhole_10 h0 ?_
  refine kk_iconst (v := (1 : Int32)) hm.1 dX6_setKeyhole_13 (by decide) ?_
  obtain ⟨o14, h⟩ := h
  refine kk_aaload hm.1 5 (by decide) (by decide) rfl rfl dX6_setKeyhole_14 o14 ?_
  refine kk_iload_n hm.1 1 dX6_setKeyhole_15 rfl rfl ?_
  refine kk_iload_n hm.1 3 dX6_setKeyhole_16 rfl rfl ?_
  obtain ⟨o17, h⟩ := h
  refine kn_iastore hm.1 dX6_setKeyhole_17 o17 (fun i17 e17 => ?_)
  have h := h i17 e17
  refine kk_aload_n hm.1 0 dX6_setKeyhole_18 rfl rfl ?_
  refine kk_getR hm.1 ff_X6_11 dX6_setKeyhole_19 h0 ?_
  refine kk_iconst (v := (2 : Int32)) hm.1 dX6_setKeyhole_22 (by decide) ?_
  obtain ⟨o23, h⟩ := h
  refine kk_aaload hm.1 5 (by decide) (by decide) rfl rfl dX6_setKeyhole_23 o23 ?_
  refine kk_iload_n hm.1 1 dX6_setKeyhole_24 rfl rfl ?_
  refine kk_iload hm.1 4 dX6_setKeyhole_25 rfl ?_
  obtain ⟨o27, h⟩ := h
  refine kn_iastore hm.1 dX6_setKeyhole_27 o27 (fun i27 e27 => ?_)
  have h := h i27 e27
  refine kk_aload_n hm.1 0 dX6_setKeyhole_28 rfl rfl ?_
  refine kk_getR hm.1 ff_X6_11 dX6_setKeyhole_29 h0 ?_
  refine kk_iconst (v := (3 : Int32)) hm.1 dX6_setKeyhole_32 (by decide) ?_
  obtain ⟨o33, h⟩ := h
  refine kk_aaload hm.1 5 (by decide) (by decide) rfl rfl dX6_setKeyhole_33 o33 ?_
  refine kk_iload_n hm.1 1 dX6_setKeyhole_34 rfl rfl ?_
  refine kk_iload hm.1 5 dX6_setKeyhole_35 rfl ?_
  obtain ⟨o37, h⟩ := h
  refine kn_iastore hm.1 dX6_setKeyhole_37 o37 (fun i37 e37 => ?_)
  have h := h i37 e37
  exact kk_vret hm.1 hm.2.1 dX6_setKeyhole_38 ⟨rfl, rfl, rfl, rfl, rfl, h⟩
def s_X6_copyFrom_96 (a0 : Nat) (a1 : Nat) (T : kw_T) (n : Nat) (w : kw_L) (Q : kw_R → kw_I → Prop)  (k96 : Int32 → kw_R → kw_I → Prop) (x2 : Int32) (r : kw_R) (i : kw_I) : Prop :=
  ((6 : Int32) ≤ x2 → T a1 = (0, 6) ∧ (∀ i125 : kw_I, i125 = kw_st i a0 5 (i a1 5) → (∀ i133 : kw_I, i133 = kw_st i125 a0 6 (i125 a1 6) → (∀ i141 : kw_I, i141 = kw_st i133 a0 7 (i133 a1 7) → (Q r i141))))) ∧ (¬ (6 : Int32) ≤ x2 → T a1 = (0, 6) ∧ (kw_in T 7 (r a1 4) x2 ∧ (kw_in T 7 (r a0 4) x2 ∧ (kw_el T 1 (r (r a1 4) (x2).toNatClampNeg) ∧ (∀ r113 : kw_R, r113 = kw_st r (r a0 4) (x2).toNatClampNeg (r (r a1 4) (x2).toNatClampNeg) → (k96 ((x2 + (1 : Int32))) r113 i))))))
def w_X6_copyFrom_96 (a0 : Nat) (a1 : Nat) (T : kw_T) (n : Nat) (w : kw_L) (Q : kw_R → kw_I → Prop)  : Nat → Int32 → kw_R → kw_I → Prop
  | 0 => fun _ _ _ => False
  | N + 1 => s_X6_copyFrom_96 a0 a1 T n w Q  (w_X6_copyFrom_96 a0 a1 T n w Q  N)
def s_X6_copyFrom_35 (a0 : Nat) (a1 : Nat) (T : kw_T) (n : Nat) (w : kw_L) (Q : kw_R → kw_I → Prop)  (k35 : Int32 → kw_R → kw_I → Prop) (x2 : Int32) (r : kw_R) (i : kw_I) : Prop :=
  ((3 : Int32) ≤ x2 → T a1 = (0, 6) ∧ (kw_cpo T (r a1 2) (r a0 2) (0 : Int32) (0 : Int32) (8 : Int32) ∧ (∀ i77 : kw_I, i77 = kw_cpy i (r a1 2) (r a0 2) ((0 : Int32)).toNatClampNeg ((0 : Int32)).toNatClampNeg ((8 : Int32)).toNatClampNeg → (kw_cpo T (r a1 3) (r a0 3) (0 : Int32) (0 : Int32) (2 : Int32) ∧ (∀ i91 : kw_I, i91 = kw_cpy i77 (r a1 3) (r a0 3) ((0 : Int32)).toNatClampNeg ((0 : Int32)).toNatClampNeg ((2 : Int32)).toNatClampNeg → (∃ N, w_X6_copyFrom_96 a0 a1 T n w Q  N ((0 : Int32)) r i91)))))) ∧ (¬ (3 : Int32) ≤ x2 → T a1 = (0, 6) ∧ (kw_in T 5 (r a1 1) x2 ∧ (kw_in T 5 (r a0 1) x2 ∧ (kw_cpo T (r (r a1 1) (x2).toNatClampNeg) (r (r a0 1) (x2).toNatClampNeg) (0 : Int32) (0 : Int32) (36 : Int32) ∧ (∀ i56 : kw_I, i56 = kw_cpy i (r (r a1 1) (x2).toNatClampNeg) (r (r a0 1) (x2).toNatClampNeg) ((0 : Int32)).toNatClampNeg ((0 : Int32)).toNatClampNeg ((36 : Int32)).toNatClampNeg → (k35 ((x2 + (1 : Int32))) r i56))))))
def w_X6_copyFrom_35 (a0 : Nat) (a1 : Nat) (T : kw_T) (n : Nat) (w : kw_L) (Q : kw_R → kw_I → Prop)  : Nat → Int32 → kw_R → kw_I → Prop
  | 0 => fun _ _ _ => False
  | N + 1 => s_X6_copyFrom_35 a0 a1 T n w Q  (w_X6_copyFrom_35 a0 a1 T n w Q  N)
def s_X6_copyFrom_2 (a0 : Nat) (a1 : Nat) (T : kw_T) (n : Nat) (w : kw_L) (Q : kw_R → kw_I → Prop)  (k2 : Int32 → kw_R → kw_I → Prop) (x2 : Int32) (r : kw_R) (i : kw_I) : Prop :=
  ((6 : Int32) ≤ x2 → ∃ N, w_X6_copyFrom_35 a0 a1 T n w Q  N ((0 : Int32)) r i) ∧ (¬ (6 : Int32) ≤ x2 → T a1 = (0, 6) ∧ (kw_in T 5 (r a1 0) x2 ∧ (kw_in T 5 (r a0 0) x2 ∧ (kw_cpo T (r (r a1 0) (x2).toNatClampNeg) (r (r a0 0) (x2).toNatClampNeg) (0 : Int32) (0 : Int32) (10 : Int32) ∧ (∀ i24 : kw_I, i24 = kw_cpy i (r (r a1 0) (x2).toNatClampNeg) (r (r a0 0) (x2).toNatClampNeg) ((0 : Int32)).toNatClampNeg ((0 : Int32)).toNatClampNeg ((10 : Int32)).toNatClampNeg → (k2 ((x2 + (1 : Int32))) r i24))))))
def w_X6_copyFrom_2 (a0 : Nat) (a1 : Nat) (T : kw_T) (n : Nat) (w : kw_L) (Q : kw_R → kw_I → Prop)  : Nat → Int32 → kw_R → kw_I → Prop
  | 0 => fun _ _ _ => False
  | N + 1 => s_X6_copyFrom_2 a0 a1 T n w Q  (w_X6_copyFrom_2 a0 a1 T n w Q  N)
def w_X6_copyFrom  (a0 : Nat) (a1 : Nat) (T : kw_T) (n : Nat) (r : kw_R) (i : kw_I) (w : kw_L) (Q : kw_R → kw_I → Prop) : Prop :=
  ∃ N, w_X6_copyFrom_2 a0 a1 T n w Q  N ((0 : Int32)) r i
abbrev rm_X6_copyFrom : Room := { frames := 1, cells := 0, slots := 0, locals := 60 }
set_option maxHeartbeats 4000000 in
set_option maxRecDepth 100000 in
theorem qs_X6_copyFrom_96 {a0 : Nat} {a1 : Nat} {T : kw_T} {n : Nat} {w : kw_L} {Q : kw_R → kw_I → Prop} {E : kw_E} {G : kw_G} (hm : kw_m E G cX6_copyFrom 3 RX6 none rm_X6_copyFrom "copyFrom")  (h0 : T a0 = (0, 6))    {k96 : Int32 → kw_R → kw_I → Prop} (hk96 : ∀ (x2 : Int32) (r : kw_R) (i : kw_I), k96 x2 r i → kw_K E G 3 0 0 (kw_Z E G 0 0 (kw_PV (fun T' n' r' i' w' => T = T' ∧ n = n' ∧ w = w' ∧ Q r' i'))) 96 [(0, kw_a a0), (1, kw_a a1), (2, kw_i x2)] [] T n r i w) (x2 : Int32) (r : kw_R) (i : kw_I) (h : s_X6_copyFrom_96 a0 a1 T n w Q  k96 x2 r i) : kw_K E G 3 0 0 (kw_Z E G 0 0 (kw_PV (fun T' n' r' i' w' => T = T' ∧ n = n' ∧ w = w' ∧ Q r' i'))) 96 [(0, kw_a a0), (1, kw_a a1), (2, kw_i x2)] [] T n r i w := by
  refine kk_iload_n hm.1 2 dX6_copyFrom_96 rfl rfl ?_
  refine kk_bipush (v := (6 : Int32)) hm.1 dX6_copyFrom_97 (by decide) ?_
  refine kk_icmp_ge (tgt := 120) hm.1 dX6_copyFrom_99 (by decide) (fun c99 => ?_) (fun c99 => ?_)
  · have h := h.1 c99
    refine kk_aload_n hm.1 0 dX6_copyFrom_120 rfl rfl ?_
    refine kk_aload_n hm.1 1 dX6_copyFrom_121 rfl rfl ?_
    obtain ⟨o122, h⟩ := h
    refine kk_getI hm.1 ff_X6_32 dX6_copyFrom_122 o122 ?_
    refine kn_putI hm.1 fp_X6_32 dX6_copyFrom_125 h0 (fun i125 e125 => ?_)
    have h := h i125 e125
    refine kk_aload_n hm.1 0 dX6_copyFrom_128 rfl rfl ?_
    refine kk_aload_n hm.1 1 dX6_copyFrom_129 rfl rfl ?_
    refine kk_getI hm.1 ff_X6_36 dX6_copyFrom_130 o122 ?_
    refine kn_putI hm.1 fp_X6_36 dX6_copyFrom_133 h0 (fun i133 e133 => ?_)
    have h := h i133 e133
    refine kk_aload_n hm.1 0 dX6_copyFrom_136 rfl rfl ?_
    refine kk_aload_n hm.1 1 dX6_copyFrom_137 rfl rfl ?_
    refine kk_getI hm.1 ff_X6_39 dX6_copyFrom_138 o122 ?_
    refine kn_putI hm.1 fp_X6_39 dX6_copyFrom_141 h0 (fun i141 e141 => ?_)
    have h := h i141 e141
    exact kk_vret hm.1 hm.2.1 dX6_copyFrom_144 ⟨rfl, rfl, rfl, rfl, h⟩
  · have h := h.2 c99
    refine kk_aload_n hm.1 0 dX6_copyFrom_102 rfl rfl ?_
    refine kk_getR hm.1 ff_X6_28 dX6_copyFrom_103 h0 ?_
    refine kk_iload_n hm.1 2 dX6_copyFrom_106 rfl rfl ?_
    refine kk_aload_n hm.1 1 dX6_copyFrom_107 rfl rfl ?_
    obtain ⟨o108, h⟩ := h
    refine kk_getR hm.1 ff_X6_28 dX6_copyFrom_108 o108 ?_
    refine kk_iload_n hm.1 2 dX6_copyFrom_111 rfl rfl ?_
    obtain ⟨o112, h⟩ := h
    refine kk_aaload hm.1 7 (by decide) (by decide) rfl rfl dX6_copyFrom_112 o112 ?_
    obtain ⟨o113, h⟩ := h
    obtain ⟨b113, h⟩ := h
    refine kn_aastore hm.1 7 (by decide) dX6_copyFrom_113 o113 b113 (fun r113 e113 => ?_)
    have h := h r113 e113
    refine kk_iinc (v := (x2 + (1 : Int32))) (L' := [(2, kw_i (x2 + (1 : Int32))), (0, kw_a a0), (1, kw_a a1)]) hm.1 2 dX6_copyFrom_114 rfl rfl (by decide) rfl ?_
    refine kk_goto (tgt := 96) hm.1 dX6_copyFrom_117 (by decide) ?_
    refine kk_loc (L' := [(0, kw_a a0), (1, kw_a a1), (2, kw_i (x2 + (1 : Int32)))]) [1, 2, 0] rfl ?_
    exact hk96 ((x2 + (1 : Int32))) r113 i h
set_option maxHeartbeats 4000000 in
set_option maxRecDepth 100000 in
theorem q_X6_copyFrom_96 {a0 : Nat} {a1 : Nat} {T : kw_T} {n : Nat} {w : kw_L} {Q : kw_R → kw_I → Prop} {E : kw_E} {G : kw_G} (hm : kw_m E G cX6_copyFrom 3 RX6 none rm_X6_copyFrom "copyFrom")  (h0 : T a0 = (0, 6))    : ∀ (N : Nat) (x2 : Int32) (r : kw_R) (i : kw_I), w_X6_copyFrom_96 a0 a1 T n w Q  N x2 r i → kw_K E G 3 0 0 (kw_Z E G 0 0 (kw_PV (fun T' n' r' i' w' => T = T' ∧ n = n' ∧ w = w' ∧ Q r' i'))) 96 [(0, kw_a a0), (1, kw_a a1), (2, kw_i x2)] [] T n r i w := by
  intro N
  induction N with
  | zero => intro x2 r i h; exact h.elim
  | succ N ih => intro x2 r i h; exact qs_X6_copyFrom_96 hm  h0  ih x2 r i h
set_option maxHeartbeats 4000000 in
set_option maxRecDepth 100000 in
theorem qs_X6_copyFrom_35 {a0 : Nat} {a1 : Nat} {T : kw_T} {n : Nat} {w : kw_L} {Q : kw_R → kw_I → Prop} {E : kw_E} {G : kw_G} (hm : kw_m E G cX6_copyFrom 3 RX6 none rm_X6_copyFrom "copyFrom")  (h0 : T a0 = (0, 6))    {k35 : Int32 → kw_R → kw_I → Prop} (hk35 : ∀ (x2 : Int32) (r : kw_R) (i : kw_I), k35 x2 r i → kw_K E G 3 0 0 (kw_Z E G 0 0 (kw_PV (fun T' n' r' i' w' => T = T' ∧ n = n' ∧ w = w' ∧ Q r' i'))) 35 [(0, kw_a a0), (1, kw_a a1), (2, kw_i x2)] [] T n r i w) (x2 : Int32) (r : kw_R) (i : kw_I) (h : s_X6_copyFrom_35 a0 a1 T n w Q  k35 x2 r i) : kw_K E G 3 0 0 (kw_Z E G 0 0 (kw_PV (fun T' n' r' i' w' => T = T' ∧ n = n' ∧ w = w' ∧ Q r' i'))) 35 [(0, kw_a a0), (1, kw_a a1), (2, kw_i x2)] [] T n r i w := by
  refine kk_iload_n hm.1 2 dX6_copyFrom_35 rfl rfl ?_
  refine kk_iconst (v := (3 : Int32)) hm.1 dX6_copyFrom_36 (by decide) ?_
  refine kk_icmp_ge (tgt := 65) hm.1 dX6_copyFrom_37 (by decide) (fun c37 => ?_) (fun c37 => ?_)
  · have h := h.1 c37
    refine kk_aload_n hm.1 1 dX6_copyFrom_65 rfl rfl ?_
    obtain ⟨o66, h⟩ := h
    refine kk_getR hm.1 ff_X6_19 dX6_copyFrom_66 o66 ?_
    refine kk_iconst (v := (0 : Int32)) hm.1 dX6_copyFrom_69 (by decide) ?_
    refine kk_aload_n hm.1 0 dX6_copyFrom_70 rfl rfl ?_
    refine kk_getR hm.1 ff_X6_19 dX6_copyFrom_71 h0 ?_
    refine kk_iconst (v := (0 : Int32)) hm.1 dX6_copyFrom_74 (by decide) ?_
    refine kk_bipush (v := (8 : Int32)) hm.1 dX6_copyFrom_75 (by decide) ?_
    obtain ⟨o77, h⟩ := h
    refine kn_copy (st := []) hm.1 wm_X6_48 wcp_n wcp_s wcp_i dX6_copyFrom_77 hm.2.2.1 (by decide) (by show _ + (_ + 11) ≤ _; exact Nat.le_of_ble_eq_true rfl) o77 (fun i77 e77 => ?_)
    have h := h i77 e77
    refine kk_aload_n hm.1 1 dX6_copyFrom_80 rfl rfl ?_
    refine kk_getR hm.1 ff_X6_23 dX6_copyFrom_81 o66 ?_
    refine kk_iconst (v := (0 : Int32)) hm.1 dX6_copyFrom_84 (by decide) ?_
    refine kk_aload_n hm.1 0 dX6_copyFrom_85 rfl rfl ?_
    refine kk_getR hm.1 ff_X6_23 dX6_copyFrom_86 h0 ?_
    refine kk_iconst (v := (0 : Int32)) hm.1 dX6_copyFrom_89 (by decide) ?_
    refine kk_iconst (v := (2 : Int32)) hm.1 dX6_copyFrom_90 (by decide) ?_
    obtain ⟨o91, h⟩ := h
    refine kn_copy (st := []) hm.1 wm_X6_48 wcp_n wcp_s wcp_i dX6_copyFrom_91 hm.2.2.1 (by decide) (by show _ + (_ + 11) ≤ _; exact Nat.le_of_ble_eq_true rfl) o91 (fun i91 e91 => ?_)
    have h := h i91 e91
    refine kk_iconst (v := (0 : Int32)) hm.1 dX6_copyFrom_94 (by decide) ?_
    refine kk_istore_n (L' := [(2, kw_i (0 : Int32)), (0, kw_a a0), (1, kw_a a1)]) hm.1 dX6_copyFrom_95 rfl (by decide) rfl ?_
    refine kk_loc (L' := [(0, kw_a a0), (1, kw_a a1), (2, kw_i (0 : Int32))]) [1, 2, 0] rfl ?_
    obtain ⟨N, h⟩ := h
    exact q_X6_copyFrom_96 hm  h0   N ((0 : Int32)) r i91 h
  · have h := h.2 c37
    refine kk_aload_n hm.1 1 dX6_copyFrom_40 rfl rfl ?_
    obtain ⟨o41, h⟩ := h
    refine kk_getR hm.1 ff_X6_16 dX6_copyFrom_41 o41 ?_
    refine kk_iload_n hm.1 2 dX6_copyFrom_44 rfl rfl ?_
    obtain ⟨o45, h⟩ := h
    refine kk_aaload hm.1 5 (by decide) (by decide) rfl rfl dX6_copyFrom_45 o45 ?_
    refine kk_iconst (v := (0 : Int32)) hm.1 dX6_copyFrom_46 (by decide) ?_
    refine kk_aload_n hm.1 0 dX6_copyFrom_47 rfl rfl ?_
    refine kk_getR hm.1 ff_X6_16 dX6_copyFrom_48 h0 ?_
    refine kk_iload_n hm.1 2 dX6_copyFrom_51 rfl rfl ?_
    obtain ⟨o52, h⟩ := h
    refine kk_aaload hm.1 5 (by decide) (by decide) rfl rfl dX6_copyFrom_52 o52 ?_
    refine kk_iconst (v := (0 : Int32)) hm.1 dX6_copyFrom_53 (by decide) ?_
    refine kk_bipush (v := (36 : Int32)) hm.1 dX6_copyFrom_54 (by decide) ?_
    obtain ⟨o56, h⟩ := h
    refine kn_copy (st := []) hm.1 wm_X6_48 wcp_n wcp_s wcp_i dX6_copyFrom_56 hm.2.2.1 (by decide) (by show _ + (_ + 11) ≤ _; exact Nat.le_of_ble_eq_true rfl) o56 (fun i56 e56 => ?_)
    have h := h i56 e56
    refine kk_iinc (v := (x2 + (1 : Int32))) (L' := [(2, kw_i (x2 + (1 : Int32))), (0, kw_a a0), (1, kw_a a1)]) hm.1 2 dX6_copyFrom_59 rfl rfl (by decide) rfl ?_
    refine kk_goto (tgt := 35) hm.1 dX6_copyFrom_62 (by decide) ?_
    refine kk_loc (L' := [(0, kw_a a0), (1, kw_a a1), (2, kw_i (x2 + (1 : Int32)))]) [1, 2, 0] rfl ?_
    exact hk35 ((x2 + (1 : Int32))) r i56 h
set_option maxHeartbeats 4000000 in
set_option maxRecDepth 100000 in
theorem q_X6_copyFrom_35 {a0 : Nat} {a1 : Nat} {T : kw_T} {n : Nat} {w : kw_L} {Q : kw_R → kw_I → Prop} {E : kw_E} {G : kw_G} (hm : kw_m E G cX6_copyFrom 3 RX6 none rm_X6_copyFrom "copyFrom")  (h0 : T a0 = (0, 6))    : ∀ (N : Nat) (x2 : Int32) (r : kw_R) (i : kw_I), w_X6_copyFrom_35 a0 a1 T n w Q  N x2 r i → kw_K E G 3 0 0 (kw_Z E G 0 0 (kw_PV (fun T' n' r' i' w' => T = T' ∧ n = n' ∧ w = w' ∧ Q r' i'))) 35 [(0, kw_a a0), (1, kw_a a1), (2, kw_i x2)] [] T n r i w := by
  intro N
  induction N with
  | zero => intro x2 r i h; exact h.elim
  | succ N ih => intro x2 r i h; exact qs_X6_copyFrom_35 hm  h0  ih x2 r i h
set_option maxHeartbeats 4000000 in
set_option maxRecDepth 100000 in
theorem qs_X6_copyFrom_2 {a0 : Nat} {a1 : Nat} {T : kw_T} {n : Nat} {w : kw_L} {Q : kw_R → kw_I → Prop} {E : kw_E} {G : kw_G} (hm : kw_m E G cX6_copyFrom 3 RX6 none rm_X6_copyFrom "copyFrom")  (h0 : T a0 = (0, 6))    {k2 : Int32 → kw_R → kw_I → Prop} (hk2 : ∀ (x2 : Int32) (r : kw_R) (i : kw_I), k2 x2 r i → kw_K E G 3 0 0 (kw_Z E G 0 0 (kw_PV (fun T' n' r' i' w' => T = T' ∧ n = n' ∧ w = w' ∧ Q r' i'))) 2 [(0, kw_a a0), (1, kw_a a1), (2, kw_i x2)] [] T n r i w) (x2 : Int32) (r : kw_R) (i : kw_I) (h : s_X6_copyFrom_2 a0 a1 T n w Q  k2 x2 r i) : kw_K E G 3 0 0 (kw_Z E G 0 0 (kw_PV (fun T' n' r' i' w' => T = T' ∧ n = n' ∧ w = w' ∧ Q r' i'))) 2 [(0, kw_a a0), (1, kw_a a1), (2, kw_i x2)] [] T n r i w := by
  refine kk_iload_n hm.1 2 dX6_copyFrom_2 rfl rfl ?_
  refine kk_bipush (v := (6 : Int32)) hm.1 dX6_copyFrom_3 (by decide) ?_
  refine kk_icmp_ge (tgt := 33) hm.1 dX6_copyFrom_5 (by decide) (fun c5 => ?_) (fun c5 => ?_)
  · have h := h.1 c5
    refine kk_iconst (v := (0 : Int32)) hm.1 dX6_copyFrom_33 (by decide) ?_
    refine kk_istore_n (L' := [(2, kw_i (0 : Int32)), (0, kw_a a0), (1, kw_a a1)]) hm.1 dX6_copyFrom_34 rfl (by decide) rfl ?_
    refine kk_loc (L' := [(0, kw_a a0), (1, kw_a a1), (2, kw_i (0 : Int32))]) [1, 2, 0] rfl ?_
    obtain ⟨N, h⟩ := h
    exact q_X6_copyFrom_35 hm  h0   N ((0 : Int32)) r i h
  · have h := h.2 c5
    refine kk_aload_n hm.1 1 dX6_copyFrom_8 rfl rfl ?_
    obtain ⟨o9, h⟩ := h
    refine kk_getR hm.1 ff_X6_11 dX6_copyFrom_9 o9 ?_
    refine kk_iload_n hm.1 2 dX6_copyFrom_12 rfl rfl ?_
    obtain ⟨o13, h⟩ := h
    refine kk_aaload hm.1 5 (by decide) (by decide) rfl rfl dX6_copyFrom_13 o13 ?_
    refine kk_iconst (v := (0 : Int32)) hm.1 dX6_copyFrom_14 (by decide) ?_
    refine kk_aload_n hm.1 0 dX6_copyFrom_15 rfl rfl ?_
    refine kk_getR hm.1 ff_X6_11 dX6_copyFrom_16 h0 ?_
    refine kk_iload_n hm.1 2 dX6_copyFrom_19 rfl rfl ?_
    obtain ⟨o20, h⟩ := h
    refine kk_aaload hm.1 5 (by decide) (by decide) rfl rfl dX6_copyFrom_20 o20 ?_
    refine kk_iconst (v := (0 : Int32)) hm.1 dX6_copyFrom_21 (by decide) ?_
    refine kk_bipush (v := (10 : Int32)) hm.1 dX6_copyFrom_22 (by decide) ?_
    obtain ⟨o24, h⟩ := h
    refine kn_copy (st := []) hm.1 wm_X6_48 wcp_n wcp_s wcp_i dX6_copyFrom_24 hm.2.2.1 (by decide) (by show _ + (_ + 11) ≤ _; exact Nat.le_of_ble_eq_true rfl) o24 (fun i24 e24 => ?_)
    have h := h i24 e24
    refine kk_iinc (v := (x2 + (1 : Int32))) (L' := [(2, kw_i (x2 + (1 : Int32))), (0, kw_a a0), (1, kw_a a1)]) hm.1 2 dX6_copyFrom_27 rfl rfl (by decide) rfl ?_
    refine kk_goto (tgt := 2) hm.1 dX6_copyFrom_30 (by decide) ?_
    refine kk_loc (L' := [(0, kw_a a0), (1, kw_a a1), (2, kw_i (x2 + (1 : Int32)))]) [1, 2, 0] rfl ?_
    exact hk2 ((x2 + (1 : Int32))) r i24 h
set_option maxHeartbeats 4000000 in
set_option maxRecDepth 100000 in
theorem q_X6_copyFrom_2 {a0 : Nat} {a1 : Nat} {T : kw_T} {n : Nat} {w : kw_L} {Q : kw_R → kw_I → Prop} {E : kw_E} {G : kw_G} (hm : kw_m E G cX6_copyFrom 3 RX6 none rm_X6_copyFrom "copyFrom")  (h0 : T a0 = (0, 6))    : ∀ (N : Nat) (x2 : Int32) (r : kw_R) (i : kw_I), w_X6_copyFrom_2 a0 a1 T n w Q  N x2 r i → kw_K E G 3 0 0 (kw_Z E G 0 0 (kw_PV (fun T' n' r' i' w' => T = T' ∧ n = n' ∧ w = w' ∧ Q r' i'))) 2 [(0, kw_a a0), (1, kw_a a1), (2, kw_i x2)] [] T n r i w := by
  intro N
  induction N with
  | zero => intro x2 r i h; exact h.elim
  | succ N ih => intro x2 r i h; exact qs_X6_copyFrom_2 hm  h0  ih x2 r i h
set_option maxHeartbeats 4000000 in
set_option maxRecDepth 100000 in
theorem t_X6_copyFrom {l : Launch} {G : kw_G} {a0 : Nat} {a1 : Nat} {T : kw_T} {n : Nat} {r : kw_R} {i : kw_I} {w : kw_L} {Q : kw_R → kw_I → Prop} (h0 : T a0 = (0, 6)) (h : w_X6_copyFrom a0 a1 T n r i w Q) : kw_Met l G yX6_copyFrom cX6_copyFrom 3 none rm_X6_copyFrom [kw_a a0, kw_a a1] (T, n, r, i, w) (kw_PV (fun T' n' r' i' w' => T = T' ∧ n = n' ∧ w = w' ∧ Q r' i')) := by
  refine kw_Met.of (by decide) (Nat.le_of_ble_eq_true rfl) fun E hl hRm hE hT hnm => ?_
  have hm : kw_m E G cX6_copyFrom 3 RX6 none rm_X6_copyFrom "copyFrom" := ⟨hE, hT, hRm, hnm⟩
  subst hl
  show kw_K E G 3 0 0 (kw_Z E G 0 0 (kw_PV (fun T' n' r' i' w' => T = T' ∧ n = n' ∧ w = w' ∧ Q r' i'))) 0 [(0, kw_a a0), (1, kw_a a1)] [] T n r i w
  refine kk_iconst (v := (0 : Int32)) hm.1 dX6_copyFrom_0 (by decide) ?_
  refine kk_istore_n (L' := [(2, kw_i (0 : Int32)), (0, kw_a a0), (1, kw_a a1)]) hm.1 dX6_copyFrom_1 rfl (by decide) rfl ?_
  refine kk_loc (L' := [(0, kw_a a0), (1, kw_a a1), (2, kw_i (0 : Int32))]) [1, 2, 0] rfl ?_
  obtain ⟨N, h⟩ := h
  exact q_X6_copyFrom_2 hm  h0   N ((0 : Int32)) r i h
def w_X7_init  (a0 : Nat) (T : kw_T) (n : Nat) (r : kw_R) (i : kw_I) (w : kw_L) (Q : kw_T → Nat → kw_R → kw_I → Prop) : Prop :=
  kw_al n 1 ∧ (∀ (T8 : kw_T) (i8 : kw_I), T8 = kw_row T n (1, 400) → i8 = kw_row i n (fun _ => 0) → (T8 a0 = (0, 7) ∧ (∀ r10 : kw_R, r10 = kw_st r a0 0 n → (∀ i15 : kw_I, i15 = kw_st i8 a0 1 (0 : Int32) → (Q T8 (n + 1) r10 i15)))))
abbrev rm_X7_init : Room := { frames := 1, cells := 1, slots := 400, locals := 60 }
set_option maxHeartbeats 4000000 in
set_option maxRecDepth 100000 in
theorem t_X7_init {l : Launch} {G : kw_G} {a0 : Nat} {T : kw_T} {n : Nat} {r : kw_R} {i : kw_I} {w : kw_L} {Q : kw_T → Nat → kw_R → kw_I → Prop} (h0 : T a0 = (0, 7)) (h : w_X7_init a0 T n r i w Q) : kw_Met l G yX7_init cX7_init 1 none rm_X7_init [kw_a a0] (T, n, r, i, w) (kw_PV (fun T' n' r' i' w' => w = w' ∧ Q T' n' r' i')) := by
  refine kw_Met.of (by decide) (Nat.le_of_ble_eq_true rfl) fun E hl hRm hE hT hnm => ?_
  have hm : kw_m E G cX7_init 1 RX7 none rm_X7_init "<init>" := ⟨hE, hT, hRm, hnm⟩
  subst hl
  show kw_K E G 1 0 0 (kw_Z E G 1 400 (kw_PV (fun T' n' r' i' w' => w = w' ∧ Q T' n' r' i'))) 0 [(0, kw_a a0)] [] T n r i w
  refine kk_aload_n hm.1 0 dX7_init_0 rfl rfl ?_
  refine kn_objInit (st := []) hm.1 wm_X7_3 wo_1 wo_2 dX7_init_1 h0 hm.2.2.1 (by decide) (Nat.le_of_ble_eq_true rfl) ?_
  refine kk_aload_n hm.1 0 dX7_init_4 rfl rfl ?_
  refine kk_sipush (v := (400 : Int32)) hm.1 dX7_init_5 (by decide) ?_
  obtain ⟨o8, h⟩ := h
  refine kn_newaI (m := 400) hm.1 1 (by decide) (by decide) rfl wa_1 dX7_init_8 (by decide) (by decide) (by decide) o8 hm.2.2.1 (by decide) (by decide) rfl rfl (fun T8 i8 e8 f8 => ?_)
  have h := h T8 i8 e8 f8
  obtain ⟨o10, h⟩ := h
  refine kn_putR hm.1 fp_X7_9 rfl (fun h => hm.2.2.2) dX7_init_10 o10 (fun r10 e10 => ?_)
  have h := h r10 e10
  refine kk_aload_n hm.1 0 dX7_init_13 rfl rfl ?_
  refine kk_iconst (v := (0 : Int32)) hm.1 dX7_init_14 (by decide) ?_
  refine kn_putI hm.1 fp_X7_15 dX7_init_15 o10 (fun i15 e15 => ?_)
  have h := h i15 e15
  exact kk_vret hm.1 hm.2.1 dX7_init_18 ⟨rfl, rfl, h⟩
def s_X7_add_3 (a0 : Nat) (x1 : Int32) (T : kw_T) (n : Nat) (r : kw_R) (w : kw_L) (Q : kw_I → Prop)  (k3 : Int32 → kw_I → Prop) (x2 : Int32) (i : kw_I) : Prop :=
  (x2 < 0 → Q i) ∧ (¬ x2 < 0 → ((400 : Int32) ≤ (i a0 1) → Q i) ∧ (¬ (400 : Int32) ≤ (i a0 1) → kw_in T 1 (r a0 0) (i a0 1) ∧ (∀ i32 : kw_I, i32 = kw_st i (r a0 0) ((i a0 1)).toNatClampNeg ((x1 >>> (x2 &&& 31)) &&& (255 : Int32)) → (∀ i40 : kw_I, i40 = kw_st i32 a0 1 ((i32 a0 1) + (1 : Int32)) → (k3 ((x2 + (-8 : Int32))) i40)))))
def w_X7_add_3 (a0 : Nat) (x1 : Int32) (T : kw_T) (n : Nat) (r : kw_R) (w : kw_L) (Q : kw_I → Prop)  : Nat → Int32 → kw_I → Prop
  | 0 => fun _ _ => False
  | N + 1 => s_X7_add_3 a0 x1 T n r w Q  (w_X7_add_3 a0 x1 T n r w Q  N)
def w_X7_add  (a0 : Nat) (x1 : Int32) (T : kw_T) (n : Nat) (r : kw_R) (i : kw_I) (w : kw_L) (Q : kw_I → Prop) : Prop :=
  ∃ N, w_X7_add_3 a0 x1 T n r w Q  N ((24 : Int32)) i
abbrev rm_X7_add : Room := { frames := 1, cells := 0, slots := 0, locals := 60 }
set_option maxHeartbeats 4000000 in
set_option maxRecDepth 100000 in
theorem qs_X7_add_3 {a0 : Nat} {x1 : Int32} {T : kw_T} {n : Nat} {r : kw_R} {w : kw_L} {Q : kw_I → Prop} {E : kw_E} {G : kw_G} (hm : kw_m E G cX7_add 3 RX7 none rm_X7_add "add")  (h0 : T a0 = (0, 7))    {k3 : Int32 → kw_I → Prop} (hk3 : ∀ (x2 : Int32) (i : kw_I), k3 x2 i → kw_K E G 3 0 0 (kw_Z E G 0 0 (kw_PV (fun T' n' r' i' w' => T = T' ∧ n = n' ∧ r = r' ∧ w = w' ∧ Q i'))) 3 [(0, kw_a a0), (1, kw_i x1), (2, kw_i x2)] [] T n r i w) (x2 : Int32) (i : kw_I) (h : s_X7_add_3 a0 x1 T n r w Q  k3 x2 i) : kw_K E G 3 0 0 (kw_Z E G 0 0 (kw_PV (fun T' n' r' i' w' => T = T' ∧ n = n' ∧ r = r' ∧ w = w' ∧ Q i'))) 3 [(0, kw_a a0), (1, kw_i x1), (2, kw_i x2)] [] T n r i w := by
  refine kk_iload_n hm.1 2 dX7_add_3 rfl rfl ?_
  refine kk_if_lt (tgt := 49) hm.1 dX7_add_4 (by decide) (fun c4 => ?_) (fun c4 => ?_)
  · have h := h.1 c4
    exact kk_vret hm.1 hm.2.1 dX7_add_49 ⟨rfl, rfl, rfl, rfl, rfl, h⟩
  · have h := h.2 c4
    refine kk_aload_n hm.1 0 dX7_add_7 rfl rfl ?_
    refine kk_getI hm.1 ff_X7_15 dX7_add_8 h0 ?_
    refine kk_sipush (v := (400 : Int32)) hm.1 dX7_add_11 (by decide) ?_
    refine kk_icmp_ge (tgt := 49) hm.1 dX7_add_14 (by decide) (fun c14 => ?_) (fun c14 => ?_)
    · have h := h.1 c14
      exact kk_vret hm.1 hm.2.1 dX7_add_49 ⟨rfl, rfl, rfl, rfl, rfl, h⟩
    · have h := h.2 c14
      refine kk_aload_n hm.1 0 dX7_add_17 rfl rfl ?_
      refine kk_getR hm.1 ff_X7_9 dX7_add_18 h0 ?_
      refine kk_aload_n hm.1 0 dX7_add_21 rfl rfl ?_
      refine kk_getI hm.1 ff_X7_15 dX7_add_22 h0 ?_
      refine kk_iload_n hm.1 1 dX7_add_25 rfl rfl ?_
      refine kk_iload_n hm.1 2 dX7_add_26 rfl rfl ?_
      refine kk_ishr hm.1 dX7_add_27 ?_
      refine kk_sipush (v := (255 : Int32)) hm.1 dX7_add_28 (by decide) ?_
      refine kk_iand hm.1 dX7_add_31 ?_
      obtain ⟨o32, h⟩ := h
      refine kn_iastore hm.1 dX7_add_32 o32 (fun i32 e32 => ?_)
      have h := h i32 e32
      refine kk_aload_n hm.1 0 dX7_add_33 rfl rfl ?_
      refine kk_dup hm.1 dX7_add_34 rfl ?_
      refine kk_getI hm.1 ff_X7_15 dX7_add_35 h0 ?_
      refine kk_iconst (v := (1 : Int32)) hm.1 dX7_add_38 (by decide) ?_
      refine kk_iadd hm.1 dX7_add_39 ?_
      refine kn_putI hm.1 fp_X7_15 dX7_add_40 h0 (fun i40 e40 => ?_)
      have h := h i40 e40
      refine kk_iinc (v := (x2 + (-8 : Int32))) (L' := [(2, kw_i (x2 + (-8 : Int32))), (0, kw_a a0), (1, kw_i x1)]) hm.1 2 dX7_add_43 rfl rfl (by decide) rfl ?_
      refine kk_goto (tgt := 3) hm.1 dX7_add_46 (by decide) ?_
      refine kk_loc (L' := [(0, kw_a a0), (1, kw_i x1), (2, kw_i (x2 + (-8 : Int32)))]) [1, 2, 0] rfl ?_
      exact hk3 ((x2 + (-8 : Int32))) i40 h
set_option maxHeartbeats 4000000 in
set_option maxRecDepth 100000 in
theorem q_X7_add_3 {a0 : Nat} {x1 : Int32} {T : kw_T} {n : Nat} {r : kw_R} {w : kw_L} {Q : kw_I → Prop} {E : kw_E} {G : kw_G} (hm : kw_m E G cX7_add 3 RX7 none rm_X7_add "add")  (h0 : T a0 = (0, 7))    : ∀ (N : Nat) (x2 : Int32) (i : kw_I), w_X7_add_3 a0 x1 T n r w Q  N x2 i → kw_K E G 3 0 0 (kw_Z E G 0 0 (kw_PV (fun T' n' r' i' w' => T = T' ∧ n = n' ∧ r = r' ∧ w = w' ∧ Q i'))) 3 [(0, kw_a a0), (1, kw_i x1), (2, kw_i x2)] [] T n r i w := by
  intro N
  induction N with
  | zero => intro x2 i h; exact h.elim
  | succ N ih => intro x2 i h; exact qs_X7_add_3 hm  h0  ih x2 i h
set_option maxHeartbeats 4000000 in
set_option maxRecDepth 100000 in
theorem t_X7_add {l : Launch} {G : kw_G} {a0 : Nat} {x1 : Int32} {T : kw_T} {n : Nat} {r : kw_R} {i : kw_I} {w : kw_L} {Q : kw_I → Prop} (h0 : T a0 = (0, 7)) (h : w_X7_add a0 x1 T n r i w Q) : kw_Met l G yX7_add cX7_add 3 none rm_X7_add [kw_a a0, kw_i x1] (T, n, r, i, w) (kw_PV (fun T' n' r' i' w' => T = T' ∧ n = n' ∧ r = r' ∧ w = w' ∧ Q i')) := by
  refine kw_Met.of (by decide) (Nat.le_of_ble_eq_true rfl) fun E hl hRm hE hT hnm => ?_
  have hm : kw_m E G cX7_add 3 RX7 none rm_X7_add "add" := ⟨hE, hT, hRm, hnm⟩
  subst hl
  show kw_K E G 3 0 0 (kw_Z E G 0 0 (kw_PV (fun T' n' r' i' w' => T = T' ∧ n = n' ∧ r = r' ∧ w = w' ∧ Q i'))) 0 [(0, kw_a a0), (1, kw_i x1)] [] T n r i w
  refine kk_bipush (v := (24 : Int32)) hm.1 dX7_add_0 (by decide) ?_
  refine kk_istore_n (L' := [(2, kw_i (24 : Int32)), (0, kw_a a0), (1, kw_i x1)]) hm.1 dX7_add_2 rfl (by decide) rfl ?_
  refine kk_loc (L' := [(0, kw_a a0), (1, kw_i x1), (2, kw_i (24 : Int32))]) [1, 2, 0] rfl ?_
  obtain ⟨N, h⟩ := h
  exact q_X7_add_3 hm  h0   N ((24 : Int32)) i h
def w_X8_init  (a0 : Nat) (T : kw_T) (n : Nat) (r : kw_R) (i : kw_I) (w : kw_L) (Q : kw_T → Nat → kw_R → kw_I → Prop) : Prop :=
  kw_al n (1 + 10) ∧ (∀ (T9 : kw_T) (r9 : kw_R) (i9 : kw_I), T9 = kw_mT T n 10 36 → r9 = kw_mR r n 10 → i9 = kw_mI i n 10 → (T9 a0 = (0, 8) ∧ (∀ r13 : kw_R, r13 = kw_st r9 a0 0 n → (kw_al (n + 11) 1 ∧ (∀ (T19 : kw_T) (i19 : kw_I), T19 = kw_row T9 (n + 11) (1, 10) → i19 = kw_row i9 (n + 11) (fun _ => 0) → (T19 a0 = (0, 8) ∧ (∀ r21 : kw_R, r21 = kw_st r13 a0 1 (n + 11) → (∀ i26 : kw_I, i26 = kw_st i19 a0 2 (0 : Int32) → (∀ i31 : kw_I, i31 = kw_st i26 a0 3 (0 : Int32) → (Q T19 ((n + 11) + 1) r21 i31))))))))))
abbrev rm_X8_init : Room := { frames := 1, cells := 12, slots := 380, locals := 60 }
set_option maxHeartbeats 4000000 in
set_option maxRecDepth 100000 in
theorem t_X8_init {l : Launch} {G : kw_G} {a0 : Nat} {T : kw_T} {n : Nat} {r : kw_R} {i : kw_I} {w : kw_L} {Q : kw_T → Nat → kw_R → kw_I → Prop} (h0 : T a0 = (0, 8)) (h : w_X8_init a0 T n r i w Q) : kw_Met l G yX8_init cX8_init 1 none rm_X8_init [kw_a a0] (T, n, r, i, w) (kw_PV (fun T' n' r' i' w' => w = w' ∧ Q T' n' r' i')) := by
  refine kw_Met.of (by decide) (Nat.le_of_ble_eq_true rfl) fun E hl hRm hE hT hnm => ?_
  have hm : kw_m E G cX8_init 1 RX8 none rm_X8_init "<init>" := ⟨hE, hT, hRm, hnm⟩
  subst hl
  show kw_K E G 1 0 0 (kw_Z E G 12 380 (kw_PV (fun T' n' r' i' w' => w = w' ∧ Q T' n' r' i'))) 0 [(0, kw_a a0)] [] T n r i w
  refine kk_aload_n hm.1 0 dX8_init_0 rfl rfl ?_
  refine kn_objInit (st := []) hm.1 wm_X8_3 wo_1 wo_2 dX8_init_1 h0 hm.2.2.1 (by decide) (Nat.le_of_ble_eq_true rfl) ?_
  refine kk_aload_n hm.1 0 dX8_init_4 rfl rfl ?_
  refine kk_bipush (v := (10 : Int32)) hm.1 dX8_init_5 (by decide) ?_
  refine kk_bipush (v := (36 : Int32)) hm.1 dX8_init_7 (by decide) ?_
  obtain ⟨o9, h⟩ := h
  refine kn_mna (N := 10) (K := 36) (cs' := 11) (sl' := 370) (n' := n + 11) hm.1 wk_X8_9 wa_1 dX8_init_9 (by decide) (by decide) (by decide) (by decide) (by decide) (by decide) o9 hm.2.2.1 (by decide) (by decide) rfl rfl (by rw [Nat.add_assoc]) (fun T9 r9 i9 e9 f9 g9 => ?_)
  have h := h T9 r9 i9 e9 f9 g9
  obtain ⟨o13, h⟩ := h
  refine kn_putR hm.1 fp_X8_11 rfl (fun h => hm.2.2.2) dX8_init_13 o13 (fun r13 e13 => ?_)
  have h := h r13 e13
  refine kk_aload_n hm.1 0 dX8_init_16 rfl rfl ?_
  refine kk_bipush (v := (10 : Int32)) hm.1 dX8_init_17 (by decide) ?_
  obtain ⟨o19, h⟩ := h
  refine kn_newaI (m := 10) hm.1 1 (by decide) (by decide) rfl wa_1 dX8_init_19 (by decide) (by decide) (by decide) o19 hm.2.2.1 (by decide) (by decide) rfl rfl (fun T19 i19 e19 f19 => ?_)
  have h := h T19 i19 e19 f19
  obtain ⟨o21, h⟩ := h
  refine kn_putR hm.1 fp_X8_16 rfl (fun h => hm.2.2.2) dX8_init_21 o21 (fun r21 e21 => ?_)
  have h := h r21 e21
  refine kk_aload_n hm.1 0 dX8_init_24 rfl rfl ?_
  refine kk_iconst (v := (0 : Int32)) hm.1 dX8_init_25 (by decide) ?_
  refine kn_putI hm.1 fp_X8_20 dX8_init_26 o21 (fun i26 e26 => ?_)
  have h := h i26 e26
  refine kk_aload_n hm.1 0 dX8_init_29 rfl rfl ?_
  refine kk_iconst (v := (0 : Int32)) hm.1 dX8_init_30 (by decide) ?_
  refine kn_putI hm.1 fp_X8_24 dX8_init_31 o21 (fun i31 e31 => ?_)
  have h := h i31 e31
  exact kk_vret hm.1 hm.2.1 dX8_init_34 ⟨rfl, rfl, h⟩
def w_X8_draw  (a0 : Nat) (x1 : Int32) (T : kw_T) (n : Nat) (r : kw_R) (i : kw_I) (w : kw_L) (Q : Int32 → kw_I → Prop) : Prop :=
  ∀ i16 : kw_I, i16 = kw_st i a0 3 ((((i a0 3) * (1103 : Int32)) + (12345 : Int32)) - (((i a0 3) * (1103 : Int32)) + (12345 : Int32)) / (1000003 : Int32) * (1000003 : Int32)) → ((x1 ≤ 0 → Q (0 : Int32) i16) ∧ (¬ x1 ≤ 0 → (¬ x1 = 0) ∧ (Q ((i16 a0 3) - (i16 a0 3) / x1 * x1) i16)))
abbrev rm_X8_draw : Room := { frames := 1, cells := 0, slots := 0, locals := 60 }
set_option maxHeartbeats 4000000 in
set_option maxRecDepth 100000 in
theorem t_X8_draw {l : Launch} {G : kw_G} {a0 : Nat} {x1 : Int32} {T : kw_T} {n : Nat} {r : kw_R} {i : kw_I} {w : kw_L} {Q : Int32 → kw_I → Prop} (h0 : T a0 = (0, 8)) (h : w_X8_draw a0 x1 T n r i w Q) : kw_Met l G yX8_draw cX8_draw 2 (some .int) rm_X8_draw [kw_a a0, kw_i x1] (T, n, r, i, w) (kw_PI (fun v T' n' r' i' w' => T = T' ∧ n = n' ∧ r = r' ∧ w = w' ∧ Q v i')) := by
  refine kw_Met.of (by decide) (Nat.le_of_ble_eq_true rfl) fun E hl hRm hE hT hnm => ?_
  have hm : kw_m E G cX8_draw 2 RX8 (some .int) rm_X8_draw "draw" := ⟨hE, hT, hRm, hnm⟩
  subst hl
  show kw_K E G 2 0 0 (kw_Z E G 0 0 (kw_PI (fun v T' n' r' i' w' => T = T' ∧ n = n' ∧ r = r' ∧ w = w' ∧ Q v i'))) 0 [(0, kw_a a0), (1, kw_i x1)] [] T n r i w
  refine kk_aload_n hm.1 0 dX8_draw_0 rfl rfl ?_
  refine kk_aload_n hm.1 0 dX8_draw_1 rfl rfl ?_
  refine kk_getI hm.1 ff_X8_24 dX8_draw_2 h0 ?_
  refine kk_sipush (v := (1103 : Int32)) hm.1 dX8_draw_5 (by decide) ?_
  refine kk_imul hm.1 dX8_draw_8 ?_
  refine kk_sipush (v := (12345 : Int32)) hm.1 dX8_draw_9 (by decide) ?_
  refine kk_iadd hm.1 dX8_draw_12 ?_
  refine kk_ldc (v := (1000003 : Int32)) hm.1 dX8_draw_13 wc_X8_51 ?_
  refine kk_irem hm.1 dX8_draw_15 (by decide) ?_
  refine kn_putI hm.1 fp_X8_24 dX8_draw_16 h0 (fun i16 e16 => ?_)
  have h := h i16 e16
  refine kk_iload_n hm.1 1 dX8_draw_19 rfl rfl ?_
  refine kk_if_le (tgt := 32) hm.1 dX8_draw_20 (by decide) (fun c20 => ?_) (fun c20 => ?_)
  · have h := h.1 c20
    refine kk_iconst (v := (0 : Int32)) hm.1 dX8_draw_32 (by decide) ?_
    exact kk_iret hm.1 hm.2.1 dX8_draw_33 ⟨_, rfl, rfl, rfl, rfl, rfl, h⟩
  · have h := h.2 c20
    refine kk_aload_n hm.1 0 dX8_draw_23 rfl rfl ?_
    refine kk_getI hm.1 ff_X8_24 dX8_draw_24 h0 ?_
    refine kk_iload_n hm.1 1 dX8_draw_27 rfl rfl ?_
    obtain ⟨o28, h⟩ := h
    refine kk_irem hm.1 dX8_draw_28 o28 ?_
    refine kk_goto (tgt := 33) hm.1 dX8_draw_29 (by decide) ?_
    exact kk_iret hm.1 hm.2.1 dX8_draw_33 ⟨_, rfl, rfl, rfl, rfl, rfl, h⟩
def w_X8_weaveAll_129 (a0 : Nat) (a1 : Nat) (a2 : Nat) (x3 : Int32) (T : kw_T) (n : Nat) (r : kw_R) (Q : Nat → kw_I → kw_L → Prop) (k24 : Nat → Int32 → kw_I → kw_L → Prop) (k53 : Nat → Int32 → Nat → Int32 → kw_I → kw_L → Prop) (a4 : Nat) (x5 : Int32) (a6 : Nat) (x7 : Int32) (i : kw_I) (w : kw_L) : Prop :=
  k53 a4 x5 a6 ((x7 + (1 : Int32))) i w
def s_X8_weaveAll_53 (a0 : Nat) (a1 : Nat) (a2 : Nat) (x3 : Int32) (T : kw_T) (n : Nat) (r : kw_R) (Q : Nat → kw_I → kw_L → Prop) (k24 : Nat → Int32 → kw_I → kw_L → Prop) (k53 : Nat → Int32 → Nat → Int32 → kw_I → kw_L → Prop) (a4 : Nat) (x5 : Int32) (a6 : Nat) (x7 : Int32) (i : kw_I) (w : kw_L) : Prop :=
  ((36 : Int32) ≤ x7 → k24 a6 ((x5 + (1 : Int32))) i w) ∧ (¬ (36 : Int32) ≤ x7 → w_X8_draw a0 (100 : Int32) T n r i w (fun v63 i63 => T a2 = (0, 6) ∧ (kw_in T 1 (r a2 3) (0 : Int32) ∧ (((i63 (r a2 3) ((0 : Int32)).toNatClampNeg) ≤ v63 → T a1 = (0, 2) ∧ (w_X2_colourIn a1 x5 x7 a4 a6 T n r i63 w (fun v125 i125 w125 => kw_in T 1 a6 x7 ∧ (∀ i128 : kw_I, i128 = kw_st i125 a6 (x7).toNatClampNeg v125 → (w_X8_weaveAll_129 a0 a1 a2 x3 T n r Q k24 k53 a4 x5 a6 x7 i128 w125))))) ∧ (¬ (i63 (r a2 3) ((0 : Int32)).toNatClampNeg) ≤ v63 → kw_in T 1 (r a0 1) x5 ∧ (kw_in T 1 (r a0 1) x5 ∧ (∀ i85 : kw_I, i85 = kw_st i63 (r a0 1) (x5).toNatClampNeg ((i63 (r a0 1) (x5).toNatClampNeg) + (1 : Int32)) → (T a1 = (0, 2) ∧ (kw_in T 1 (r a1 1) x5 ∧ (w_X8_draw a0 (8 : Int32) T n r i85 w (fun v101 i101 => w_X2_nearest a1 (i85 (r a1 1) (x5).toNatClampNeg) (v101.toInt64) T n r i101 w (fun v105 => kw_in T 1 a6 x7 ∧ (∀ i108 : kw_I, i108 = kw_st i101 a6 (x7).toNatClampNeg v105 → (w_X8_weaveAll_129 a0 a1 a2 x3 T n r Q k24 k53 a4 x5 a6 x7 i108 w))))))))))))))
def w_X8_weaveAll_53 (a0 : Nat) (a1 : Nat) (a2 : Nat) (x3 : Int32) (T : kw_T) (n : Nat) (r : kw_R) (Q : Nat → kw_I → kw_L → Prop) (k24 : Nat → Int32 → kw_I → kw_L → Prop) : Nat → Nat → Int32 → Nat → Int32 → kw_I → kw_L → Prop
  | 0 => fun _ _ _ _ _ _ => False
  | N + 1 => s_X8_weaveAll_53 a0 a1 a2 x3 T n r Q k24 (w_X8_weaveAll_53 a0 a1 a2 x3 T n r Q k24 N)
def s_X8_weaveAll_24 (a0 : Nat) (a1 : Nat) (a2 : Nat) (x3 : Int32) (T : kw_T) (n : Nat) (r : kw_R) (Q : Nat → kw_I → kw_L → Prop)  (k24 : Nat → Int32 → kw_I → kw_L → Prop) (a4 : Nat) (x5 : Int32) (i : kw_I) (w : kw_L) : Prop :=
  ((i a0 2) ≤ x5 → Q a4 i w) ∧ (¬ (i a0 2) ≤ x5 → kw_in T 5 (r a0 0) x5 ∧ (kw_in T 1 (r a0 1) x5 ∧ (∀ i49 : kw_I, i49 = kw_st i (r a0 1) (x5).toNatClampNeg (0 : Int32) → (∃ N, w_X8_weaveAll_53 a0 a1 a2 x3 T n r Q k24 N a4 x5 ((r (r a0 0) (x5).toNatClampNeg)) ((0 : Int32)) i49 w))))
def w_X8_weaveAll_24 (a0 : Nat) (a1 : Nat) (a2 : Nat) (x3 : Int32) (T : kw_T) (n : Nat) (r : kw_R) (Q : Nat → kw_I → kw_L → Prop)  : Nat → Nat → Int32 → kw_I → kw_L → Prop
  | 0 => fun _ _ _ _ => False
  | N + 1 => s_X8_weaveAll_24 a0 a1 a2 x3 T n r Q  (w_X8_weaveAll_24 a0 a1 a2 x3 T n r Q  N)
def w_X8_weaveAll  (a0 : Nat) (a1 : Nat) (a2 : Nat) (x3 : Int32) (T : kw_T) (n : Nat) (r : kw_R) (i : kw_I) (w : kw_L) (Q : Nat → kw_I → kw_L → Prop) : Prop :=
  ∀ i2 : kw_I, i2 = kw_st i a0 3 x3 → (T a2 = (0, 6) ∧ (∀ i10 : kw_I, i10 = kw_st i2 a0 2 (i2 a2 5) → (kw_in T 5 (r a2 1) (0 : Int32) ∧ (∃ N, w_X8_weaveAll_24 a0 a1 a2 x3 T n r Q  N ((r (r a2 1) ((0 : Int32)).toNatClampNeg)) ((0 : Int32)) i10 w))))
abbrev rm_X8_weaveAll : Room := { frames := 4, cells := 0, slots := 0, locals := 143 }
set_option maxHeartbeats 4000000 in
set_option maxRecDepth 100000 in
theorem q_X8_weaveAll_129 {a0 : Nat} {a1 : Nat} {a2 : Nat} {x3 : Int32} {T : kw_T} {n : Nat} {r : kw_R} {Q : Nat → kw_I → kw_L → Prop} {E : kw_E} {G : kw_G} (hm : kw_m E G cX8_weaveAll 8 RX8 (some (.array .int)) rm_X8_weaveAll "weaveAll")  (h0 : T a0 = (0, 8))  {k24 : Nat → Int32 → kw_I → kw_L → Prop} {k53 : Nat → Int32 → Nat → Int32 → kw_I → kw_L → Prop} (hk24 : ∀ (a4 : Nat) (x5 : Int32) (i : kw_I) (w : kw_L), k24 a4 x5 i w → kw_K E G 8 0 0 (kw_Z E G 0 0 (kw_PA (fun v T' n' r' i' w' => T = T' ∧ n = n' ∧ r = r' ∧ Q v i' w'))) 24 [(0, kw_a a0), (1, kw_a a1), (2, kw_a a2), (3, kw_i x3), (4, kw_a a4), (5, kw_i x5)] [] T n r i w) (hk53 : ∀ (a4 : Nat) (x5 : Int32) (a6 : Nat) (x7 : Int32) (i : kw_I) (w : kw_L), k53 a4 x5 a6 x7 i w → kw_K E G 8 0 0 (kw_Z E G 0 0 (kw_PA (fun v T' n' r' i' w' => T = T' ∧ n = n' ∧ r = r' ∧ Q v i' w'))) 53 [(0, kw_a a0), (1, kw_a a1), (2, kw_a a2), (3, kw_i x3), (4, kw_a a4), (5, kw_i x5), (6, kw_a a6), (7, kw_i x7)] [] T n r i w) (a4 : Nat) (x5 : Int32) (a6 : Nat) (x7 : Int32) (i : kw_I) (w : kw_L) (h : w_X8_weaveAll_129 a0 a1 a2 x3 T n r Q k24 k53 a4 x5 a6 x7 i w) : kw_K E G 8 0 0 (kw_Z E G 0 0 (kw_PA (fun v T' n' r' i' w' => T = T' ∧ n = n' ∧ r = r' ∧ Q v i' w'))) 129 [(0, kw_a a0), (1, kw_a a1), (2, kw_a a2), (3, kw_i x3), (4, kw_a a4), (5, kw_i x5), (6, kw_a a6), (7, kw_i x7)] [] T n r i w := by
  refine kk_iinc (v := (x7 + (1 : Int32))) (L' := [(7, kw_i (x7 + (1 : Int32))), (0, kw_a a0), (1, kw_a a1), (2, kw_a a2), (3, kw_i x3), (4, kw_a a4), (5, kw_i x5), (6, kw_a a6)]) hm.1 7 dX8_weaveAll_129 rfl rfl (by decide) rfl ?_
  refine kk_goto (tgt := 53) hm.1 dX8_weaveAll_132 (by decide) ?_
  refine kk_loc (L' := [(0, kw_a a0), (1, kw_a a1), (2, kw_a a2), (3, kw_i x3), (4, kw_a a4), (5, kw_i x5), (6, kw_a a6), (7, kw_i (x7 + (1 : Int32)))]) [1, 2, 3, 4, 5, 6, 7, 0] rfl ?_
  exact hk53 a4 x5 a6 ((x7 + (1 : Int32))) i w h
set_option maxHeartbeats 4000000 in
set_option maxRecDepth 100000 in
theorem qs_X8_weaveAll_53 {a0 : Nat} {a1 : Nat} {a2 : Nat} {x3 : Int32} {T : kw_T} {n : Nat} {r : kw_R} {Q : Nat → kw_I → kw_L → Prop} {E : kw_E} {G : kw_G} (hm : kw_m E G cX8_weaveAll 8 RX8 (some (.array .int)) rm_X8_weaveAll "weaveAll")  (h0 : T a0 = (0, 8))  {k24 : Nat → Int32 → kw_I → kw_L → Prop} (hk24 : ∀ (a4 : Nat) (x5 : Int32) (i : kw_I) (w : kw_L), k24 a4 x5 i w → kw_K E G 8 0 0 (kw_Z E G 0 0 (kw_PA (fun v T' n' r' i' w' => T = T' ∧ n = n' ∧ r = r' ∧ Q v i' w'))) 24 [(0, kw_a a0), (1, kw_a a1), (2, kw_a a2), (3, kw_i x3), (4, kw_a a4), (5, kw_i x5)] [] T n r i w) {k53 : Nat → Int32 → Nat → Int32 → kw_I → kw_L → Prop} (hk53 : ∀ (a4 : Nat) (x5 : Int32) (a6 : Nat) (x7 : Int32) (i : kw_I) (w : kw_L), k53 a4 x5 a6 x7 i w → kw_K E G 8 0 0 (kw_Z E G 0 0 (kw_PA (fun v T' n' r' i' w' => T = T' ∧ n = n' ∧ r = r' ∧ Q v i' w'))) 53 [(0, kw_a a0), (1, kw_a a1), (2, kw_a a2), (3, kw_i x3), (4, kw_a a4), (5, kw_i x5), (6, kw_a a6), (7, kw_i x7)] [] T n r i w) (a4 : Nat) (x5 : Int32) (a6 : Nat) (x7 : Int32) (i : kw_I) (w : kw_L) (h : s_X8_weaveAll_53 a0 a1 a2 x3 T n r Q k24 k53 a4 x5 a6 x7 i w) : kw_K E G 8 0 0 (kw_Z E G 0 0 (kw_PA (fun v T' n' r' i' w' => T = T' ∧ n = n' ∧ r = r' ∧ Q v i' w'))) 53 [(0, kw_a a0), (1, kw_a a1), (2, kw_a a2), (3, kw_i x3), (4, kw_a a4), (5, kw_i x5), (6, kw_a a6), (7, kw_i x7)] [] T n r i w := by
  refine kk_iload hm.1 7 dX8_weaveAll_53 rfl ?_
  refine kk_bipush (v := (36 : Int32)) hm.1 dX8_weaveAll_55 (by decide) ?_
  refine kk_icmp_ge (tgt := 135) hm.1 dX8_weaveAll_57 (by decide) (fun c57 => ?_) (fun c57 => ?_)
  · have h := h.1 c57
    refine kk_aload hm.1 6 dX8_weaveAll_135 rfl ?_
    refine kk_astore (L' := [(4, kw_a a6), (0, kw_a a0), (1, kw_a a1), (2, kw_a a2), (3, kw_i x3), (5, kw_i x5), (6, kw_a a6), (7, kw_i x7)]) hm.1 dX8_weaveAll_137 (by decide) rfl ?_
    refine kk_iinc (v := (x5 + (1 : Int32))) (L' := [(5, kw_i (x5 + (1 : Int32))), (4, kw_a a6), (0, kw_a a0), (1, kw_a a1), (2, kw_a a2), (3, kw_i x3), (6, kw_a a6), (7, kw_i x7)]) hm.1 5 dX8_weaveAll_139 rfl rfl (by decide) rfl ?_
    refine kk_goto (tgt := 24) hm.1 dX8_weaveAll_142 (by decide) ?_
    refine kk_loc (L' := [(0, kw_a a0), (1, kw_a a1), (2, kw_a a2), (3, kw_i x3), (4, kw_a a6), (5, kw_i (x5 + (1 : Int32)))]) [2, 3, 4, 5, 1, 0] rfl ?_
    exact hk24 a6 ((x5 + (1 : Int32))) i w h
  · have h := h.2 c57
    refine kk_aload_n hm.1 0 dX8_weaveAll_60 rfl rfl ?_
    refine kk_bipush (v := (100 : Int32)) hm.1 dX8_weaveAll_61 (by decide) ?_
    refine kk_callVi (cs' := 0) (sl' := 0) (st := []) hm.1 cv_X8_31 (t_X8_draw h0 h) dX8_weaveAll_63 h0 rfl rfl hm.2.2.1 ⟨by decide, by decide⟩ ⟨by decide, by decide⟩ rfl rfl (Nat.le_of_ble_eq_true rfl) rfl ?_
    rintro v63 _ _ _ i63 _ ⟨rfl, rfl, rfl, rfl, h⟩
    refine kk_aload_n hm.1 2 dX8_weaveAll_66 rfl rfl ?_
    obtain ⟨o67, h⟩ := h
    refine kk_getR hm.1 ff_X8_35 dX8_weaveAll_67 o67 ?_
    refine kk_iconst (v := (0 : Int32)) hm.1 dX8_weaveAll_70 (by decide) ?_
    obtain ⟨o71, h⟩ := h
    refine kk_iaload hm.1 dX8_weaveAll_71 o71 ?_
    refine kk_icmp_ge (tgt := 112) hm.1 dX8_weaveAll_72 (by decide) (fun c72 => ?_) (fun c72 => ?_)
    · have h := h.1 c72
      refine kk_aload hm.1 6 dX8_weaveAll_112 rfl ?_
      refine kk_iload hm.1 7 dX8_weaveAll_114 rfl ?_
      refine kk_aload_n hm.1 1 dX8_weaveAll_116 rfl rfl ?_
      refine kk_iload hm.1 5 dX8_weaveAll_117 rfl ?_
      refine kk_iload hm.1 7 dX8_weaveAll_119 rfl ?_
      refine kk_aload hm.1 4 dX8_weaveAll_121 rfl ?_
      refine kk_aload hm.1 6 dX8_weaveAll_123 rfl ?_
      obtain ⟨o125, h⟩ := h
      refine kk_callVi (cs' := 0) (sl' := 0) (st := [kw_i x7, kw_a a6]) hm.1 cv_X8_47 (t_X2_colourIn o125 h) dX8_weaveAll_125 o125 rfl rfl hm.2.2.1 ⟨by decide, by decide⟩ ⟨by decide, by decide⟩ rfl rfl (Nat.le_of_ble_eq_true rfl) rfl ?_
      rintro v125 _ _ _ i125 w125 ⟨rfl, rfl, rfl, h⟩
      obtain ⟨o128, h⟩ := h
      refine kn_iastore hm.1 dX8_weaveAll_128 o128 (fun i128 e128 => ?_)
      have h := h i128 e128
      exact q_X8_weaveAll_129 hm  h0  hk24 hk53 a4 x5 a6 x7 i128 w125 h
    · have h := h.2 c72
      refine kk_aload_n hm.1 0 dX8_weaveAll_75 rfl rfl ?_
      refine kk_getR hm.1 ff_X8_16 dX8_weaveAll_76 h0 ?_
      refine kk_iload hm.1 5 dX8_weaveAll_79 rfl ?_
      refine kk_dup2 hm.1 dX8_weaveAll_81 rfl rfl ?_
      obtain ⟨o82, h⟩ := h
      refine kk_iaload hm.1 dX8_weaveAll_82 o82 ?_
      refine kk_iconst (v := (1 : Int32)) hm.1 dX8_weaveAll_83 (by decide) ?_
      refine kk_iadd hm.1 dX8_weaveAll_84 ?_
      obtain ⟨o85, h⟩ := h
      refine kn_iastore hm.1 dX8_weaveAll_85 o85 (fun i85 e85 => ?_)
      have h := h i85 e85
      refine kk_aload hm.1 6 dX8_weaveAll_86 rfl ?_
      refine kk_iload hm.1 7 dX8_weaveAll_88 rfl ?_
      refine kk_aload_n hm.1 1 dX8_weaveAll_90 rfl rfl ?_
      refine kk_aload_n hm.1 1 dX8_weaveAll_91 rfl rfl ?_
      obtain ⟨o92, h⟩ := h
      refine kk_getR hm.1 ff_X8_38 dX8_weaveAll_92 o92 ?_
      refine kk_iload hm.1 5 dX8_weaveAll_95 rfl ?_
      obtain ⟨o97, h⟩ := h
      refine kk_iaload hm.1 dX8_weaveAll_97 o97 ?_
      refine kk_aload_n hm.1 0 dX8_weaveAll_98 rfl rfl ?_
      refine kk_bipush (v := (8 : Int32)) hm.1 dX8_weaveAll_99 (by decide) ?_
      refine kk_callVi (cs' := 0) (sl' := 0) (st := [kw_i (i85 (r a1 1) (x5).toNatClampNeg), kw_a a1, kw_i x7, kw_a a6]) hm.1 cv_X8_31 (t_X8_draw h0 h) dX8_weaveAll_101 h0 rfl rfl hm.2.2.1 ⟨by decide, by decide⟩ ⟨by decide, by decide⟩ rfl rfl (Nat.le_of_ble_eq_true rfl) rfl ?_
      rintro v101 _ _ _ i101 _ ⟨rfl, rfl, rfl, rfl, h⟩
      refine kk_i2l hm.1 dX8_weaveAll_104 ?_
      refine kk_callVi (cs' := 0) (sl' := 0) (st := [kw_i x7, kw_a a6]) hm.1 cv_X8_43 (t_X2_nearest o92 h) dX8_weaveAll_105 o92 rfl rfl hm.2.2.1 ⟨by decide, by decide⟩ ⟨by decide, by decide⟩ rfl rfl (Nat.le_of_ble_eq_true rfl) rfl ?_
      rintro v105 _ _ _ _ _ ⟨rfl, rfl, rfl, rfl, rfl, h⟩
      obtain ⟨o108, h⟩ := h
      refine kn_iastore hm.1 dX8_weaveAll_108 o108 (fun i108 e108 => ?_)
      have h := h i108 e108
      refine kk_goto (tgt := 129) hm.1 dX8_weaveAll_109 (by decide) ?_
      exact q_X8_weaveAll_129 hm  h0  hk24 hk53 a4 x5 a6 x7 i108 w h
set_option maxHeartbeats 4000000 in
set_option maxRecDepth 100000 in
theorem q_X8_weaveAll_53 {a0 : Nat} {a1 : Nat} {a2 : Nat} {x3 : Int32} {T : kw_T} {n : Nat} {r : kw_R} {Q : Nat → kw_I → kw_L → Prop} {E : kw_E} {G : kw_G} (hm : kw_m E G cX8_weaveAll 8 RX8 (some (.array .int)) rm_X8_weaveAll "weaveAll")  (h0 : T a0 = (0, 8))  {k24 : Nat → Int32 → kw_I → kw_L → Prop} (hk24 : ∀ (a4 : Nat) (x5 : Int32) (i : kw_I) (w : kw_L), k24 a4 x5 i w → kw_K E G 8 0 0 (kw_Z E G 0 0 (kw_PA (fun v T' n' r' i' w' => T = T' ∧ n = n' ∧ r = r' ∧ Q v i' w'))) 24 [(0, kw_a a0), (1, kw_a a1), (2, kw_a a2), (3, kw_i x3), (4, kw_a a4), (5, kw_i x5)] [] T n r i w) : ∀ (N : Nat) (a4 : Nat) (x5 : Int32) (a6 : Nat) (x7 : Int32) (i : kw_I) (w : kw_L), w_X8_weaveAll_53 a0 a1 a2 x3 T n r Q k24 N a4 x5 a6 x7 i w → kw_K E G 8 0 0 (kw_Z E G 0 0 (kw_PA (fun v T' n' r' i' w' => T = T' ∧ n = n' ∧ r = r' ∧ Q v i' w'))) 53 [(0, kw_a a0), (1, kw_a a1), (2, kw_a a2), (3, kw_i x3), (4, kw_a a4), (5, kw_i x5), (6, kw_a a6), (7, kw_i x7)] [] T n r i w := by
  intro N
  induction N with
  | zero => intro a4 x5 a6 x7 i w h; exact h.elim
  | succ N ih => intro a4 x5 a6 x7 i w h; exact qs_X8_weaveAll_53 hm  h0 hk24 ih a4 x5 a6 x7 i w h
set_option maxHeartbeats 4000000 in
set_option maxRecDepth 100000 in
theorem qs_X8_weaveAll_24 {a0 : Nat} {a1 : Nat} {a2 : Nat} {x3 : Int32} {T : kw_T} {n : Nat} {r : kw_R} {Q : Nat → kw_I → kw_L → Prop} {E : kw_E} {G : kw_G} (hm : kw_m E G cX8_weaveAll 8 RX8 (some (.array .int)) rm_X8_weaveAll "weaveAll")  (h0 : T a0 = (0, 8))    {k24 : Nat → Int32 → kw_I → kw_L → Prop} (hk24 : ∀ (a4 : Nat) (x5 : Int32) (i : kw_I) (w : kw_L), k24 a4 x5 i w → kw_K E G 8 0 0 (kw_Z E G 0 0 (kw_PA (fun v T' n' r' i' w' => T = T' ∧ n = n' ∧ r = r' ∧ Q v i' w'))) 24 [(0, kw_a a0), (1, kw_a a1), (2, kw_a a2), (3, kw_i x3), (4, kw_a a4), (5, kw_i x5)] [] T n r i w) (a4 : Nat) (x5 : Int32) (i : kw_I) (w : kw_L) (h : s_X8_weaveAll_24 a0 a1 a2 x3 T n r Q  k24 a4 x5 i w) : kw_K E G 8 0 0 (kw_Z E G 0 0 (kw_PA (fun v T' n' r' i' w' => T = T' ∧ n = n' ∧ r = r' ∧ Q v i' w'))) 24 [(0, kw_a a0), (1, kw_a a1), (2, kw_a a2), (3, kw_i x3), (4, kw_a a4), (5, kw_i x5)] [] T n r i w := by
  refine kk_iload hm.1 5 dX8_weaveAll_24 rfl ?_
  refine kk_aload_n hm.1 0 dX8_weaveAll_26 rfl rfl ?_
  refine kk_getI hm.1 ff_X8_20 dX8_weaveAll_27 h0 ?_
  refine kk_icmp_ge (tgt := 145) hm.1 dX8_weaveAll_30 (by decide) (fun c30 => ?_) (fun c30 => ?_)
  · have h := h.1 c30
    refine kk_aload hm.1 4 dX8_weaveAll_145 rfl ?_
    exact kk_aret hm.1 hm.2.1 (by first | exact Or.inl ⟨_, rfl⟩ | exact Or.inr ⟨_, rfl⟩) dX8_weaveAll_147 ⟨_, rfl, rfl, rfl, rfl, h⟩
  · have h := h.2 c30
    refine kk_aload_n hm.1 0 dX8_weaveAll_33 rfl rfl ?_
    refine kk_getR hm.1 ff_X8_11 dX8_weaveAll_34 h0 ?_
    refine kk_iload hm.1 5 dX8_weaveAll_37 rfl ?_
    obtain ⟨o39, h⟩ := h
    refine kk_aaload hm.1 5 (by decide) (by decide) rfl rfl dX8_weaveAll_39 o39 ?_
    refine kk_astore (L' := [(6, kw_a (r (r a0 0) (x5).toNatClampNeg)), (0, kw_a a0), (1, kw_a a1), (2, kw_a a2), (3, kw_i x3), (4, kw_a a4), (5, kw_i x5)]) hm.1 dX8_weaveAll_40 (by decide) rfl ?_
    refine kk_aload_n hm.1 1 dX8_weaveAll_42 rfl rfl ?_
    refine kk_getR hm.1 ff_X8_16 dX8_weaveAll_43 h0 ?_
    refine kk_iload hm.1 6 dX8_weaveAll_46 rfl ?_
    refine kk_iconst (v := (0 : Int32)) hm.1 dX8_weaveAll_48 (by decide) ?_
    obtain ⟨o49, h⟩ := h
    refine kn_iastore hm.1 dX8_weaveAll_49 o49 (fun i49 e49 => ?_)
    have h := h i49 e49
    refine kk_iconst (v := (0 : Int32)) hm.1 dX8_weaveAll_50 (by decide) ?_
    refine kk_istore (L' := [(7, kw_i (0 : Int32)), (6, kw_a (r (r a0 0) (x5).toNatClampNeg)), (0, kw_a a0), (1, kw_a a1), (2, kw_a a2), (3, kw_i x3), (4, kw_a a4), (5, kw_i x5)]) hm.1 dX8_weaveAll_51 (by decide) rfl ?_
    refine kk_loc (L' := [(0, kw_a a0), (1, kw_a a1), (2, kw_a a2), (3, kw_i x3), (4, kw_a a4), (5, kw_i x5), (6, kw_a (r (r a0 0) (x5).toNatClampNeg)), (7, kw_i (0 : Int32))]) [2, 3, 4, 5, 6, 7, 1, 0] rfl ?_
    obtain ⟨N, h⟩ := h
    exact q_X8_weaveAll_53 hm  h0  hk24 N a4 x5 ((r (r a0 0) (x5).toNatClampNeg)) ((0 : Int32)) i49 w h
set_option maxHeartbeats 4000000 in
set_option maxRecDepth 100000 in
theorem q_X8_weaveAll_24 {a0 : Nat} {a1 : Nat} {a2 : Nat} {x3 : Int32} {T : kw_T} {n : Nat} {r : kw_R} {Q : Nat → kw_I → kw_L → Prop} {E : kw_E} {G : kw_G} (hm : kw_m E G cX8_weaveAll 8 RX8 (some (.array .int)) rm_X8_weaveAll "weaveAll")  (h0 : T a0 = (0, 8))    : ∀ (N : Nat) (a4 : Nat) (x5 : Int32) (i : kw_I) (w : kw_L), w_X8_weaveAll_24 a0 a1 a2 x3 T n r Q  N a4 x5 i w → kw_K E G 8 0 0 (kw_Z E G 0 0 (kw_PA (fun v T' n' r' i' w' => T = T' ∧ n = n' ∧ r = r' ∧ Q v i' w'))) 24 [(0, kw_a a0), (1, kw_a a1), (2, kw_a a2), (3, kw_i x3), (4, kw_a a4), (5, kw_i x5)] [] T n r i w := by
  intro N
  induction N with
  | zero => intro a4 x5 i w h; exact h.elim
  | succ N ih => intro a4 x5 i w h; exact qs_X8_weaveAll_24 hm  h0  ih a4 x5 i w h
set_option maxHeartbeats 4000000 in
set_option maxRecDepth 100000 in
theorem t_X8_weaveAll {l : Launch} {G : kw_G} {a0 : Nat} {a1 : Nat} {a2 : Nat} {x3 : Int32} {T : kw_T} {n : Nat} {r : kw_R} {i : kw_I} {w : kw_L} {Q : Nat → kw_I → kw_L → Prop} (h0 : T a0 = (0, 8)) (h : w_X8_weaveAll a0 a1 a2 x3 T n r i w Q) : kw_Met l G yX8_weaveAll cX8_weaveAll 8 (some (.array .int)) rm_X8_weaveAll [kw_a a0, kw_a a1, kw_a a2, kw_i x3] (T, n, r, i, w) (kw_PA (fun v T' n' r' i' w' => T = T' ∧ n = n' ∧ r = r' ∧ Q v i' w')) := by
  refine kw_Met.of (by decide) (Nat.le_of_ble_eq_true rfl) fun E hl hRm hE hT hnm => ?_
  have hm : kw_m E G cX8_weaveAll 8 RX8 (some (.array .int)) rm_X8_weaveAll "weaveAll" := ⟨hE, hT, hRm, hnm⟩
  subst hl
  show kw_K E G 8 0 0 (kw_Z E G 0 0 (kw_PA (fun v T' n' r' i' w' => T = T' ∧ n = n' ∧ r = r' ∧ Q v i' w'))) 0 [(0, kw_a a0), (1, kw_a a1), (2, kw_a a2), (3, kw_i x3)] [] T n r i w
  refine kk_aload_n hm.1 0 dX8_weaveAll_0 rfl rfl ?_
  refine kk_iload_n hm.1 3 dX8_weaveAll_1 rfl rfl ?_
  refine kn_putI hm.1 fp_X8_24 dX8_weaveAll_2 h0 (fun i2 e2 => ?_)
  have h := h i2 e2
  refine kk_aload_n hm.1 0 dX8_weaveAll_5 rfl rfl ?_
  refine kk_aload_n hm.1 2 dX8_weaveAll_6 rfl rfl ?_
  obtain ⟨o7, h⟩ := h
  refine kk_getI hm.1 ff_X8_27 dX8_weaveAll_7 o7 ?_
  refine kn_putI hm.1 fp_X8_20 dX8_weaveAll_10 h0 (fun i10 e10 => ?_)
  have h := h i10 e10
  refine kk_aload_n hm.1 2 dX8_weaveAll_13 rfl rfl ?_
  refine kk_getR hm.1 ff_X8_30 dX8_weaveAll_14 o7 ?_
  refine kk_iconst (v := (0 : Int32)) hm.1 dX8_weaveAll_17 (by decide) ?_
  obtain ⟨o18, h⟩ := h
  refine kk_aaload hm.1 5 (by decide) (by decide) rfl rfl dX8_weaveAll_18 o18 ?_
  refine kk_astore (L' := [(4, kw_a (r (r a2 1) ((0 : Int32)).toNatClampNeg)), (0, kw_a a0), (1, kw_a a1), (2, kw_a a2), (3, kw_i x3)]) hm.1 dX8_weaveAll_19 (by decide) rfl ?_
  refine kk_iconst (v := (0 : Int32)) hm.1 dX8_weaveAll_21 (by decide) ?_
  refine kk_istore (L' := [(5, kw_i (0 : Int32)), (4, kw_a (r (r a2 1) ((0 : Int32)).toNatClampNeg)), (0, kw_a a0), (1, kw_a a1), (2, kw_a a2), (3, kw_i x3)]) hm.1 dX8_weaveAll_22 (by decide) rfl ?_
  refine kk_loc (L' := [(0, kw_a a0), (1, kw_a a1), (2, kw_a a2), (3, kw_i x3), (4, kw_a (r (r a2 1) ((0 : Int32)).toNatClampNeg)), (5, kw_i (0 : Int32))]) [2, 3, 4, 5, 1, 0] rfl ?_
  obtain ⟨N, h⟩ := h
  exact q_X8_weaveAll_24 hm  h0   N ((r (r a2 1) ((0 : Int32)).toNatClampNeg)) ((0 : Int32)) i10 w h
def w_X9_init  (a0 : Nat) (T : kw_T) (n : Nat) (r : kw_R) (i : kw_I) (w : kw_L) (Q : kw_T → Nat → kw_R → kw_I → kw_L → Prop) : Prop :=
  kw_al n 1 ∧ (∀ (T5 : kw_T) (r5 : kw_R) (i5 : kw_I), T5 = kw_row T n (0, 6) → r5 = kw_row r n (fun _ => 0) → i5 = kw_row i n (fun _ => 0) → (w_X6_init n T5 (n + 1) r5 i5 w (fun T9 n9 r9 i9 => T9 a0 = (0, 9) ∧ (∀ r12 : kw_R, r12 = kw_st r9 a0 0 n → (kw_al n9 1 ∧ (∀ (T17 : kw_T) (r17 : kw_R), T17 = kw_row T9 n9 (6, 2) → r17 = kw_row r12 n9 (fun _ => 0) → (T17 a0 = (0, 9) ∧ (∀ r20 : kw_R, r20 = kw_st r17 a0 1 n9 → (kw_al (n9 + 1) 1 ∧ (∀ (T24 : kw_T) (r24 : kw_R) (i24 : kw_I), T24 = kw_row T17 (n9 + 1) (0, 7) → r24 = kw_row r20 (n9 + 1) (fun _ => 0) → i24 = kw_row i9 (n9 + 1) (fun _ => 0) → (w_X7_init (n9 + 1) T24 ((n9 + 1) + 1) r24 i24 w (fun T28 n28 r28 i28 => T28 a0 = (0, 9) ∧ (∀ r31 : kw_R, r31 = kw_st r28 a0 2 (n9 + 1) → (kw_al n28 1 ∧ (∀ (T35 : kw_T) (r35 : kw_R) (i35 : kw_I), T35 = kw_row T28 n28 (0, 4) → r35 = kw_row r31 n28 (fun _ => 0) → i35 = kw_row i28 n28 (fun _ => 0) → (w_X4_init n28 T35 (n28 + 1) r35 i35 w (fun T39 n39 r39 i39 => T39 a0 = (0, 9) ∧ (∀ r42 : kw_R, r42 = kw_st r39 a0 3 n28 → (kw_al n39 1 ∧ (∀ (T46 : kw_T) (r46 : kw_R) (i46 : kw_I), T46 = kw_row T39 n39 (0, 5) → r46 = kw_row r42 n39 (fun _ => 0) → i46 = kw_row i39 n39 (fun _ => 0) → (w_X5_init n39 T46 (n39 + 1) r46 i46 w (fun T50 n50 r50 i50 w50 => T50 a0 = (0, 9) ∧ (∀ r53 : kw_R, r53 = kw_st r50 a0 4 n39 → (kw_al n50 1 ∧ (∀ (T57 : kw_T) (r57 : kw_R) (i57 : kw_I), T57 = kw_row T50 n50 (0, 0) → r57 = kw_row r53 n50 (fun _ => 0) → i57 = kw_row i50 n50 (fun _ => 0) → (T57 a0 = (0, 9) ∧ (w_X0_init n50 (r57 a0 4) T57 (n50 + 1) r57 i57 w50 (fun T65 n65 r65 i65 => T65 a0 = (0, 9) ∧ (∀ r68 : kw_R, r68 = kw_st r65 a0 5 n50 → (kw_al n65 1 ∧ (∀ (T72 : kw_T) (r72 : kw_R) (i72 : kw_I), T72 = kw_row T65 n65 (0, 3) → r72 = kw_row r68 n65 (fun _ => 0) → i72 = kw_row i65 n65 (fun _ => 0) → (w_X3_init n65 T72 (n65 + 1) r72 i72 w50 (fun T76 n76 r76 i76 => T76 a0 = (0, 9) ∧ (∀ r79 : kw_R, r79 = kw_st r76 a0 6 n65 → (kw_al n76 1 ∧ (∀ (T83 : kw_T) (r83 : kw_R) (i83 : kw_I), T83 = kw_row T76 n76 (0, 8) → r83 = kw_row r79 n76 (fun _ => 0) → i83 = kw_row i76 n76 (fun _ => 0) → (w_X8_init n76 T83 (n76 + 1) r83 i83 w50 (fun T87 n87 r87 i87 => T87 a0 = (0, 9) ∧ (∀ r90 : kw_R, r90 = kw_st r87 a0 7 n76 → (kw_al n87 1 ∧ (∀ (T95 : kw_T) (i95 : kw_I), T95 = kw_row T87 n87 (1, 4) → i95 = kw_row i87 n87 (fun _ => 0) → (T95 a0 = (0, 9) ∧ (∀ r97 : kw_R, r97 = kw_st r90 a0 8 n87 → (∀ i102 : kw_I, i102 = kw_st i95 a0 9 (0 : Int32) → (∀ i107 : kw_I, i107 = kw_st i102 a0 10 (0 : Int32) → (∀ i112 : kw_I, i112 = kw_st i107 a0 11 (-1 : Int32) → (∀ i117 : kw_I, i117 = kw_st i112 a0 12 (1 : Int32) → (Q T95 (n87 + 1) r97 i117 w50))))))))))))))))))))))))))))))))))))))))))))))))
abbrev rm_X9_init : Room := { frames := 3, cells := 82, slots := 2790, locals := 103 }
set_option maxHeartbeats 4000000 in
set_option maxRecDepth 100000 in
theorem t_X9_init {l : Launch} {G : kw_G} {a0 : Nat} {T : kw_T} {n : Nat} {r : kw_R} {i : kw_I} {w : kw_L} {Q : kw_T → Nat → kw_R → kw_I → kw_L → Prop} (h0 : T a0 = (0, 9)) (h : w_X9_init a0 T n r i w Q) : kw_Met l G yX9_init cX9_init 1 none rm_X9_init [kw_a a0] (T, n, r, i, w) (kw_PV (fun T' n' r' i' w' => Q T' n' r' i' w')) := by
  refine kw_Met.of (by decide) (Nat.le_of_ble_eq_true rfl) fun E hl hRm hE hT hnm => ?_
  have hm : kw_m E G cX9_init 1 RX9 none rm_X9_init "<init>" := ⟨hE, hT, hRm, hnm⟩
  subst hl
  show kw_K E G 1 0 0 (kw_Z E G 82 2790 (kw_PV (fun T' n' r' i' w' => Q T' n' r' i' w'))) 0 [(0, kw_a a0)] [] T n r i w
  refine kk_aload_n hm.1 0 dX9_init_0 rfl rfl ?_
  refine kn_objInit (st := []) hm.1 wm_X9_1 wo_1 wo_2 dX9_init_1 h0 hm.2.2.1 (by decide) (Nat.le_of_ble_eq_true rfl) ?_
  refine kk_aload_n hm.1 0 dX9_init_4 rfl rfl ?_
  obtain ⟨o5, h⟩ := h
  refine kn_new hm.1 nw_X9_7 dX9_init_5 o5 hm.2.2.1 (by decide) (by decide) rfl rfl (fun T5 r5 i5 e5 f5 g5 u5 => ?_)
  have h := h T5 r5 i5 e5 f5 g5
  refine kk_dup hm.1 dX9_init_8 rfl ?_
  refine kk_callIv (cs' := 15) (sl' := 201) (st := [kw_a n, kw_a a0]) hm.1 ci_X9_9 (t_X6_init u5 h) dX9_init_9 u5 rfl hm.2.2.1 ⟨by decide, by decide⟩ ⟨by decide, by decide⟩ rfl rfl (Nat.le_of_ble_eq_true rfl) rfl ?_
  rintro T9 n9 r9 i9 _ ⟨rfl, h⟩
  obtain ⟨o12, h⟩ := h
  refine kn_putR hm.1 fp_X9_10 rfl (fun h => hm.2.2.2) dX9_init_12 o12 (fun r12 e12 => ?_)
  have h := h r12 e12
  refine kk_aload_n hm.1 0 dX9_init_15 rfl rfl ?_
  refine kk_iconst (v := (2 : Int32)) hm.1 dX9_init_16 (by decide) ?_
  obtain ⟨o17, h⟩ := h
  refine kn_anew (m := 2) hm.1 6 (by decide) wk_X9_7 dX9_init_17 (by decide) (by decide) (by decide) o17 hm.2.2.1 (by decide) (by decide) rfl rfl (fun T17 r17 e17 f17 => ?_)
  have h := h T17 r17 e17 f17
  obtain ⟨o20, h⟩ := h
  refine kn_putR hm.1 fp_X9_16 rfl (fun h => hm.2.2.2) dX9_init_20 o20 (fun r20 e20 => ?_)
  have h := h r20 e20
  refine kk_aload_n hm.1 0 dX9_init_23 rfl rfl ?_
  obtain ⟨o24, h⟩ := h
  refine kn_new hm.1 nw_X9_20 dX9_init_24 o24 hm.2.2.1 (by decide) (by decide) rfl rfl (fun T24 r24 i24 e24 f24 g24 u24 => ?_)
  have h := h T24 r24 i24 e24 f24 g24
  refine kk_dup hm.1 dX9_init_27 rfl ?_
  refine kk_callIv (cs' := 18) (sl' := 605) (st := [kw_a (n9 + 1), kw_a a0]) hm.1 ci_X9_22 (t_X7_init u24 h) dX9_init_28 u24 rfl hm.2.2.1 ⟨by decide, by decide⟩ ⟨by decide, by decide⟩ rfl rfl (Nat.le_of_ble_eq_true rfl) rfl ?_
  rintro T28 n28 r28 i28 _ ⟨rfl, h⟩
  obtain ⟨o31, h⟩ := h
  refine kn_putR hm.1 fp_X9_23 rfl (fun h => hm.2.2.2) dX9_init_31 o31 (fun r31 e31 => ?_)
  have h := h r31 e31
  refine kk_aload_n hm.1 0 dX9_init_34 rfl rfl ?_
  obtain ⟨o35, h⟩ := h
  refine kn_new hm.1 nw_X9_27 dX9_init_35 o35 hm.2.2.1 (by decide) (by decide) rfl rfl (fun T35 r35 i35 e35 f35 g35 u35 => ?_)
  have h := h T35 r35 i35 e35 f35 g35
  refine kk_dup hm.1 dX9_init_38 rfl ?_
  refine kk_callIv (cs' := 21) (sl' := 1028) (st := [kw_a n28, kw_a a0]) hm.1 ci_X9_29 (t_X4_init u35 h) dX9_init_39 u35 rfl hm.2.2.1 ⟨by decide, by decide⟩ ⟨by decide, by decide⟩ rfl rfl (Nat.le_of_ble_eq_true rfl) rfl ?_
  rintro T39 n39 r39 i39 _ ⟨rfl, h⟩
  obtain ⟨o42, h⟩ := h
  refine kn_putR hm.1 fp_X9_30 rfl (fun h => hm.2.2.2) dX9_init_42 o42 (fun r42 e42 => ?_)
  have h := h r42 e42
  refine kk_aload_n hm.1 0 dX9_init_45 rfl rfl ?_
  obtain ⟨o46, h⟩ := h
  refine kn_new hm.1 nw_X9_34 dX9_init_46 o46 hm.2.2.1 (by decide) (by decide) rfl rfl (fun T46 r46 i46 e46 f46 g46 u46 => ?_)
  have h := h T46 r46 i46 e46 f46 g46
  refine kk_dup hm.1 dX9_init_49 rfl ?_
  refine kk_callIv (cs' := 50) (sl' := 1870) (st := [kw_a n39, kw_a a0]) hm.1 ci_X9_36 (t_X5_init u46 h) dX9_init_50 u46 rfl hm.2.2.1 ⟨by decide, by decide⟩ ⟨by decide, by decide⟩ rfl rfl (Nat.le_of_ble_eq_true rfl) rfl ?_
  rintro T50 n50 r50 i50 w50 h
  obtain ⟨o53, h⟩ := h
  refine kn_putR hm.1 fp_X9_37 rfl (fun h => hm.2.2.2) dX9_init_53 o53 (fun r53 e53 => ?_)
  have h := h r53 e53
  refine kk_aload_n hm.1 0 dX9_init_56 rfl rfl ?_
  obtain ⟨o57, h⟩ := h
  refine kn_new hm.1 nw_X9_41 dX9_init_57 o57 hm.2.2.1 (by decide) (by decide) rfl rfl (fun T57 r57 i57 e57 f57 g57 u57 => ?_)
  have h := h T57 r57 i57 e57 f57 g57
  refine kk_dup hm.1 dX9_init_60 rfl ?_
  refine kk_aload_n hm.1 0 dX9_init_61 rfl rfl ?_
  obtain ⟨o62, h⟩ := h
  refine kk_getR hm.1 ff_X9_37 dX9_init_62 o62 ?_
  refine kk_callIv (cs' := 62) (sl' := 2339) (st := [kw_a n50, kw_a a0]) hm.1 ci_X9_43 (t_X0_init u57 h) dX9_init_65 u57 rfl hm.2.2.1 ⟨by decide, by decide⟩ ⟨by decide, by decide⟩ rfl rfl (Nat.le_of_ble_eq_true rfl) rfl ?_
  rintro T65 n65 r65 i65 _ ⟨rfl, h⟩
  obtain ⟨o68, h⟩ := h
  refine kn_putR hm.1 fp_X9_46 rfl (fun h => hm.2.2.2) dX9_init_68 o68 (fun r68 e68 => ?_)
  have h := h r68 e68
  refine kk_aload_n hm.1 0 dX9_init_71 rfl rfl ?_
  obtain ⟨o72, h⟩ := h
  refine kn_new hm.1 nw_X9_50 dX9_init_72 o72 hm.2.2.1 (by decide) (by decide) rfl rfl (fun T72 r72 i72 e72 f72 g72 u72 => ?_)
  have h := h T72 r72 i72 e72 f72 g72
  refine kk_dup hm.1 dX9_init_75 rfl ?_
  refine kk_callIv (cs' := 68) (sl' := 2402) (st := [kw_a n65, kw_a a0]) hm.1 ci_X9_52 (t_X3_init u72 h) dX9_init_76 u72 rfl hm.2.2.1 ⟨by decide, by decide⟩ ⟨by decide, by decide⟩ rfl rfl (Nat.le_of_ble_eq_true rfl) rfl ?_
  rintro T76 n76 r76 i76 _ ⟨rfl, h⟩
  obtain ⟨o79, h⟩ := h
  refine kn_putR hm.1 fp_X9_53 rfl (fun h => hm.2.2.2) dX9_init_79 o79 (fun r79 e79 => ?_)
  have h := h r79 e79
  refine kk_aload_n hm.1 0 dX9_init_82 rfl rfl ?_
  obtain ⟨o83, h⟩ := h
  refine kn_new hm.1 nw_X9_57 dX9_init_83 o83 hm.2.2.1 (by decide) (by decide) rfl rfl (fun T83 r83 i83 e83 f83 g83 u83 => ?_)
  have h := h T83 r83 i83 e83 f83 g83
  refine kk_dup hm.1 dX9_init_86 rfl ?_
  refine kk_callIv (cs' := 81) (sl' := 2786) (st := [kw_a n76, kw_a a0]) hm.1 ci_X9_59 (t_X8_init u83 h) dX9_init_87 u83 rfl hm.2.2.1 ⟨by decide, by decide⟩ ⟨by decide, by decide⟩ rfl rfl (Nat.le_of_ble_eq_true rfl) rfl ?_
  rintro T87 n87 r87 i87 _ ⟨rfl, h⟩
  obtain ⟨o90, h⟩ := h
  refine kn_putR hm.1 fp_X9_60 rfl (fun h => hm.2.2.2) dX9_init_90 o90 (fun r90 e90 => ?_)
  have h := h r90 e90
  refine kk_aload_n hm.1 0 dX9_init_93 rfl rfl ?_
  refine kk_iconst (v := (4 : Int32)) hm.1 dX9_init_94 (by decide) ?_
  obtain ⟨o95, h⟩ := h
  refine kn_newaI (m := 4) hm.1 1 (by decide) (by decide) rfl wa_1 dX9_init_95 (by decide) (by decide) (by decide) o95 hm.2.2.1 (by decide) (by decide) rfl rfl (fun T95 i95 e95 f95 => ?_)
  have h := h T95 i95 e95 f95
  obtain ⟨o97, h⟩ := h
  refine kn_putR hm.1 fp_X9_64 rfl (fun h => hm.2.2.2) dX9_init_97 o97 (fun r97 e97 => ?_)
  have h := h r97 e97
  refine kk_aload_n hm.1 0 dX9_init_100 rfl rfl ?_
  refine kk_iconst (v := (0 : Int32)) hm.1 dX9_init_101 (by decide) ?_
  refine kn_putI hm.1 fp_X9_68 dX9_init_102 o97 (fun i102 e102 => ?_)
  have h := h i102 e102
  refine kk_aload_n hm.1 0 dX9_init_105 rfl rfl ?_
  refine kk_iconst (v := (0 : Int32)) hm.1 dX9_init_106 (by decide) ?_
  refine kn_putI hm.1 fp_X9_72 dX9_init_107 o97 (fun i107 e107 => ?_)
  have h := h i107 e107
  refine kk_aload_n hm.1 0 dX9_init_110 rfl rfl ?_
  refine kk_iconst (v := (-1 : Int32)) hm.1 dX9_init_111 (by decide) ?_
  refine kn_putI hm.1 fp_X9_75 dX9_init_112 o97 (fun i112 e112 => ?_)
  have h := h i112 e112
  refine kk_aload_n hm.1 0 dX9_init_115 rfl rfl ?_
  refine kk_iconst (v := (1 : Int32)) hm.1 dX9_init_116 (by decide) ?_
  refine kn_putZ hm.1 fp_X9_78 dX9_init_117 o97 (Or.inr rfl) (fun i117 e117 => ?_)
  have h := h i117 e117
  exact kk_vret hm.1 hm.2.1 dX9_init_120 ⟨rfl, h⟩
def w_X9_isStretch  (x0 : Int32) (x1 : Int32) (T : kw_T) (n : Nat) (r : kw_R) (i : kw_I) (w : kw_L) (Q : Int32 → Prop) : Prop :=
  (x0 < 0 → Q (0 : Int32)) ∧ (¬ x0 < 0 → ((6 : Int32) ≤ x0 → Q (0 : Int32)) ∧ (¬ (6 : Int32) ≤ x0 → (x1 < (1 : Int32) → Q (0 : Int32)) ∧ (¬ x1 < (1 : Int32) → ((6 : Int32) < x1 → Q (0 : Int32)) ∧ (¬ (6 : Int32) < x1 → ((6 : Int32) < (x0 + x1) → Q (0 : Int32)) ∧ (¬ (6 : Int32) < (x0 + x1) → Q (1 : Int32))))))
abbrev rm_X9_isStretch : Room := { frames := 1, cells := 0, slots := 0, locals := 60 }
set_option maxHeartbeats 4000000 in
set_option maxRecDepth 100000 in
theorem t_X9_isStretch {l : Launch} {G : kw_G} {x0 : Int32} {x1 : Int32} {T : kw_T} {n : Nat} {r : kw_R} {i : kw_I} {w : kw_L} {Q : Int32 → Prop} (h : w_X9_isStretch x0 x1 T n r i w Q) : kw_Met l G yX9_isStretch cX9_isStretch 2 (some .boolean) rm_X9_isStretch [kw_i x0, kw_i x1] (T, n, r, i, w) (kw_PI (fun v T' n' r' i' w' => T = T' ∧ n = n' ∧ r = r' ∧ i = i' ∧ w = w' ∧ Q v)) := by
  refine kw_Met.of (by decide) (Nat.le_of_ble_eq_true rfl) fun E hl hRm hE hT hnm => ?_
  have hm : kw_m E G cX9_isStretch 2 RX9 (some .boolean) rm_X9_isStretch "isStretch" := ⟨hE, hT, hRm, hnm⟩
  subst hl
  show kw_K E G 2 0 0 (kw_Z E G 0 0 (kw_PI (fun v T' n' r' i' w' => T = T' ∧ n = n' ∧ r = r' ∧ i = i' ∧ w = w' ∧ Q v))) 0 [(0, kw_i x0), (1, kw_i x1)] [] T n r i w
  refine kk_iload_n hm.1 0 dX9_isStretch_0 rfl rfl ?_
  refine kk_if_lt (tgt := 33) hm.1 dX9_isStretch_1 (by decide) (fun c1 => ?_) (fun c1 => ?_)
  · have h := h.1 c1
    refine kk_iconst (v := (0 : Int32)) hm.1 dX9_isStretch_33 (by decide) ?_
    exact kk_zret hm.1 hm.2.1 dX9_isStretch_34 (Or.inl rfl) ⟨_, rfl, rfl, rfl, rfl, rfl, rfl, h⟩
  · have h := h.2 c1
    refine kk_iload_n hm.1 0 dX9_isStretch_4 rfl rfl ?_
    refine kk_bipush (v := (6 : Int32)) hm.1 dX9_isStretch_5 (by decide) ?_
    refine kk_icmp_ge (tgt := 33) hm.1 dX9_isStretch_7 (by decide) (fun c7 => ?_) (fun c7 => ?_)
    · have h := h.1 c7
      refine kk_iconst (v := (0 : Int32)) hm.1 dX9_isStretch_33 (by decide) ?_
      exact kk_zret hm.1 hm.2.1 dX9_isStretch_34 (Or.inl rfl) ⟨_, rfl, rfl, rfl, rfl, rfl, rfl, h⟩
    · have h := h.2 c7
      refine kk_iload_n hm.1 1 dX9_isStretch_10 rfl rfl ?_
      refine kk_iconst (v := (1 : Int32)) hm.1 dX9_isStretch_11 (by decide) ?_
      refine kk_icmp_lt (tgt := 33) hm.1 dX9_isStretch_12 (by decide) (fun c12 => ?_) (fun c12 => ?_)
      · have h := h.1 c12
        refine kk_iconst (v := (0 : Int32)) hm.1 dX9_isStretch_33 (by decide) ?_
        exact kk_zret hm.1 hm.2.1 dX9_isStretch_34 (Or.inl rfl) ⟨_, rfl, rfl, rfl, rfl, rfl, rfl, h⟩
      · have h := h.2 c12
        refine kk_iload_n hm.1 1 dX9_isStretch_15 rfl rfl ?_
        refine kk_bipush (v := (6 : Int32)) hm.1 dX9_isStretch_16 (by decide) ?_
        refine kk_icmp_gt (tgt := 33) hm.1 dX9_isStretch_18 (by decide) (fun c18 => ?_) (fun c18 => ?_)
        · have h := h.1 c18
          refine kk_iconst (v := (0 : Int32)) hm.1 dX9_isStretch_33 (by decide) ?_
          exact kk_zret hm.1 hm.2.1 dX9_isStretch_34 (Or.inl rfl) ⟨_, rfl, rfl, rfl, rfl, rfl, rfl, h⟩
        · have h := h.2 c18
          refine kk_iload_n hm.1 0 dX9_isStretch_21 rfl rfl ?_
          refine kk_iload_n hm.1 1 dX9_isStretch_22 rfl rfl ?_
          refine kk_iadd hm.1 dX9_isStretch_23 ?_
          refine kk_bipush (v := (6 : Int32)) hm.1 dX9_isStretch_24 (by decide) ?_
          refine kk_icmp_gt (tgt := 33) hm.1 dX9_isStretch_26 (by decide) (fun c26 => ?_) (fun c26 => ?_)
          · have h := h.1 c26
            refine kk_iconst (v := (0 : Int32)) hm.1 dX9_isStretch_33 (by decide) ?_
            exact kk_zret hm.1 hm.2.1 dX9_isStretch_34 (Or.inl rfl) ⟨_, rfl, rfl, rfl, rfl, rfl, rfl, h⟩
          · have h := h.2 c26
            refine kk_iconst (v := (1 : Int32)) hm.1 dX9_isStretch_29 (by decide) ?_
            refine kk_goto (tgt := 34) hm.1 dX9_isStretch_30 (by decide) ?_
            exact kk_zret hm.1 hm.2.1 dX9_isStretch_34 (Or.inr rfl) ⟨_, rfl, rfl, rfl, rfl, rfl, rfl, h⟩
def w_X9_isKeyhole  (x0 : Int32) (x1 : Int32) (x2 : Int32) (x3 : Int32) (T : kw_T) (n : Nat) (r : kw_R) (i : kw_I) (w : kw_L) (Q : Int32 → Prop) : Prop :=
  w_X9_isStretch x0 x2 T n r i w (fun v2 => (v2 = 0 → Q (0 : Int32)) ∧ (¬ v2 = 0 → w_X9_isStretch x1 x3 T n r i w (fun v10 => (v10 = 0 → Q (0 : Int32)) ∧ (¬ v10 = 0 → Q (1 : Int32)))))
abbrev rm_X9_isKeyhole : Room := { frames := 2, cells := 0, slots := 0, locals := 81 }
set_option maxHeartbeats 4000000 in
set_option maxRecDepth 100000 in
theorem t_X9_isKeyhole {l : Launch} {G : kw_G} {x0 : Int32} {x1 : Int32} {x2 : Int32} {x3 : Int32} {T : kw_T} {n : Nat} {r : kw_R} {i : kw_I} {w : kw_L} {Q : Int32 → Prop} (h : w_X9_isKeyhole x0 x1 x2 x3 T n r i w Q) : kw_Met l G yX9_isKeyhole cX9_isKeyhole 4 (some .boolean) rm_X9_isKeyhole [kw_i x0, kw_i x1, kw_i x2, kw_i x3] (T, n, r, i, w) (kw_PI (fun v T' n' r' i' w' => T = T' ∧ n = n' ∧ r = r' ∧ i = i' ∧ w = w' ∧ Q v)) := by
  refine kw_Met.of (by decide) (Nat.le_of_ble_eq_true rfl) fun E hl hRm hE hT hnm => ?_
  have hm : kw_m E G cX9_isKeyhole 4 RX9 (some .boolean) rm_X9_isKeyhole "isKeyhole" := ⟨hE, hT, hRm, hnm⟩
  subst hl
  show kw_K E G 4 0 0 (kw_Z E G 0 0 (kw_PI (fun v T' n' r' i' w' => T = T' ∧ n = n' ∧ r = r' ∧ i = i' ∧ w = w' ∧ Q v))) 0 [(0, kw_i x0), (1, kw_i x1), (2, kw_i x2), (3, kw_i x3)] [] T n r i w
  refine kk_iload_n hm.1 0 dX9_isKeyhole_0 rfl rfl ?_
  refine kk_iload_n hm.1 2 dX9_isKeyhole_1 rfl rfl ?_
  refine kk_callSi (cs' := 0) (sl' := 0) (st := []) hm.1 cs_X9_256 (t_X9_isStretch h) dX9_isKeyhole_2 rfl hm.2.2.1 ⟨by decide, by decide⟩ ⟨by decide, by decide⟩ rfl rfl (Nat.le_of_ble_eq_true rfl) rfl ?_
  rintro v2 _ _ _ _ _ ⟨rfl, rfl, rfl, rfl, rfl, h⟩
  refine kk_if_eq (tgt := 20) hm.1 dX9_isKeyhole_5 (by decide) (fun c5 => ?_) (fun c5 => ?_)
  · have h := h.1 c5
    refine kk_iconst (v := (0 : Int32)) hm.1 dX9_isKeyhole_20 (by decide) ?_
    exact kk_zret hm.1 hm.2.1 dX9_isKeyhole_21 (Or.inl rfl) ⟨_, rfl, rfl, rfl, rfl, rfl, rfl, h⟩
  · have h := h.2 c5
    refine kk_iload_n hm.1 1 dX9_isKeyhole_8 rfl rfl ?_
    refine kk_iload_n hm.1 3 dX9_isKeyhole_9 rfl rfl ?_
    refine kk_callSi (cs' := 0) (sl' := 0) (st := []) hm.1 cs_X9_256 (t_X9_isStretch h) dX9_isKeyhole_10 rfl hm.2.2.1 ⟨by decide, by decide⟩ ⟨by decide, by decide⟩ rfl rfl (Nat.le_of_ble_eq_true rfl) rfl ?_
    rintro v10 _ _ _ _ _ ⟨rfl, rfl, rfl, rfl, rfl, h⟩
    refine kk_if_eq (tgt := 20) hm.1 dX9_isKeyhole_13 (by decide) (fun c13 => ?_) (fun c13 => ?_)
    · have h := h.1 c13
      refine kk_iconst (v := (0 : Int32)) hm.1 dX9_isKeyhole_20 (by decide) ?_
      exact kk_zret hm.1 hm.2.1 dX9_isKeyhole_21 (Or.inl rfl) ⟨_, rfl, rfl, rfl, rfl, rfl, rfl, h⟩
    · have h := h.2 c13
      refine kk_iconst (v := (1 : Int32)) hm.1 dX9_isKeyhole_16 (by decide) ?_
      refine kk_goto (tgt := 21) hm.1 dX9_isKeyhole_17 (by decide) ?_
      exact kk_zret hm.1 hm.2.1 dX9_isKeyhole_21 (Or.inr rfl) ⟨_, rfl, rfl, rfl, rfl, rfl, rfl, h⟩
