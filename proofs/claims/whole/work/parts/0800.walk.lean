def w_X0_init  (a0 : Nat) (a1 : Nat) (T : kw_T) (n : Nat) (r : kw_R) (i : kw_I) (w : kw_L) (Q : kw_T → Nat → kw_R → kw_I → Prop) : Prop :=
  kw_al n (1 + 2) ∧ (∀ (T8 : kw_T) (r8 : kw_R) (i8 : kw_I), T8 = kw_mT T n 2 36 → r8 = kw_mR r n 2 → i8 = kw_mI i n 2 → (T8 a0 = (0, 0) ∧ (∀ r12 : kw_R, r12 = kw_st r8 a0 2 n → (∀ i17 : kw_I, i17 = kw_st i8 a0 3 (0 : Int32) → (∀ i22 : kw_I, i22 = kw_st i17 a0 4 (-1 : Int32) → (kw_al (n + 3) (1 + 4) ∧ (∀ (T28 : kw_T) (r28 : kw_R) (i28 : kw_I), T28 = kw_mT T8 (n + 3) 4 3 → r28 = kw_mR r12 (n + 3) 4 → i28 = kw_mI i22 (n + 3) 4 → (T28 a0 = (0, 0) ∧ (∀ r32 : kw_R, r32 = kw_st r28 a0 5 (n + 3) → (kw_al ((n + 3) + 5) 1 ∧ (∀ (T37 : kw_T) (i37 : kw_I), T37 = kw_row T28 ((n + 3) + 5) (3, 4) → i37 = kw_row i28 ((n + 3) + 5) (fun _ => 0) → (T37 a0 = (0, 0) ∧ (∀ r39 : kw_R, r39 = kw_st r32 a0 6 ((n + 3) + 5) → (kw_al (((n + 3) + 5) + 1) 1 ∧ (∀ (T44 : kw_T) (i44 : kw_I), T44 = kw_row T37 (((n + 3) + 5) + 1) (1, 3) → i44 = kw_row i37 (((n + 3) + 5) + 1) (fun _ => 0) → (T44 a0 = (0, 0) ∧ (∀ r46 : kw_R, r46 = kw_st r39 a0 7 (((n + 3) + 5) + 1) → (∀ i51 : kw_I, i51 = kw_st i44 a0 8 (0 : Int32) → (kw_al ((((n + 3) + 5) + 1) + 1) 1 ∧ (∀ (T58 : kw_T) (i58 : kw_I), T58 = kw_row T44 ((((n + 3) + 5) + 1) + 1) (1, 360) → i58 = kw_row i51 ((((n + 3) + 5) + 1) + 1) (fun _ => 0) → (T58 a0 = (0, 0) ∧ (∀ r60 : kw_R, r60 = kw_st r46 a0 9 ((((n + 3) + 5) + 1) + 1) → (∀ i65 : kw_I, i65 = kw_st i58 a0 10 (0 : Int32) → (∀ i70 : kw_I, i70 = kw_st i65 a0 11 (0 : Int32) → (∀ r75 : kw_R, r75 = kw_st r60 a0 0 a1 → (T58 a1 = (0, 5) ∧ (∀ r83 : kw_R, r83 = kw_st r75 a0 1 (r75 a1 0) → (Q T58 (((((n + 3) + 5) + 1) + 1) + 1) r83 i70))))))))))))))))))))))))))))
abbrev rm_X0_init : Room := { frames := 1, cells := 11, slots := 457, locals := 60 }
set_option maxHeartbeats 4000000 in
set_option maxRecDepth 100000 in
theorem t_X0_init {l : Launch} {G : kw_G} {a0 : Nat} {a1 : Nat} {T : kw_T} {n : Nat} {r : kw_R} {i : kw_I} {w : kw_L} {Q : kw_T → Nat → kw_R → kw_I → Prop} (h0 : T a0 = (0, 0)) (h : w_X0_init a0 a1 T n r i w Q) : kw_Met l G yX0_init cX0_init 2 none rm_X0_init [kw_a a0, kw_a a1] (T, n, r, i, w) (kw_PV (fun T' n' r' i' w' => w = w' ∧ Q T' n' r' i')) := by
  refine kw_Met.of (by decide) (Nat.le_of_ble_eq_true rfl) fun E hl hRm hE hT hnm => ?_
  have hm : kw_m E G cX0_init 2 RX0 none rm_X0_init "<init>" := ⟨hE, hT, hRm, hnm⟩
  subst hl
  show kw_K E G 2 0 0 (kw_Z E G 11 457 (kw_PV (fun T' n' r' i' w' => w = w' ∧ Q T' n' r' i'))) 0 [(0, kw_a a0), (1, kw_a a1)] [] T n r i w
  refine kk_aload_n hm.1 0 dX0_init_0 rfl rfl ?_
  refine kn_objInit (st := []) hm.1 wm_X0_3 wo_1 wo_2 dX0_init_1 h0 hm.2.2.1 (by decide) (Nat.le_of_ble_eq_true rfl) ?_
  refine kk_aload_n hm.1 0 dX0_init_4 rfl rfl ?_
  refine kk_iconst (v := (2 : Int32)) hm.1 dX0_init_5 (by decide) ?_
  refine kk_bipush (v := (36 : Int32)) hm.1 dX0_init_6 (by decide) ?_
  obtain ⟨o8, h⟩ := h
  refine kn_mna (N := 2) (K := 36) (cs' := 3) (sl' := 74) (n' := n + 3) hm.1 wk_X0_9 wa_1 dX0_init_8 (by decide) (by decide) (by decide) (by decide) (by decide) (by decide) o8 hm.2.2.1 (by decide) (by decide) rfl rfl (by rw [Nat.add_assoc]) (fun T8 r8 i8 e8 f8 g8 => ?_)
  have h := h T8 r8 i8 e8 f8 g8
  obtain ⟨o12, h⟩ := h
  refine kn_putR hm.1 fp_X0_11 rfl (fun h => hm.2.2.2) dX0_init_12 o12 (fun r12 e12 => ?_)
  have h := h r12 e12
  refine kk_aload_n hm.1 0 dX0_init_15 rfl rfl ?_
  refine kk_iconst (v := (0 : Int32)) hm.1 dX0_init_16 (by decide) ?_
  refine kn_putI hm.1 fp_X0_16 dX0_init_17 o12 (fun i17 e17 => ?_)
  have h := h i17 e17
  refine kk_aload_n hm.1 0 dX0_init_20 rfl rfl ?_
  refine kk_iconst (v := (-1 : Int32)) hm.1 dX0_init_21 (by decide) ?_
  refine kn_putI hm.1 fp_X0_20 dX0_init_22 o12 (fun i22 e22 => ?_)
  have h := h i22 e22
  refine kk_aload_n hm.1 0 dX0_init_25 rfl rfl ?_
  refine kk_iconst (v := (4 : Int32)) hm.1 dX0_init_26 (by decide) ?_
  refine kk_iconst (v := (3 : Int32)) hm.1 dX0_init_27 (by decide) ?_
  obtain ⟨o28, h⟩ := h
  refine kn_mna (N := 4) (K := 3) (cs' := 8) (sl' := 90) (n' := (n + 3) + 5) hm.1 wk_X0_9 wa_1 dX0_init_28 (by decide) (by decide) (by decide) (by decide) (by decide) (by decide) o28 hm.2.2.1 (by decide) (by decide) rfl rfl (by rw [Nat.add_assoc]) (fun T28 r28 i28 e28 f28 g28 => ?_)
  have h := h T28 r28 i28 e28 f28 g28
  obtain ⟨o32, h⟩ := h
  refine kn_putR hm.1 fp_X0_23 rfl (fun h => hm.2.2.2) dX0_init_32 o32 (fun r32 e32 => ?_)
  have h := h r32 e32
  refine kk_aload_n hm.1 0 dX0_init_35 rfl rfl ?_
  refine kk_iconst (v := (4 : Int32)) hm.1 dX0_init_36 (by decide) ?_
  obtain ⟨o37, h⟩ := h
  refine kn_newaI (m := 4) hm.1 3 (by decide) (by decide) rfl wa_3 dX0_init_37 (by decide) (by decide) (by decide) o37 hm.2.2.1 (by decide) (by decide) rfl rfl (fun T37 i37 e37 f37 => ?_)
  have h := h T37 i37 e37 f37
  obtain ⟨o39, h⟩ := h
  refine kn_putR hm.1 fp_X0_26 rfl (fun h => hm.2.2.2) dX0_init_39 o39 (fun r39 e39 => ?_)
  have h := h r39 e39
  refine kk_aload_n hm.1 0 dX0_init_42 rfl rfl ?_
  refine kk_iconst (v := (3 : Int32)) hm.1 dX0_init_43 (by decide) ?_
  obtain ⟨o44, h⟩ := h
  refine kn_newaI (m := 3) hm.1 1 (by decide) (by decide) rfl wa_1 dX0_init_44 (by decide) (by decide) (by decide) o44 hm.2.2.1 (by decide) (by decide) rfl rfl (fun T44 i44 e44 f44 => ?_)
  have h := h T44 i44 e44 f44
  obtain ⟨o46, h⟩ := h
  refine kn_putR hm.1 fp_X0_30 rfl (fun h => hm.2.2.2) dX0_init_46 o46 (fun r46 e46 => ?_)
  have h := h r46 e46
  refine kk_aload_n hm.1 0 dX0_init_49 rfl rfl ?_
  refine kk_iconst (v := (0 : Int32)) hm.1 dX0_init_50 (by decide) ?_
  refine kn_putZ hm.1 fp_X0_34 dX0_init_51 o46 (Or.inl rfl) (fun i51 e51 => ?_)
  have h := h i51 e51
  refine kk_aload_n hm.1 0 dX0_init_54 rfl rfl ?_
  refine kk_sipush (v := (360 : Int32)) hm.1 dX0_init_55 (by decide) ?_
  obtain ⟨o58, h⟩ := h
  refine kn_newaI (m := 360) hm.1 1 (by decide) (by decide) rfl wa_1 dX0_init_58 (by decide) (by decide) (by decide) o58 hm.2.2.1 (by decide) (by decide) rfl rfl (fun T58 i58 e58 f58 => ?_)
  have h := h T58 i58 e58 f58
  obtain ⟨o60, h⟩ := h
  refine kn_putR hm.1 fp_X0_38 rfl (fun h => hm.2.2.2) dX0_init_60 o60 (fun r60 e60 => ?_)
  have h := h r60 e60
  refine kk_aload_n hm.1 0 dX0_init_63 rfl rfl ?_
  refine kk_iconst (v := (0 : Int32)) hm.1 dX0_init_64 (by decide) ?_
  refine kn_putI hm.1 fp_X0_41 dX0_init_65 o60 (fun i65 e65 => ?_)
  have h := h i65 e65
  refine kk_aload_n hm.1 0 dX0_init_68 rfl rfl ?_
  refine kk_iconst (v := (0 : Int32)) hm.1 dX0_init_69 (by decide) ?_
  refine kn_putZ hm.1 fp_X0_44 dX0_init_70 o60 (Or.inl rfl) (fun i70 e70 => ?_)
  have h := h i70 e70
  refine kk_aload_n hm.1 0 dX0_init_73 rfl rfl ?_
  refine kk_aload_n hm.1 1 dX0_init_74 rfl rfl ?_
  refine kn_putR hm.1 fp_X0_47 rfl (fun h => hm.2.2.2) dX0_init_75 o60 (fun r75 e75 => ?_)
  have h := h r75 e75
  refine kk_aload_n hm.1 0 dX0_init_78 rfl rfl ?_
  refine kk_aload_n hm.1 1 dX0_init_79 rfl rfl ?_
  obtain ⟨o80, h⟩ := h
  refine kk_getR hm.1 ff_X0_51 dX0_init_80 o80 ?_
  refine kn_putR hm.1 fp_X0_57 rfl (fun h => hm.2.2.2) dX0_init_83 o60 (fun r83 e83 => ?_)
  have h := h r83 e83
  exact kk_vret hm.1 hm.2.1 dX0_init_86 ⟨rfl, rfl, h⟩
def s_X0_forget_2 (a0 : Nat) (T : kw_T) (n : Nat) (r : kw_R) (w : kw_L) (Q : kw_I → Prop)  (k2 : Int32 → kw_I → Prop) (x1 : Int32) (i : kw_I) : Prop :=
  ((3 : Int32) < x1 → ∀ i22 : kw_I, i22 = kw_st i a0 8 (0 : Int32) → (∀ i27 : kw_I, i27 = kw_st i22 a0 11 (0 : Int32) → (Q i27))) ∧ (¬ (3 : Int32) < x1 → kw_in T 3 (r a0 6) x1 ∧ (∀ i13 : kw_I, i13 = kw_st i (r a0 6) (x1).toNatClampNeg (0 : Int32) → (k2 ((x1 + (1 : Int32))) i13)))
def w_X0_forget_2 (a0 : Nat) (T : kw_T) (n : Nat) (r : kw_R) (w : kw_L) (Q : kw_I → Prop)  : Nat → Int32 → kw_I → Prop
  | 0 => fun _ _ => False
  | N + 1 => s_X0_forget_2 a0 T n r w Q  (w_X0_forget_2 a0 T n r w Q  N)
def w_X0_forget  (a0 : Nat) (T : kw_T) (n : Nat) (r : kw_R) (i : kw_I) (w : kw_L) (Q : kw_I → Prop) : Prop :=
  ∃ N, w_X0_forget_2 a0 T n r w Q  N ((0 : Int32)) i
abbrev rm_X0_forget : Room := { frames := 1, cells := 0, slots := 0, locals := 60 }
set_option maxHeartbeats 4000000 in
set_option maxRecDepth 100000 in
theorem qs_X0_forget_2 {a0 : Nat} {T : kw_T} {n : Nat} {r : kw_R} {w : kw_L} {Q : kw_I → Prop} {E : kw_E} {G : kw_G} (hm : kw_m E G cX0_forget 2 RX0 none rm_X0_forget "forget")  (h0 : T a0 = (0, 0))    {k2 : Int32 → kw_I → Prop} (hk2 : ∀ (x1 : Int32) (i : kw_I), k2 x1 i → kw_K E G 2 0 0 (kw_Z E G 0 0 (kw_PV (fun T' n' r' i' w' => T = T' ∧ n = n' ∧ r = r' ∧ w = w' ∧ Q i'))) 2 [(0, kw_a a0), (1, kw_i x1)] [] T n r i w) (x1 : Int32) (i : kw_I) (h : s_X0_forget_2 a0 T n r w Q  k2 x1 i) : kw_K E G 2 0 0 (kw_Z E G 0 0 (kw_PV (fun T' n' r' i' w' => T = T' ∧ n = n' ∧ r = r' ∧ w = w' ∧ Q i'))) 2 [(0, kw_a a0), (1, kw_i x1)] [] T n r i w := by
  refine kk_iload_n hm.1 1 dX0_forget_2 rfl rfl ?_
  refine kk_iconst (v := (3 : Int32)) hm.1 dX0_forget_3 (by decide) ?_
  refine kk_icmp_gt (tgt := 20) hm.1 dX0_forget_4 (by decide) (fun c4 => ?_) (fun c4 => ?_)
  · have h := h.1 c4
    refine kk_aload_n hm.1 0 dX0_forget_20 rfl rfl ?_
    refine kk_iconst (v := (0 : Int32)) hm.1 dX0_forget_21 (by decide) ?_
    refine kn_putZ hm.1 fp_X0_34 dX0_forget_22 h0 (Or.inl rfl) (fun i22 e22 => ?_)
    have h := h i22 e22
    refine kk_aload_n hm.1 0 dX0_forget_25 rfl rfl ?_
    refine kk_iconst (v := (0 : Int32)) hm.1 dX0_forget_26 (by decide) ?_
    refine kn_putZ hm.1 fp_X0_44 dX0_forget_27 h0 (Or.inl rfl) (fun i27 e27 => ?_)
    have h := h i27 e27
    exact kk_vret hm.1 hm.2.1 dX0_forget_30 ⟨rfl, rfl, rfl, rfl, rfl, h⟩
  · have h := h.2 c4
    refine kk_aload_n hm.1 0 dX0_forget_7 rfl rfl ?_
    refine kk_getR hm.1 ff_X0_26 dX0_forget_8 h0 ?_
    refine kk_iload_n hm.1 1 dX0_forget_11 rfl rfl ?_
    refine kk_iconst (v := (0 : Int32)) hm.1 dX0_forget_12 (by decide) ?_
    obtain ⟨o13, h⟩ := h
    refine kn_zastore hm.1 dX0_forget_13 o13 (Or.inl rfl) (fun i13 e13 => ?_)
    have h := h i13 e13
    refine kk_iinc (v := (x1 + (1 : Int32))) (L' := [(1, kw_i (x1 + (1 : Int32))), (0, kw_a a0)]) hm.1 1 dX0_forget_14 rfl rfl (by decide) rfl ?_
    refine kk_goto (tgt := 2) hm.1 dX0_forget_17 (by decide) ?_
    refine kk_loc (L' := [(0, kw_a a0), (1, kw_i (x1 + (1 : Int32)))]) [1, 0] rfl ?_
    exact hk2 ((x1 + (1 : Int32))) i13 h
set_option maxHeartbeats 4000000 in
set_option maxRecDepth 100000 in
theorem q_X0_forget_2 {a0 : Nat} {T : kw_T} {n : Nat} {r : kw_R} {w : kw_L} {Q : kw_I → Prop} {E : kw_E} {G : kw_G} (hm : kw_m E G cX0_forget 2 RX0 none rm_X0_forget "forget")  (h0 : T a0 = (0, 0))    : ∀ (N : Nat) (x1 : Int32) (i : kw_I), w_X0_forget_2 a0 T n r w Q  N x1 i → kw_K E G 2 0 0 (kw_Z E G 0 0 (kw_PV (fun T' n' r' i' w' => T = T' ∧ n = n' ∧ r = r' ∧ w = w' ∧ Q i'))) 2 [(0, kw_a a0), (1, kw_i x1)] [] T n r i w := by
  intro N
  induction N with
  | zero => intro x1 i h; exact h.elim
  | succ N ih => intro x1 i h; exact qs_X0_forget_2 hm  h0  ih x1 i h
set_option maxHeartbeats 4000000 in
set_option maxRecDepth 100000 in
theorem t_X0_forget {l : Launch} {G : kw_G} {a0 : Nat} {T : kw_T} {n : Nat} {r : kw_R} {i : kw_I} {w : kw_L} {Q : kw_I → Prop} (h0 : T a0 = (0, 0)) (h : w_X0_forget a0 T n r i w Q) : kw_Met l G yX0_forget cX0_forget 2 none rm_X0_forget [kw_a a0] (T, n, r, i, w) (kw_PV (fun T' n' r' i' w' => T = T' ∧ n = n' ∧ r = r' ∧ w = w' ∧ Q i')) := by
  refine kw_Met.of (by decide) (Nat.le_of_ble_eq_true rfl) fun E hl hRm hE hT hnm => ?_
  have hm : kw_m E G cX0_forget 2 RX0 none rm_X0_forget "forget" := ⟨hE, hT, hRm, hnm⟩
  subst hl
  show kw_K E G 2 0 0 (kw_Z E G 0 0 (kw_PV (fun T' n' r' i' w' => T = T' ∧ n = n' ∧ r = r' ∧ w = w' ∧ Q i'))) 0 [(0, kw_a a0)] [] T n r i w
  refine kk_iconst (v := (0 : Int32)) hm.1 dX0_forget_0 (by decide) ?_
  refine kk_istore_n (L' := [(1, kw_i (0 : Int32)), (0, kw_a a0)]) hm.1 dX0_forget_1 rfl (by decide) rfl ?_
  refine kk_loc (L' := [(0, kw_a a0), (1, kw_i (0 : Int32))]) [1, 0] rfl ?_
  obtain ⟨N, h⟩ := h
  exact q_X0_forget_2 hm  h0   N ((0 : Int32)) i h
def w_X5_picture  (a0 : Nat) (x1 : Int32) (T : kw_T) (n : Nat) (r : kw_R) (i : kw_I) (w : kw_L) (Q : Nat → Prop) : Prop :=
  (x1 < 0 → kw_in T 5 (r a0 3) (0 : Int32) ∧ (Q (r (r a0 3) ((0 : Int32)).toNatClampNeg))) ∧ (¬ x1 < 0 → T ((r a0 0)) = (0, 2) ∧ (((i (r a0 0) 5) ≤ x1 → kw_in T 5 (r a0 3) (0 : Int32) ∧ (Q (r (r a0 3) ((0 : Int32)).toNatClampNeg))) ∧ (¬ (i (r a0 0) 5) ≤ x1 → kw_in T 5 (r a0 1) x1 ∧ (Q (r (r a0 1) (x1).toNatClampNeg)))))
abbrev rm_X5_picture : Room := { frames := 1, cells := 0, slots := 0, locals := 60 }
set_option maxHeartbeats 4000000 in
set_option maxRecDepth 100000 in
theorem t_X5_picture {l : Launch} {G : kw_G} {a0 : Nat} {x1 : Int32} {T : kw_T} {n : Nat} {r : kw_R} {i : kw_I} {w : kw_L} {Q : Nat → Prop} (h0 : T a0 = (0, 5)) (h : w_X5_picture a0 x1 T n r i w Q) : kw_Met l G yX5_picture cX5_picture 2 (some (.array .int)) rm_X5_picture [kw_a a0, kw_i x1] (T, n, r, i, w) (kw_PA (fun v T' n' r' i' w' => T = T' ∧ n = n' ∧ r = r' ∧ i = i' ∧ w = w' ∧ Q v)) := by
  refine kw_Met.of (by decide) (Nat.le_of_ble_eq_true rfl) fun E hl hRm hE hT hnm => ?_
  have hm : kw_m E G cX5_picture 2 RX5 (some (.array .int)) rm_X5_picture "picture" := ⟨hE, hT, hRm, hnm⟩
  subst hl
  show kw_K E G 2 0 0 (kw_Z E G 0 0 (kw_PA (fun v T' n' r' i' w' => T = T' ∧ n = n' ∧ r = r' ∧ i = i' ∧ w = w' ∧ Q v))) 0 [(0, kw_a a0), (1, kw_i x1)] [] T n r i w
  refine kk_iload_n hm.1 1 dX5_picture_0 rfl rfl ?_
  refine kk_if_lt (tgt := 24) hm.1 dX5_picture_1 (by decide) (fun c1 => ?_) (fun c1 => ?_)
  · have h := h.1 c1
    refine kk_aload_n hm.1 0 dX5_picture_24 rfl rfl ?_
    refine kk_getR hm.1 ff_X5_26 dX5_picture_25 h0 ?_
    refine kk_iconst (v := (0 : Int32)) hm.1 dX5_picture_28 (by decide) ?_
    obtain ⟨o29, h⟩ := h
    refine kk_aaload hm.1 5 (by decide) (by decide) rfl rfl dX5_picture_29 o29 ?_
    exact kk_aret hm.1 hm.2.1 (by first | exact Or.inl ⟨_, rfl⟩ | exact Or.inr ⟨_, rfl⟩) dX5_picture_30 ⟨_, rfl, rfl, rfl, rfl, rfl, rfl, h⟩
  · have h := h.2 c1
    refine kk_iload_n hm.1 1 dX5_picture_4 rfl rfl ?_
    refine kk_aload_n hm.1 0 dX5_picture_5 rfl rfl ?_
    refine kk_getR hm.1 ff_X5_12 dX5_picture_6 h0 ?_
    obtain ⟨o9, h⟩ := h
    refine kk_getI hm.1 ff_X5_42 dX5_picture_9 o9 ?_
    refine kk_icmp_ge (tgt := 24) hm.1 dX5_picture_12 (by decide) (fun c12 => ?_) (fun c12 => ?_)
    · have h := h.1 c12
      refine kk_aload_n hm.1 0 dX5_picture_24 rfl rfl ?_
      refine kk_getR hm.1 ff_X5_26 dX5_picture_25 h0 ?_
      refine kk_iconst (v := (0 : Int32)) hm.1 dX5_picture_28 (by decide) ?_
      obtain ⟨o29, h⟩ := h
      refine kk_aaload hm.1 5 (by decide) (by decide) rfl rfl dX5_picture_29 o29 ?_
      exact kk_aret hm.1 hm.2.1 (by first | exact Or.inl ⟨_, rfl⟩ | exact Or.inr ⟨_, rfl⟩) dX5_picture_30 ⟨_, rfl, rfl, rfl, rfl, rfl, rfl, h⟩
    · have h := h.2 c12
      refine kk_aload_n hm.1 0 dX5_picture_15 rfl rfl ?_
      refine kk_getR hm.1 ff_X5_20 dX5_picture_16 h0 ?_
      refine kk_iload_n hm.1 1 dX5_picture_19 rfl rfl ?_
      obtain ⟨o20, h⟩ := h
      refine kk_aaload hm.1 5 (by decide) (by decide) rfl rfl dX5_picture_20 o20 ?_
      refine kk_goto (tgt := 30) hm.1 dX5_picture_21 (by decide) ?_
      exact kk_aret hm.1 hm.2.1 (by first | exact Or.inl ⟨_, rfl⟩ | exact Or.inr ⟨_, rfl⟩) dX5_picture_30 ⟨_, rfl, rfl, rfl, rfl, rfl, rfl, h⟩
def w_X2_sees  (a0 : Nat) (x1 : Int32) (x2 : Int32) (T : kw_T) (n : Nat) (r : kw_R) (i : kw_I) (w : kw_L) (Q : Int32 → Prop) : Prop :=
  (¬ (((i a0 6) >>> (x1 &&& 31)) &&& (1 : Int32)) = 0 → Q (1 : Int32)) ∧ ((((i a0 6) >>> (x1 &&& 31)) &&& (1 : Int32)) = 0 → kw_in T 4 (r a0 0) x1 ∧ (((lg_cmp (((w (r a0 0) (x1).toNatClampNeg) >>> (x2.toInt64 &&& 63)) &&& (1 : Int64)) (0 : Int64)) = 0 → Q (0 : Int32)) ∧ (¬ (lg_cmp (((w (r a0 0) (x1).toNatClampNeg) >>> (x2.toInt64 &&& 63)) &&& (1 : Int64)) (0 : Int64)) = 0 → Q (1 : Int32))))
abbrev rm_X2_sees : Room := { frames := 1, cells := 0, slots := 0, locals := 60 }
set_option maxHeartbeats 4000000 in
set_option maxRecDepth 100000 in
theorem t_X2_sees {l : Launch} {G : kw_G} {a0 : Nat} {x1 : Int32} {x2 : Int32} {T : kw_T} {n : Nat} {r : kw_R} {i : kw_I} {w : kw_L} {Q : Int32 → Prop} (h0 : T a0 = (0, 2)) (h : w_X2_sees a0 x1 x2 T n r i w Q) : kw_Met l G yX2_sees cX2_sees 3 (some .boolean) rm_X2_sees [kw_a a0, kw_i x1, kw_i x2] (T, n, r, i, w) (kw_PI (fun v T' n' r' i' w' => T = T' ∧ n = n' ∧ r = r' ∧ i = i' ∧ w = w' ∧ Q v)) := by
  refine kw_Met.of (by decide) (Nat.le_of_ble_eq_true rfl) fun E hl hRm hE hT hnm => ?_
  have hm : kw_m E G cX2_sees 3 RX2 (some .boolean) rm_X2_sees "sees" := ⟨hE, hT, hRm, hnm⟩
  subst hl
  show kw_K E G 3 0 0 (kw_Z E G 0 0 (kw_PI (fun v T' n' r' i' w' => T = T' ∧ n = n' ∧ r = r' ∧ i = i' ∧ w = w' ∧ Q v))) 0 [(0, kw_a a0), (1, kw_i x1), (2, kw_i x2)] [] T n r i w
  refine kk_aload_n hm.1 0 dX2_sees_0 rfl rfl ?_
  refine kk_getI hm.1 ff_X2_32 dX2_sees_1 h0 ?_
  refine kk_iload_n hm.1 1 dX2_sees_4 rfl rfl ?_
  refine kk_ishr hm.1 dX2_sees_5 ?_
  refine kk_iconst (v := (1 : Int32)) hm.1 dX2_sees_6 (by decide) ?_
  refine kk_iand hm.1 dX2_sees_7 ?_
  refine kk_if_ne (tgt := 26) hm.1 dX2_sees_8 (by decide) (fun c8 => ?_) (fun c8 => ?_)
  · have h := h.1 c8
    refine kk_iconst (v := (1 : Int32)) hm.1 dX2_sees_26 (by decide) ?_
    refine kk_goto (tgt := 31) hm.1 dX2_sees_27 (by decide) ?_
    exact kk_zret hm.1 hm.2.1 dX2_sees_31 (Or.inr rfl) ⟨_, rfl, rfl, rfl, rfl, rfl, rfl, h⟩
  · have h := h.2 c8
    refine kk_aload_n hm.1 0 dX2_sees_11 rfl rfl ?_
    refine kk_getR hm.1 ff_X2_9 dX2_sees_12 h0 ?_
    refine kk_iload_n hm.1 1 dX2_sees_15 rfl rfl ?_
    obtain ⟨o16, h⟩ := h
    refine kk_laload hm.1 dX2_sees_16 o16 ?_
    refine kk_iload_n hm.1 2 dX2_sees_17 rfl rfl ?_
    refine kk_lshr hm.1 dX2_sees_18 ?_
    refine kk_lconst (v := (1 : Int64)) hm.1 dX2_sees_19 (by decide) ?_
    refine kk_land hm.1 dX2_sees_20 ?_
    refine kk_lconst (v := (0 : Int64)) hm.1 dX2_sees_21 (by decide) ?_
    refine kk_lcmp hm.1 dX2_sees_22 ?_
    refine kk_if_eq (tgt := 30) hm.1 dX2_sees_23 (by decide) (fun c23 => ?_) (fun c23 => ?_)
    · have h := h.1 c23
      refine kk_iconst (v := (0 : Int32)) hm.1 dX2_sees_30 (by decide) ?_
      exact kk_zret hm.1 hm.2.1 dX2_sees_31 (Or.inl rfl) ⟨_, rfl, rfl, rfl, rfl, rfl, rfl, h⟩
    · have h := h.2 c23
      refine kk_iconst (v := (1 : Int32)) hm.1 dX2_sees_26 (by decide) ?_
      refine kk_goto (tgt := 31) hm.1 dX2_sees_27 (by decide) ?_
      exact kk_zret hm.1 hm.2.1 dX2_sees_31 (Or.inr rfl) ⟨_, rfl, rfl, rfl, rfl, rfl, rfl, h⟩
def w_X2_combine_156 (a0 : Nat) (x1 : Int32) (x2 : Int32) (T : kw_T) (n : Nat) (r : kw_R) (i : kw_I) (Q : Int32 → kw_L → Prop)  (l7 : Int64) (w : kw_L) : Prop :=
  kw_in T 4 (r a0 3) (x2 - (2 : Int32)) ∧ (∀ w165 : kw_L, w165 = kw_st w (r a0 3) ((x2 - (2 : Int32))).toNatClampNeg l7 → ((0 < (lg_cmp l7 (1000000000 : Int64)) → Q (0 : Int32) w165) ∧ (¬ 0 < (lg_cmp l7 (1000000000 : Int64)) → ((lg_cmp l7 (-1000000000 : Int64)) < 0 → Q (0 : Int32) w165) ∧ (¬ (lg_cmp l7 (-1000000000 : Int64)) < 0 → Q (1 : Int32) w165))))
def w_X2_combine_120 (a0 : Nat) (x1 : Int32) (x2 : Int32) (T : kw_T) (n : Nat) (r : kw_R) (i : kw_I) (Q : Int32 → kw_L → Prop)  (s0 : Int64) (w : kw_L) : Prop :=
  w_X2_combine_156 a0 x1 x2 T n r i Q  s0 w
def w_X2_combine_137 (a0 : Nat) (x1 : Int32) (x2 : Int32) (T : kw_T) (n : Nat) (r : kw_R) (i : kw_I) (Q : Int32 → kw_L → Prop)  (s0 : Int64) (w : kw_L) : Prop :=
  w_X2_combine_156 a0 x1 x2 T n r i Q  s0 w
def w_X2_combine_154 (a0 : Nat) (x1 : Int32) (x2 : Int32) (T : kw_T) (n : Nat) (r : kw_R) (i : kw_I) (Q : Int32 → kw_L → Prop)  (s0 : Int64) (w : kw_L) : Prop :=
  w_X2_combine_156 a0 x1 x2 T n r i Q  s0 w
def w_X2_combine_33 (a0 : Nat) (x1 : Int32) (x2 : Int32) (T : kw_T) (n : Nat) (r : kw_R) (i : kw_I) (Q : Int32 → kw_L → Prop)  (l3 : Int64) (l5 : Int64) (w : kw_L) : Prop :=
  (x1 = (2 : Int32) → w_X2_combine_156 a0 x1 x2 T n r i Q  ((l3 + l5)) w) ∧ (x1 = (3 : Int32) → w_X2_combine_156 a0 x1 x2 T n r i Q  ((l3 - l5)) w) ∧ (x1 = (4 : Int32) → w_X2_combine_156 a0 x1 x2 T n r i Q  ((l3 * l5)) w) ∧ (x1 = (5 : Int32) → (¬ l5 = 0) ∧ (w_X2_combine_156 a0 x1 x2 T n r i Q  ((l3 / l5)) w)) ∧ (x1 = (6 : Int32) → (0 ≤ (lg_cmp l3 l5) → w_X2_combine_120 a0 x1 x2 T n r i Q  ((0 : Int64)) w) ∧ (¬ 0 ≤ (lg_cmp l3 l5) → w_X2_combine_120 a0 x1 x2 T n r i Q  ((1 : Int64)) w)) ∧ (x1 = (7 : Int32) → ((lg_cmp l3 l5) ≤ 0 → w_X2_combine_137 a0 x1 x2 T n r i Q  ((0 : Int64)) w) ∧ (¬ (lg_cmp l3 l5) ≤ 0 → w_X2_combine_137 a0 x1 x2 T n r i Q  ((1 : Int64)) w)) ∧ ((x1.toInt < 2 ∨ 7 < x1.toInt) → (¬ (lg_cmp l3 l5) = 0 → w_X2_combine_154 a0 x1 x2 T n r i Q  ((0 : Int64)) w) ∧ ((lg_cmp l3 l5) = 0 → w_X2_combine_154 a0 x1 x2 T n r i Q  ((1 : Int64)) w))
def w_X2_combine  (a0 : Nat) (x1 : Int32) (x2 : Int32) (T : kw_T) (n : Nat) (r : kw_R) (i : kw_I) (w : kw_L) (Q : Int32 → kw_L → Prop) : Prop :=
  kw_in T 4 (r a0 3) (x2 - (2 : Int32)) ∧ (kw_in T 4 (r a0 3) (x2 - (1 : Int32)) ∧ ((¬ x1 = (5 : Int32) → w_X2_combine_33 a0 x1 x2 T n r i Q  ((w (r a0 3) ((x2 - (2 : Int32))).toNatClampNeg)) ((w (r a0 3) ((x2 - (1 : Int32))).toNatClampNeg)) w) ∧ (x1 = (5 : Int32) → (¬ (lg_cmp (w (r a0 3) ((x2 - (1 : Int32))).toNatClampNeg) (0 : Int64)) = 0 → w_X2_combine_33 a0 x1 x2 T n r i Q  ((w (r a0 3) ((x2 - (2 : Int32))).toNatClampNeg)) ((w (r a0 3) ((x2 - (1 : Int32))).toNatClampNeg)) w) ∧ ((lg_cmp (w (r a0 3) ((x2 - (1 : Int32))).toNatClampNeg) (0 : Int64)) = 0 → Q (0 : Int32) w))))
abbrev rm_X2_combine : Room := { frames := 1, cells := 0, slots := 0, locals := 60 }
set_option maxHeartbeats 4000000 in
set_option maxRecDepth 100000 in
theorem q_X2_combine_156 {a0 : Nat} {x1 : Int32} {x2 : Int32} {T : kw_T} {n : Nat} {r : kw_R} {i : kw_I} {Q : Int32 → kw_L → Prop} {E : kw_E} {G : kw_G} (hm : kw_m E G cX2_combine 9 RX2 (some .boolean) rm_X2_combine "combine")  (h0 : T a0 = (0, 2))    (l7 : Int64) (w : kw_L) (h : w_X2_combine_156 a0 x1 x2 T n r i Q  l7 w) : kw_K E G 9 0 0 (kw_Z E G 0 0 (kw_PI (fun v T' n' r' i' w' => T = T' ∧ n = n' ∧ r = r' ∧ i = i' ∧ Q v w'))) 156 [(0, kw_a a0), (1, kw_i x1), (2, kw_i x2), (7, kw_l l7)] [] T n r i w := by
  refine kk_aload_n hm.1 0 dX2_combine_156 rfl rfl ?_
  refine kk_getR hm.1 ff_X2_22 dX2_combine_157 h0 ?_
  refine kk_iload_n hm.1 2 dX2_combine_160 rfl rfl ?_
  refine kk_iconst (v := (2 : Int32)) hm.1 dX2_combine_161 (by decide) ?_
  refine kk_isub hm.1 dX2_combine_162 ?_
  refine kk_lload hm.1 3 dX2_combine_163 rfl ?_
  obtain ⟨o165, h⟩ := h
  refine kn_lastore hm.1 dX2_combine_165 o165 (fun w165 e165 => ?_)
  have h := h w165 e165
  refine kk_lload hm.1 3 dX2_combine_166 rfl ?_
  refine kk_ldc2 (v := (1000000000 : Int64)) hm.1 dX2_combine_168 wl_X2_97 ?_
  refine kk_lcmp hm.1 dX2_combine_171 ?_
  refine kk_if_gt (tgt := 188) hm.1 dX2_combine_172 (by decide) (fun c172 => ?_) (fun c172 => ?_)
  · have h := h.1 c172
    refine kk_iconst (v := (0 : Int32)) hm.1 dX2_combine_188 (by decide) ?_
    exact kk_zret hm.1 hm.2.1 dX2_combine_189 (Or.inl rfl) ⟨_, rfl, rfl, rfl, rfl, rfl, h⟩
  · have h := h.2 c172
    refine kk_lload hm.1 3 dX2_combine_175 rfl ?_
    refine kk_ldc2 (v := (-1000000000 : Int64)) hm.1 dX2_combine_177 wl_X2_99 ?_
    refine kk_lcmp hm.1 dX2_combine_180 ?_
    refine kk_if_lt (tgt := 188) hm.1 dX2_combine_181 (by decide) (fun c181 => ?_) (fun c181 => ?_)
    · have h := h.1 c181
      refine kk_iconst (v := (0 : Int32)) hm.1 dX2_combine_188 (by decide) ?_
      exact kk_zret hm.1 hm.2.1 dX2_combine_189 (Or.inl rfl) ⟨_, rfl, rfl, rfl, rfl, rfl, h⟩
    · have h := h.2 c181
      refine kk_iconst (v := (1 : Int32)) hm.1 dX2_combine_184 (by decide) ?_
      refine kk_goto (tgt := 189) hm.1 dX2_combine_185 (by decide) ?_
      exact kk_zret hm.1 hm.2.1 dX2_combine_189 (Or.inr rfl) ⟨_, rfl, rfl, rfl, rfl, rfl, h⟩
set_option maxHeartbeats 4000000 in
set_option maxRecDepth 100000 in
theorem q_X2_combine_120 {a0 : Nat} {x1 : Int32} {x2 : Int32} {T : kw_T} {n : Nat} {r : kw_R} {i : kw_I} {Q : Int32 → kw_L → Prop} {E : kw_E} {G : kw_G} (hm : kw_m E G cX2_combine 9 RX2 (some .boolean) rm_X2_combine "combine")  (h0 : T a0 = (0, 2))    (s0 : Int64) (w : kw_L) (h : w_X2_combine_120 a0 x1 x2 T n r i Q  s0 w) : kw_K E G 9 0 0 (kw_Z E G 0 0 (kw_PI (fun v T' n' r' i' w' => T = T' ∧ n = n' ∧ r = r' ∧ i = i' ∧ Q v w'))) 120 [(0, kw_a a0), (1, kw_i x1), (2, kw_i x2)] [kw_l s0] T n r i w := by
  refine kk_lstore (L' := [(7, kw_l s0), (0, kw_a a0), (1, kw_i x1), (2, kw_i x2)]) hm.1 dX2_combine_120 (by decide) rfl ?_
  refine kk_goto (tgt := 156) hm.1 dX2_combine_122 (by decide) ?_
  refine kk_loc (L' := [(0, kw_a a0), (1, kw_i x1), (2, kw_i x2), (7, kw_l s0)]) [1, 2, 3, 0] rfl ?_
  exact q_X2_combine_156 hm  h0   s0 w h
set_option maxHeartbeats 4000000 in
set_option maxRecDepth 100000 in
theorem q_X2_combine_137 {a0 : Nat} {x1 : Int32} {x2 : Int32} {T : kw_T} {n : Nat} {r : kw_R} {i : kw_I} {Q : Int32 → kw_L → Prop} {E : kw_E} {G : kw_G} (hm : kw_m E G cX2_combine 9 RX2 (some .boolean) rm_X2_combine "combine")  (h0 : T a0 = (0, 2))    (s0 : Int64) (w : kw_L) (h : w_X2_combine_137 a0 x1 x2 T n r i Q  s0 w) : kw_K E G 9 0 0 (kw_Z E G 0 0 (kw_PI (fun v T' n' r' i' w' => T = T' ∧ n = n' ∧ r = r' ∧ i = i' ∧ Q v w'))) 137 [(0, kw_a a0), (1, kw_i x1), (2, kw_i x2)] [kw_l s0] T n r i w := by
  refine kk_lstore (L' := [(7, kw_l s0), (0, kw_a a0), (1, kw_i x1), (2, kw_i x2)]) hm.1 dX2_combine_137 (by decide) rfl ?_
  refine kk_goto (tgt := 156) hm.1 dX2_combine_139 (by decide) ?_
  refine kk_loc (L' := [(0, kw_a a0), (1, kw_i x1), (2, kw_i x2), (7, kw_l s0)]) [1, 2, 3, 0] rfl ?_
  exact q_X2_combine_156 hm  h0   s0 w h
set_option maxHeartbeats 4000000 in
set_option maxRecDepth 100000 in
theorem q_X2_combine_154 {a0 : Nat} {x1 : Int32} {x2 : Int32} {T : kw_T} {n : Nat} {r : kw_R} {i : kw_I} {Q : Int32 → kw_L → Prop} {E : kw_E} {G : kw_G} (hm : kw_m E G cX2_combine 9 RX2 (some .boolean) rm_X2_combine "combine")  (h0 : T a0 = (0, 2))    (s0 : Int64) (w : kw_L) (h : w_X2_combine_154 a0 x1 x2 T n r i Q  s0 w) : kw_K E G 9 0 0 (kw_Z E G 0 0 (kw_PI (fun v T' n' r' i' w' => T = T' ∧ n = n' ∧ r = r' ∧ i = i' ∧ Q v w'))) 154 [(0, kw_a a0), (1, kw_i x1), (2, kw_i x2)] [kw_l s0] T n r i w := by
  refine kk_lstore (L' := [(7, kw_l s0), (0, kw_a a0), (1, kw_i x1), (2, kw_i x2)]) hm.1 dX2_combine_154 (by decide) rfl ?_
  refine kk_loc (L' := [(0, kw_a a0), (1, kw_i x1), (2, kw_i x2), (7, kw_l s0)]) [1, 2, 3, 0] rfl ?_
  exact q_X2_combine_156 hm  h0   s0 w h
set_option maxHeartbeats 4000000 in
set_option maxRecDepth 100000 in
theorem q_X2_combine_33 {a0 : Nat} {x1 : Int32} {x2 : Int32} {T : kw_T} {n : Nat} {r : kw_R} {i : kw_I} {Q : Int32 → kw_L → Prop} {E : kw_E} {G : kw_G} (hm : kw_m E G cX2_combine 9 RX2 (some .boolean) rm_X2_combine "combine")  (h0 : T a0 = (0, 2))    (l3 : Int64) (l5 : Int64) (w : kw_L) (h : w_X2_combine_33 a0 x1 x2 T n r i Q  l3 l5 w) : kw_K E G 9 0 0 (kw_Z E G 0 0 (kw_PI (fun v T' n' r' i' w' => T = T' ∧ n = n' ∧ r = r' ∧ i = i' ∧ Q v w'))) 33 [(0, kw_a a0), (1, kw_i x1), (2, kw_i x2), (3, kw_l l3), (5, kw_l l5)] [] T n r i w := by
  refine kk_iload_n hm.1 1 dX2_combine_33 rfl rfl ?_
  by_cases c34_2 : x1 = (2 : Int32)
  · have h := h.1 c34_2
    refine kk_tin (tgt := 72) hm.1 dX2_combine_34 (by rw [c34_2]; decide) (by rw [c34_2]; decide) (by rw [c34_2]; rfl) (by decide) ?_
    refine kk_lload_n hm.1 3 dX2_combine_72 rfl rfl ?_
    refine kk_lload hm.1 4 dX2_combine_73 rfl ?_
    refine kk_ladd hm.1 dX2_combine_75 ?_
    refine kk_lstore (L' := [(7, kw_l (l3 + l5)), (0, kw_a a0), (1, kw_i x1), (2, kw_i x2), (3, kw_l l3), (5, kw_l l5)]) hm.1 dX2_combine_76 (by decide) rfl ?_
    refine kk_goto (tgt := 156) hm.1 dX2_combine_78 (by decide) ?_
    refine kk_loc (L' := [(0, kw_a a0), (1, kw_i x1), (2, kw_i x2), (7, kw_l (l3 + l5))]) [1, 2, 3, 0] rfl ?_
    exact q_X2_combine_156 hm  h0   ((l3 + l5)) w h
  by_cases c34_3 : x1 = (3 : Int32)
  · have h := h.2.1 c34_3
    refine kk_tin (tgt := 81) hm.1 dX2_combine_34 (by rw [c34_3]; decide) (by rw [c34_3]; decide) (by rw [c34_3]; rfl) (by decide) ?_
    refine kk_lload_n hm.1 3 dX2_combine_81 rfl rfl ?_
    refine kk_lload hm.1 4 dX2_combine_82 rfl ?_
    refine kk_lsub hm.1 dX2_combine_84 ?_
    refine kk_lstore (L' := [(7, kw_l (l3 - l5)), (0, kw_a a0), (1, kw_i x1), (2, kw_i x2), (3, kw_l l3), (5, kw_l l5)]) hm.1 dX2_combine_85 (by decide) rfl ?_
    refine kk_goto (tgt := 156) hm.1 dX2_combine_87 (by decide) ?_
    refine kk_loc (L' := [(0, kw_a a0), (1, kw_i x1), (2, kw_i x2), (7, kw_l (l3 - l5))]) [1, 2, 3, 0] rfl ?_
    exact q_X2_combine_156 hm  h0   ((l3 - l5)) w h
  by_cases c34_4 : x1 = (4 : Int32)
  · have h := h.2.2.1 c34_4
    refine kk_tin (tgt := 90) hm.1 dX2_combine_34 (by rw [c34_4]; decide) (by rw [c34_4]; decide) (by rw [c34_4]; rfl) (by decide) ?_
    refine kk_lload_n hm.1 3 dX2_combine_90 rfl rfl ?_
    refine kk_lload hm.1 4 dX2_combine_91 rfl ?_
    refine kk_lmul hm.1 dX2_combine_93 ?_
    refine kk_lstore (L' := [(7, kw_l (l3 * l5)), (0, kw_a a0), (1, kw_i x1), (2, kw_i x2), (3, kw_l l3), (5, kw_l l5)]) hm.1 dX2_combine_94 (by decide) rfl ?_
    refine kk_goto (tgt := 156) hm.1 dX2_combine_96 (by decide) ?_
    refine kk_loc (L' := [(0, kw_a a0), (1, kw_i x1), (2, kw_i x2), (7, kw_l (l3 * l5))]) [1, 2, 3, 0] rfl ?_
    exact q_X2_combine_156 hm  h0   ((l3 * l5)) w h
  by_cases c34_5 : x1 = (5 : Int32)
  · have h := h.2.2.2.1 c34_5
    refine kk_tin (tgt := 99) hm.1 dX2_combine_34 (by rw [c34_5]; decide) (by rw [c34_5]; decide) (by rw [c34_5]; rfl) (by decide) ?_
    refine kk_lload_n hm.1 3 dX2_combine_99 rfl rfl ?_
    refine kk_lload hm.1 4 dX2_combine_100 rfl ?_
    obtain ⟨o102, h⟩ := h
    refine kk_ldiv hm.1 dX2_combine_102 o102 ?_
    refine kk_lstore (L' := [(7, kw_l (l3 / l5)), (0, kw_a a0), (1, kw_i x1), (2, kw_i x2), (3, kw_l l3), (5, kw_l l5)]) hm.1 dX2_combine_103 (by decide) rfl ?_
    refine kk_goto (tgt := 156) hm.1 dX2_combine_105 (by decide) ?_
    refine kk_loc (L' := [(0, kw_a a0), (1, kw_i x1), (2, kw_i x2), (7, kw_l (l3 / l5))]) [1, 2, 3, 0] rfl ?_
    exact q_X2_combine_156 hm  h0   ((l3 / l5)) w h
  by_cases c34_6 : x1 = (6 : Int32)
  · have h := h.2.2.2.2.1 c34_6
    refine kk_tin (tgt := 108) hm.1 dX2_combine_34 (by rw [c34_6]; decide) (by rw [c34_6]; decide) (by rw [c34_6]; rfl) (by decide) ?_
    refine kk_lload_n hm.1 3 dX2_combine_108 rfl rfl ?_
    refine kk_lload hm.1 4 dX2_combine_109 rfl ?_
    refine kk_lcmp hm.1 dX2_combine_111 ?_
    refine kk_if_ge (tgt := 119) hm.1 dX2_combine_112 (by decide) (fun c112 => ?_) (fun c112 => ?_)
    · have h := h.1 c112
      refine kk_lconst (v := (0 : Int64)) hm.1 dX2_combine_119 (by decide) ?_
      refine kk_loc (L' := [(0, kw_a a0), (1, kw_i x1), (2, kw_i x2)]) [0, 1, 2] rfl ?_
      exact q_X2_combine_120 hm  h0   ((0 : Int64)) w h
    · have h := h.2 c112
      refine kk_lconst (v := (1 : Int64)) hm.1 dX2_combine_115 (by decide) ?_
      refine kk_goto (tgt := 120) hm.1 dX2_combine_116 (by decide) ?_
      refine kk_loc (L' := [(0, kw_a a0), (1, kw_i x1), (2, kw_i x2)]) [0, 1, 2] rfl ?_
      exact q_X2_combine_120 hm  h0   ((1 : Int64)) w h
  by_cases c34_7 : x1 = (7 : Int32)
  · have h := h.2.2.2.2.2.1 c34_7
    refine kk_tin (tgt := 125) hm.1 dX2_combine_34 (by rw [c34_7]; decide) (by rw [c34_7]; decide) (by rw [c34_7]; rfl) (by decide) ?_
    refine kk_lload_n hm.1 3 dX2_combine_125 rfl rfl ?_
    refine kk_lload hm.1 4 dX2_combine_126 rfl ?_
    refine kk_lcmp hm.1 dX2_combine_128 ?_
    refine kk_if_le (tgt := 136) hm.1 dX2_combine_129 (by decide) (fun c129 => ?_) (fun c129 => ?_)
    · have h := h.1 c129
      refine kk_lconst (v := (0 : Int64)) hm.1 dX2_combine_136 (by decide) ?_
      refine kk_loc (L' := [(0, kw_a a0), (1, kw_i x1), (2, kw_i x2)]) [0, 1, 2] rfl ?_
      exact q_X2_combine_137 hm  h0   ((0 : Int64)) w h
    · have h := h.2 c129
      refine kk_lconst (v := (1 : Int64)) hm.1 dX2_combine_132 (by decide) ?_
      refine kk_goto (tgt := 137) hm.1 dX2_combine_133 (by decide) ?_
      refine kk_loc (L' := [(0, kw_a a0), (1, kw_i x1), (2, kw_i x2)]) [0, 1, 2] rfl ?_
      exact q_X2_combine_137 hm  h0   ((1 : Int64)) w h
  have c34 : x1.toInt < 2 ∨ 7 < x1.toInt := by
    have e2 := lv_neT c34_2 (a := 2) rfl
    have e3 := lv_neT c34_3 (a := 3) rfl
    have e4 := lv_neT c34_4 (a := 4) rfl
    have e5 := lv_neT c34_5 (a := 5) rfl
    have e6 := lv_neT c34_6 (a := 6) rfl
    have e7 := lv_neT c34_7 (a := 7) rfl
    omega
  have h := h.2.2.2.2.2.2 c34
  refine kk_tout (tgt := 142) hm.1 dX2_combine_34 c34 (by decide) ?_
  refine kk_lload_n hm.1 3 dX2_combine_142 rfl rfl ?_
  refine kk_lload hm.1 4 dX2_combine_143 rfl ?_
  refine kk_lcmp hm.1 dX2_combine_145 ?_
  refine kk_if_ne (tgt := 153) hm.1 dX2_combine_146 (by decide) (fun c146 => ?_) (fun c146 => ?_)
  · have h := h.1 c146
    refine kk_lconst (v := (0 : Int64)) hm.1 dX2_combine_153 (by decide) ?_
    refine kk_loc (L' := [(0, kw_a a0), (1, kw_i x1), (2, kw_i x2)]) [0, 1, 2] rfl ?_
    exact q_X2_combine_154 hm  h0   ((0 : Int64)) w h
  · have h := h.2 c146
    refine kk_lconst (v := (1 : Int64)) hm.1 dX2_combine_149 (by decide) ?_
    refine kk_goto (tgt := 154) hm.1 dX2_combine_150 (by decide) ?_
    refine kk_loc (L' := [(0, kw_a a0), (1, kw_i x1), (2, kw_i x2)]) [0, 1, 2] rfl ?_
    exact q_X2_combine_154 hm  h0   ((1 : Int64)) w h
set_option maxHeartbeats 4000000 in
set_option maxRecDepth 100000 in
theorem t_X2_combine {l : Launch} {G : kw_G} {a0 : Nat} {x1 : Int32} {x2 : Int32} {T : kw_T} {n : Nat} {r : kw_R} {i : kw_I} {w : kw_L} {Q : Int32 → kw_L → Prop} (h0 : T a0 = (0, 2)) (h : w_X2_combine a0 x1 x2 T n r i w Q) : kw_Met l G yX2_combine cX2_combine 9 (some .boolean) rm_X2_combine [kw_a a0, kw_i x1, kw_i x2] (T, n, r, i, w) (kw_PI (fun v T' n' r' i' w' => T = T' ∧ n = n' ∧ r = r' ∧ i = i' ∧ Q v w')) := by
  refine kw_Met.of (by decide) (Nat.le_of_ble_eq_true rfl) fun E hl hRm hE hT hnm => ?_
  have hm : kw_m E G cX2_combine 9 RX2 (some .boolean) rm_X2_combine "combine" := ⟨hE, hT, hRm, hnm⟩
  subst hl
  show kw_K E G 9 0 0 (kw_Z E G 0 0 (kw_PI (fun v T' n' r' i' w' => T = T' ∧ n = n' ∧ r = r' ∧ i = i' ∧ Q v w'))) 0 [(0, kw_a a0), (1, kw_i x1), (2, kw_i x2)] [] T n r i w
  refine kk_aload_n hm.1 0 dX2_combine_0 rfl rfl ?_
  refine kk_getR hm.1 ff_X2_22 dX2_combine_1 h0 ?_
  refine kk_iload_n hm.1 2 dX2_combine_4 rfl rfl ?_
  refine kk_iconst (v := (2 : Int32)) hm.1 dX2_combine_5 (by decide) ?_
  refine kk_isub hm.1 dX2_combine_6 ?_
  obtain ⟨o7, h⟩ := h
  refine kk_laload hm.1 dX2_combine_7 o7 ?_
  refine kk_lstore_n (L' := [(3, kw_l (w (r a0 3) ((x2 - (2 : Int32))).toNatClampNeg)), (0, kw_a a0), (1, kw_i x1), (2, kw_i x2)]) hm.1 dX2_combine_8 rfl (by decide) rfl ?_
  refine kk_aload_n hm.1 1 dX2_combine_9 rfl rfl ?_
  refine kk_getR hm.1 ff_X2_22 dX2_combine_10 h0 ?_
  refine kk_iload_n hm.1 3 dX2_combine_13 rfl rfl ?_
  refine kk_iconst (v := (1 : Int32)) hm.1 dX2_combine_14 (by decide) ?_
  refine kk_isub hm.1 dX2_combine_15 ?_
  obtain ⟨o16, h⟩ := h
  refine kk_laload hm.1 dX2_combine_16 o16 ?_
  refine kk_lstore (L' := [(5, kw_l (w (r a0 3) ((x2 - (1 : Int32))).toNatClampNeg)), (3, kw_l (w (r a0 3) ((x2 - (2 : Int32))).toNatClampNeg)), (0, kw_a a0), (1, kw_i x1), (2, kw_i x2)]) hm.1 dX2_combine_17 (by decide) rfl ?_
  refine kk_iload_n hm.1 3 dX2_combine_19 rfl rfl ?_
  refine kk_iconst (v := (5 : Int32)) hm.1 dX2_combine_20 (by decide) ?_
  refine kk_icmp_ne (tgt := 33) hm.1 dX2_combine_21 (by decide) (fun c21 => ?_) (fun c21 => ?_)
  · have h := h.1 c21
    refine kk_loc (L' := [(0, kw_a a0), (1, kw_i x1), (2, kw_i x2), (3, kw_l (w (r a0 3) ((x2 - (2 : Int32))).toNatClampNeg)), (5, kw_l (w (r a0 3) ((x2 - (1 : Int32))).toNatClampNeg))]) [2, 3, 4, 1, 0] rfl ?_
    exact q_X2_combine_33 hm  h0   ((w (r a0 3) ((x2 - (2 : Int32))).toNatClampNeg)) ((w (r a0 3) ((x2 - (1 : Int32))).toNatClampNeg)) w h
  · have h := h.2 c21
    refine kk_lload hm.1 0 dX2_combine_24 rfl ?_
    refine kk_lconst (v := (0 : Int64)) hm.1 dX2_combine_26 (by decide) ?_
    refine kk_lcmp hm.1 dX2_combine_27 ?_
    refine kk_if_ne (tgt := 33) hm.1 dX2_combine_28 (by decide) (fun c28 => ?_) (fun c28 => ?_)
    · have h := h.1 c28
      refine kk_loc (L' := [(0, kw_a a0), (1, kw_i x1), (2, kw_i x2), (3, kw_l (w (r a0 3) ((x2 - (2 : Int32))).toNatClampNeg)), (5, kw_l (w (r a0 3) ((x2 - (1 : Int32))).toNatClampNeg))]) [2, 3, 4, 1, 0] rfl ?_
      exact q_X2_combine_33 hm  h0   ((w (r a0 3) ((x2 - (2 : Int32))).toNatClampNeg)) ((w (r a0 3) ((x2 - (1 : Int32))).toNatClampNeg)) w h
    · have h := h.2 c28
      refine kk_iconst (v := (0 : Int32)) hm.1 dX2_combine_31 (by decide) ?_
      exact kk_zret hm.1 hm.2.1 dX2_combine_32 (Or.inl rfl) ⟨_, rfl, rfl, rfl, rfl, rfl, h⟩
def w_X2_holds_224 (a0 : Nat) (x1 : Int32) (T : kw_T) (n : Nat) (r : kw_R) (i : kw_I) (Q : Int32 → kw_L → Prop) (k25 : Int32 → Int32 → Int32 → kw_L → Prop) (x2 : Int32) (x3 : Int32) (x4 : Int32) (w : kw_L) : Prop :=
  k25 x2 x3 ((x4 + (1 : Int32))) w
def w_X2_holds_103 (a0 : Nat) (x1 : Int32) (T : kw_T) (n : Nat) (r : kw_R) (i : kw_I) (Q : Int32 → kw_L → Prop) (k25 : Int32 → Int32 → Int32 → kw_L → Prop) (x2 : Int32) (x3 : Int32) (x4 : Int32) (s0 : Nat) (s1 : Int32) (s2 : Int64) (w : kw_L) : Prop :=
  kw_in T 4 s0 s1 ∧ (∀ w103 : kw_L, w103 = kw_st w s0 (s1).toNatClampNeg s2 → (w_X2_holds_224 a0 x1 T n r i Q k25 x2 ((x3 + (1 : Int32))) x4 w103))
def w_X2_holds_71 (a0 : Nat) (x1 : Int32) (T : kw_T) (n : Nat) (r : kw_R) (i : kw_I) (Q : Int32 → kw_L → Prop) (k25 : Int32 → Int32 → Int32 → kw_L → Prop) (x2 : Int32) (x3 : Int32) (x4 : Int32) (x5 : Int32) (x6 : Int32) (w : kw_L) : Prop :=
  (x3 < (50 : Int32) → (¬ x5 = 0 → kw_in T 1 (r a0 4) x6 ∧ (w_X2_holds_103 a0 x1 T n r i Q k25 x2 x3 x4 ((r a0 3)) x3 (((i (r a0 4) (x6).toNatClampNeg).toInt64)) w)) ∧ (x5 = 0 → w_X2_holds_103 a0 x1 T n r i Q k25 x2 x3 x4 ((r a0 3)) x3 (x6.toInt64) w)) ∧ (¬ x3 < (50 : Int32) → Q (0 : Int32) w)
def w_X2_holds_179 (a0 : Nat) (x1 : Int32) (T : kw_T) (n : Nat) (r : kw_R) (i : kw_I) (Q : Int32 → kw_L → Prop) (k25 : Int32 → Int32 → Int32 → kw_L → Prop) (x2 : Int32) (x3 : Int32) (x4 : Int32) (x6 : Int32) (s0 : Int64) (s1 : Int32) (w : kw_L) : Prop :=
  (¬ (lg_cmp s0 (s1.toInt64)) = 0 → w_X2_holds_224 a0 x1 T n r i Q k25 x2 ((x3 + (-1 : Int32))) x4 w) ∧ ((lg_cmp s0 (s1.toInt64)) = 0 → w_X2_holds_224 a0 x1 T n r i Q k25 x2 x3 ((if x4 < (x6 - (1 : Int32)) then (x6 - (1 : Int32)) else x4)) w)
def w_X2_holds_159 (a0 : Nat) (x1 : Int32) (T : kw_T) (n : Nat) (r : kw_R) (i : kw_I) (Q : Int32 → kw_L → Prop) (k25 : Int32 → Int32 → Int32 → kw_L → Prop) (x2 : Int32) (x3 : Int32) (x4 : Int32) (x5 : Int32) (x6 : Int32) (w : kw_L) : Prop :=
  kw_in T 4 (r a0 3) (x3 - (1 : Int32)) ∧ ((¬ x5 = (11 : Int32) → w_X2_holds_179 a0 x1 T n r i Q k25 x2 x3 x4 x6 ((w (r a0 3) ((x3 - (1 : Int32))).toNatClampNeg)) ((0 : Int32)) w) ∧ (x5 = (11 : Int32) → w_X2_holds_179 a0 x1 T n r i Q k25 x2 x3 x4 x6 ((w (r a0 3) ((x3 - (1 : Int32))).toNatClampNeg)) ((1 : Int32)) w))
def s_X2_holds_25 (a0 : Nat) (x1 : Int32) (T : kw_T) (n : Nat) (r : kw_R) (i : kw_I) (Q : Int32 → kw_L → Prop)  (k25 : Int32 → Int32 → Int32 → kw_L → Prop) (x2 : Int32) (x3 : Int32) (x4 : Int32) (w : kw_L) : Prop :=
  (x2 ≤ x4 → (x3 = (1 : Int32) → Q (1 : Int32) w) ∧ (¬ x3 = (1 : Int32) → (¬ x3 = (2 : Int32) → Q (0 : Int32) w) ∧ (x3 = (2 : Int32) → kw_in T 4 (r a0 3) (1 : Int32) ∧ ((¬ (lg_cmp (w (r a0 3) ((1 : Int32)).toNatClampNeg) (1 : Int64)) = 0 → Q (0 : Int32) w) ∧ ((lg_cmp (w (r a0 3) ((1 : Int32)).toNatClampNeg) (1 : Int64)) = 0 → Q (1 : Int32) w))))) ∧ (¬ x2 ≤ x4 → T ((r a0 7)) = (0, 1) ∧ (kw_in T 1 (r (r a0 7) 2) x4 ∧ (kw_in T 1 (r (r a0 7) 2) x4 ∧ ((((i (r (r a0 7) 2) (x4).toNatClampNeg) &&& (15 : Int32)) = 0 → w_X2_holds_71 a0 x1 T n r i Q k25 x2 x3 x4 (((i (r (r a0 7) 2) (x4).toNatClampNeg) &&& (15 : Int32))) (((i (r (r a0 7) 2) (x4).toNatClampNeg) >>> ((4 : Int32) &&& 31))) w) ∧ (¬ ((i (r (r a0 7) 2) (x4).toNatClampNeg) &&& (15 : Int32)) = 0 → (¬ ((i (r (r a0 7) 2) (x4).toNatClampNeg) &&& (15 : Int32)) = (1 : Int32) → ((1 : Int32) ≤ x3 → (¬ ((i (r (r a0 7) 2) (x4).toNatClampNeg) &&& (15 : Int32)) = (9 : Int32) → (((i (r (r a0 7) 2) (x4).toNatClampNeg) &&& (15 : Int32)) = (10 : Int32) → w_X2_holds_159 a0 x1 T n r i Q k25 x2 x3 x4 (((i (r (r a0 7) 2) (x4).toNatClampNeg) &&& (15 : Int32))) (((i (r (r a0 7) 2) (x4).toNatClampNeg) >>> ((4 : Int32) &&& 31))) w) ∧ (¬ ((i (r (r a0 7) 2) (x4).toNatClampNeg) &&& (15 : Int32)) = (10 : Int32) → (¬ ((i (r (r a0 7) 2) (x4).toNatClampNeg) &&& (15 : Int32)) = (11 : Int32) → (x3 < (2 : Int32) → Q (0 : Int32) w) ∧ (¬ x3 < (2 : Int32) → w_X2_combine a0 ((i (r (r a0 7) 2) (x4).toNatClampNeg) &&& (15 : Int32)) x3 T n r i w (fun v213 w213 => (¬ v213 = 0 → w_X2_holds_224 a0 x1 T n r i Q k25 x2 ((x3 + (-1 : Int32))) x4 w213) ∧ (v213 = 0 → Q (0 : Int32) w213)))) ∧ (((i (r (r a0 7) 2) (x4).toNatClampNeg) &&& (15 : Int32)) = (11 : Int32) → w_X2_holds_159 a0 x1 T n r i Q k25 x2 x3 x4 (((i (r (r a0 7) 2) (x4).toNatClampNeg) &&& (15 : Int32))) (((i (r (r a0 7) 2) (x4).toNatClampNeg) >>> ((4 : Int32) &&& 31))) w))) ∧ (((i (r (r a0 7) 2) (x4).toNatClampNeg) &&& (15 : Int32)) = (9 : Int32) → kw_in T 4 (r a0 3) (x3 - (1 : Int32)) ∧ (kw_in T 4 (r a0 3) (x3 - (1 : Int32)) ∧ (∀ w141 : kw_L, w141 = kw_st w (r a0 3) ((x3 - (1 : Int32))).toNatClampNeg ((1 : Int64) - (w (r a0 3) ((x3 - (1 : Int32))).toNatClampNeg)) → (w_X2_holds_224 a0 x1 T n r i Q k25 x2 x3 x4 w141))))) ∧ (¬ (1 : Int32) ≤ x3 → Q (0 : Int32) w)) ∧ (((i (r (r a0 7) 2) (x4).toNatClampNeg) &&& (15 : Int32)) = (1 : Int32) → w_X2_holds_71 a0 x1 T n r i Q k25 x2 x3 x4 (((i (r (r a0 7) 2) (x4).toNatClampNeg) &&& (15 : Int32))) (((i (r (r a0 7) 2) (x4).toNatClampNeg) >>> ((4 : Int32) &&& 31))) w))))))
def w_X2_holds_25 (a0 : Nat) (x1 : Int32) (T : kw_T) (n : Nat) (r : kw_R) (i : kw_I) (Q : Int32 → kw_L → Prop)  : Nat → Int32 → Int32 → Int32 → kw_L → Prop
  | 0 => fun _ _ _ _ => False
  | N + 1 => s_X2_holds_25 a0 x1 T n r i Q  (w_X2_holds_25 a0 x1 T n r i Q  N)
def w_X2_holds  (a0 : Nat) (x1 : Int32) (T : kw_T) (n : Nat) (r : kw_R) (i : kw_I) (w : kw_L) (Q : Int32 → kw_L → Prop) : Prop :=
  T ((r a0 7)) = (0, 1) ∧ (kw_in T 1 (r (r a0 7) 1) (x1 + (1 : Int32)) ∧ (kw_in T 1 (r (r a0 7) 1) x1 ∧ (∃ N, w_X2_holds_25 a0 x1 T n r i Q  N ((i (r (r a0 7) 1) ((x1 + (1 : Int32))).toNatClampNeg)) ((0 : Int32)) ((i (r (r a0 7) 1) (x1).toNatClampNeg)) w)))
abbrev rm_X2_holds : Room := { frames := 2, cells := 0, slots := 0, locals := 88 }
set_option maxHeartbeats 4000000 in
set_option maxRecDepth 100000 in
theorem q_X2_holds_224 {a0 : Nat} {x1 : Int32} {T : kw_T} {n : Nat} {r : kw_R} {i : kw_I} {Q : Int32 → kw_L → Prop} {E : kw_E} {G : kw_G} (hm : kw_m E G cX2_holds 7 RX2 (some .boolean) rm_X2_holds "holds")  (h0 : T a0 = (0, 2))  {k25 : Int32 → Int32 → Int32 → kw_L → Prop} (hk25 : ∀ (x2 : Int32) (x3 : Int32) (x4 : Int32) (w : kw_L), k25 x2 x3 x4 w → kw_K E G 7 0 0 (kw_Z E G 0 0 (kw_PI (fun v T' n' r' i' w' => T = T' ∧ n = n' ∧ r = r' ∧ i = i' ∧ Q v w'))) 25 [(0, kw_a a0), (1, kw_i x1), (2, kw_i x2), (3, kw_i x3), (4, kw_i x4)] [] T n r i w) (x2 : Int32) (x3 : Int32) (x4 : Int32) (w : kw_L) (h : w_X2_holds_224 a0 x1 T n r i Q k25 x2 x3 x4 w) : kw_K E G 7 0 0 (kw_Z E G 0 0 (kw_PI (fun v T' n' r' i' w' => T = T' ∧ n = n' ∧ r = r' ∧ i = i' ∧ Q v w'))) 224 [(0, kw_a a0), (1, kw_i x1), (2, kw_i x2), (3, kw_i x3), (4, kw_i x4)] [] T n r i w := by
  refine kk_iinc (v := (x4 + (1 : Int32))) (L' := [(4, kw_i (x4 + (1 : Int32))), (0, kw_a a0), (1, kw_i x1), (2, kw_i x2), (3, kw_i x3)]) hm.1 4 dX2_holds_224 rfl rfl (by decide) rfl ?_
  refine kk_goto (tgt := 25) hm.1 dX2_holds_227 (by decide) ?_
  refine kk_loc (L' := [(0, kw_a a0), (1, kw_i x1), (2, kw_i x2), (3, kw_i x3), (4, kw_i (x4 + (1 : Int32)))]) [1, 2, 3, 4, 0] rfl ?_
  exact hk25 x2 x3 ((x4 + (1 : Int32))) w h
set_option maxHeartbeats 4000000 in
set_option maxRecDepth 100000 in
theorem q_X2_holds_103 {a0 : Nat} {x1 : Int32} {T : kw_T} {n : Nat} {r : kw_R} {i : kw_I} {Q : Int32 → kw_L → Prop} {E : kw_E} {G : kw_G} (hm : kw_m E G cX2_holds 7 RX2 (some .boolean) rm_X2_holds "holds")  (h0 : T a0 = (0, 2))  {k25 : Int32 → Int32 → Int32 → kw_L → Prop} (hk25 : ∀ (x2 : Int32) (x3 : Int32) (x4 : Int32) (w : kw_L), k25 x2 x3 x4 w → kw_K E G 7 0 0 (kw_Z E G 0 0 (kw_PI (fun v T' n' r' i' w' => T = T' ∧ n = n' ∧ r = r' ∧ i = i' ∧ Q v w'))) 25 [(0, kw_a a0), (1, kw_i x1), (2, kw_i x2), (3, kw_i x3), (4, kw_i x4)] [] T n r i w) (x2 : Int32) (x3 : Int32) (x4 : Int32) (s0 : Nat) (s1 : Int32) (s2 : Int64) (w : kw_L) (h : w_X2_holds_103 a0 x1 T n r i Q k25 x2 x3 x4 s0 s1 s2 w) : kw_K E G 7 0 0 (kw_Z E G 0 0 (kw_PI (fun v T' n' r' i' w' => T = T' ∧ n = n' ∧ r = r' ∧ i = i' ∧ Q v w'))) 103 [(0, kw_a a0), (1, kw_i x1), (2, kw_i x2), (3, kw_i x3), (4, kw_i x4)] [kw_l s2, kw_i s1, kw_a s0] T n r i w := by
  obtain ⟨o103, h⟩ := h
  refine kn_lastore hm.1 dX2_holds_103 o103 (fun w103 e103 => ?_)
  have h := h w103 e103
  refine kk_iinc (v := (x3 + (1 : Int32))) (L' := [(3, kw_i (x3 + (1 : Int32))), (0, kw_a a0), (1, kw_i x1), (2, kw_i x2), (4, kw_i x4)]) hm.1 3 dX2_holds_104 rfl rfl (by decide) rfl ?_
  refine kk_goto (tgt := 224) hm.1 dX2_holds_107 (by decide) ?_
  refine kk_loc (L' := [(0, kw_a a0), (1, kw_i x1), (2, kw_i x2), (3, kw_i (x3 + (1 : Int32))), (4, kw_i x4)]) [1, 2, 3, 0, 4] rfl ?_
  exact q_X2_holds_224 hm  h0  hk25 x2 ((x3 + (1 : Int32))) x4 w103 h
set_option maxHeartbeats 4000000 in
set_option maxRecDepth 100000 in
theorem q_X2_holds_71 {a0 : Nat} {x1 : Int32} {T : kw_T} {n : Nat} {r : kw_R} {i : kw_I} {Q : Int32 → kw_L → Prop} {E : kw_E} {G : kw_G} (hm : kw_m E G cX2_holds 7 RX2 (some .boolean) rm_X2_holds "holds")  (h0 : T a0 = (0, 2))  {k25 : Int32 → Int32 → Int32 → kw_L → Prop} (hk25 : ∀ (x2 : Int32) (x3 : Int32) (x4 : Int32) (w : kw_L), k25 x2 x3 x4 w → kw_K E G 7 0 0 (kw_Z E G 0 0 (kw_PI (fun v T' n' r' i' w' => T = T' ∧ n = n' ∧ r = r' ∧ i = i' ∧ Q v w'))) 25 [(0, kw_a a0), (1, kw_i x1), (2, kw_i x2), (3, kw_i x3), (4, kw_i x4)] [] T n r i w) (x2 : Int32) (x3 : Int32) (x4 : Int32) (x5 : Int32) (x6 : Int32) (w : kw_L) (h : w_X2_holds_71 a0 x1 T n r i Q k25 x2 x3 x4 x5 x6 w) : kw_K E G 7 0 0 (kw_Z E G 0 0 (kw_PI (fun v T' n' r' i' w' => T = T' ∧ n = n' ∧ r = r' ∧ i = i' ∧ Q v w'))) 71 [(0, kw_a a0), (1, kw_i x1), (2, kw_i x2), (3, kw_i x3), (4, kw_i x4), (5, kw_i x5), (6, kw_i x6)] [] T n r i w := by
  refine kk_iload_n hm.1 3 dX2_holds_71 rfl rfl ?_
  refine kk_bipush (v := (50 : Int32)) hm.1 dX2_holds_72 (by decide) ?_
  refine kk_icmp_lt (tgt := 79) hm.1 dX2_holds_74 (by decide) (fun c74 => ?_) (fun c74 => ?_)
  · have h := h.1 c74
    refine kk_aload_n hm.1 0 dX2_holds_79 rfl rfl ?_
    refine kk_getR hm.1 ff_X2_22 dX2_holds_80 h0 ?_
    refine kk_iload_n hm.1 3 dX2_holds_83 rfl rfl ?_
    refine kk_iload hm.1 5 dX2_holds_84 rfl ?_
    refine kk_if_ne (tgt := 95) hm.1 dX2_holds_86 (by decide) (fun c86 => ?_) (fun c86 => ?_)
    · have h := h.1 c86
      refine kk_aload_n hm.1 0 dX2_holds_95 rfl rfl ?_
      refine kk_getR hm.1 ff_X2_25 dX2_holds_96 h0 ?_
      refine kk_iload hm.1 6 dX2_holds_99 rfl ?_
      obtain ⟨o101, h⟩ := h
      refine kk_iaload hm.1 dX2_holds_101 o101 ?_
      refine kk_i2l hm.1 dX2_holds_102 ?_
      refine kk_loc (L' := [(0, kw_a a0), (1, kw_i x1), (2, kw_i x2), (3, kw_i x3), (4, kw_i x4)]) [0, 1, 2, 3, 4] rfl ?_
      exact q_X2_holds_103 hm  h0  hk25 x2 x3 x4 ((r a0 3)) x3 (((i (r a0 4) (x6).toNatClampNeg).toInt64)) w h
    · have h := h.2 c86
      refine kk_iload hm.1 6 dX2_holds_89 rfl ?_
      refine kk_i2l hm.1 dX2_holds_91 ?_
      refine kk_goto (tgt := 103) hm.1 dX2_holds_92 (by decide) ?_
      refine kk_loc (L' := [(0, kw_a a0), (1, kw_i x1), (2, kw_i x2), (3, kw_i x3), (4, kw_i x4)]) [0, 1, 2, 3, 4] rfl ?_
      exact q_X2_holds_103 hm  h0  hk25 x2 x3 x4 ((r a0 3)) x3 (x6.toInt64) w h
  · have h := h.2 c74
    refine kk_iconst (v := (0 : Int32)) hm.1 dX2_holds_77 (by decide) ?_
    exact kk_zret hm.1 hm.2.1 dX2_holds_78 (Or.inl rfl) ⟨_, rfl, rfl, rfl, rfl, rfl, h⟩
set_option maxHeartbeats 4000000 in
set_option maxRecDepth 100000 in
theorem q_X2_holds_179 {a0 : Nat} {x1 : Int32} {T : kw_T} {n : Nat} {r : kw_R} {i : kw_I} {Q : Int32 → kw_L → Prop} {E : kw_E} {G : kw_G} (hm : kw_m E G cX2_holds 7 RX2 (some .boolean) rm_X2_holds "holds")  (h0 : T a0 = (0, 2))  {k25 : Int32 → Int32 → Int32 → kw_L → Prop} (hk25 : ∀ (x2 : Int32) (x3 : Int32) (x4 : Int32) (w : kw_L), k25 x2 x3 x4 w → kw_K E G 7 0 0 (kw_Z E G 0 0 (kw_PI (fun v T' n' r' i' w' => T = T' ∧ n = n' ∧ r = r' ∧ i = i' ∧ Q v w'))) 25 [(0, kw_a a0), (1, kw_i x1), (2, kw_i x2), (3, kw_i x3), (4, kw_i x4)] [] T n r i w) (x2 : Int32) (x3 : Int32) (x4 : Int32) (x6 : Int32) (s0 : Int64) (s1 : Int32) (w : kw_L) (h : w_X2_holds_179 a0 x1 T n r i Q k25 x2 x3 x4 x6 s0 s1 w) : kw_K E G 7 0 0 (kw_Z E G 0 0 (kw_PI (fun v T' n' r' i' w' => T = T' ∧ n = n' ∧ r = r' ∧ i = i' ∧ Q v w'))) 179 [(0, kw_a a0), (1, kw_i x1), (2, kw_i x2), (3, kw_i x3), (4, kw_i x4), (6, kw_i x6)] [kw_i s1, kw_l s0] T n r i w := by
  refine kk_i2l hm.1 dX2_holds_179 ?_
  refine kk_lcmp hm.1 dX2_holds_180 ?_
  refine kk_if_ne (tgt := 198) hm.1 dX2_holds_181 (by decide) (fun c181 => ?_) (fun c181 => ?_)
  · have h := h.1 c181
    refine kk_iinc (v := (x3 + (-1 : Int32))) (L' := [(3, kw_i (x3 + (-1 : Int32))), (0, kw_a a0), (1, kw_i x1), (2, kw_i x2), (4, kw_i x4), (6, kw_i x6)]) hm.1 3 dX2_holds_198 rfl rfl (by decide) rfl ?_
    refine kk_goto (tgt := 224) hm.1 dX2_holds_201 (by decide) ?_
    refine kk_loc (L' := [(0, kw_a a0), (1, kw_i x1), (2, kw_i x2), (3, kw_i (x3 + (-1 : Int32))), (4, kw_i x4)]) [1, 2, 3, 0, 4] rfl ?_
    exact q_X2_holds_224 hm  h0  hk25 x2 ((x3 + (-1 : Int32))) x4 w h
  · have h := h.2 c181
    refine kk_iload hm.1 4 dX2_holds_184 rfl ?_
    refine kk_iload hm.1 5 dX2_holds_186 rfl ?_
    refine kk_iconst (v := (1 : Int32)) hm.1 dX2_holds_188 (by decide) ?_
    refine kk_isub hm.1 dX2_holds_189 ?_
    refine kn_mmax (st := []) hm.1 wm_X2_91 wmmax_s wo_m wmmax_c dX2_holds_190 hm.2.2.1 (by decide) (Nat.le_of_ble_eq_true rfl) (by decide) (by decide) ?_
    refine kk_istore (L' := [(4, kw_i (if x4 < (x6 - (1 : Int32)) then (x6 - (1 : Int32)) else x4)), (0, kw_a a0), (1, kw_i x1), (2, kw_i x2), (3, kw_i x3), (6, kw_i x6)]) hm.1 dX2_holds_193 (by decide) rfl ?_
    refine kk_goto (tgt := 224) hm.1 dX2_holds_195 (by decide) ?_
    refine kk_loc (L' := [(0, kw_a a0), (1, kw_i x1), (2, kw_i x2), (3, kw_i x3), (4, kw_i (if x4 < (x6 - (1 : Int32)) then (x6 - (1 : Int32)) else x4))]) [1, 2, 3, 4, 0] rfl ?_
    exact q_X2_holds_224 hm  h0  hk25 x2 x3 ((if x4 < (x6 - (1 : Int32)) then (x6 - (1 : Int32)) else x4)) w h
set_option maxHeartbeats 4000000 in
set_option maxRecDepth 100000 in
theorem q_X2_holds_159 {a0 : Nat} {x1 : Int32} {T : kw_T} {n : Nat} {r : kw_R} {i : kw_I} {Q : Int32 → kw_L → Prop} {E : kw_E} {G : kw_G} (hm : kw_m E G cX2_holds 7 RX2 (some .boolean) rm_X2_holds "holds")  (h0 : T a0 = (0, 2))  {k25 : Int32 → Int32 → Int32 → kw_L → Prop} (hk25 : ∀ (x2 : Int32) (x3 : Int32) (x4 : Int32) (w : kw_L), k25 x2 x3 x4 w → kw_K E G 7 0 0 (kw_Z E G 0 0 (kw_PI (fun v T' n' r' i' w' => T = T' ∧ n = n' ∧ r = r' ∧ i = i' ∧ Q v w'))) 25 [(0, kw_a a0), (1, kw_i x1), (2, kw_i x2), (3, kw_i x3), (4, kw_i x4)] [] T n r i w) (x2 : Int32) (x3 : Int32) (x4 : Int32) (x5 : Int32) (x6 : Int32) (w : kw_L) (h : w_X2_holds_159 a0 x1 T n r i Q k25 x2 x3 x4 x5 x6 w) : kw_K E G 7 0 0 (kw_Z E G 0 0 (kw_PI (fun v T' n' r' i' w' => T = T' ∧ n = n' ∧ r = r' ∧ i = i' ∧ Q v w'))) 159 [(0, kw_a a0), (1, kw_i x1), (2, kw_i x2), (3, kw_i x3), (4, kw_i x4), (5, kw_i x5), (6, kw_i x6)] [] T n r i w := by
  refine kk_aload_n hm.1 0 dX2_holds_159 rfl rfl ?_
  refine kk_getR hm.1 ff_X2_22 dX2_holds_160 h0 ?_
  refine kk_iload_n hm.1 3 dX2_holds_163 rfl rfl ?_
  refine kk_iconst (v := (1 : Int32)) hm.1 dX2_holds_164 (by decide) ?_
  refine kk_isub hm.1 dX2_holds_165 ?_
  obtain ⟨o166, h⟩ := h
  refine kk_laload hm.1 dX2_holds_166 o166 ?_
  refine kk_iload hm.1 5 dX2_holds_167 rfl ?_
  refine kk_bipush (v := (11 : Int32)) hm.1 dX2_holds_169 (by decide) ?_
  refine kk_icmp_ne (tgt := 178) hm.1 dX2_holds_171 (by decide) (fun c171 => ?_) (fun c171 => ?_)
  · have h := h.1 c171
    refine kk_iconst (v := (0 : Int32)) hm.1 dX2_holds_178 (by decide) ?_
    refine kk_loc (L' := [(0, kw_a a0), (1, kw_i x1), (2, kw_i x2), (3, kw_i x3), (4, kw_i x4), (6, kw_i x6)]) [0, 1, 2, 3, 4, 6] rfl ?_
    exact q_X2_holds_179 hm  h0  hk25 x2 x3 x4 x6 ((w (r a0 3) ((x3 - (1 : Int32))).toNatClampNeg)) ((0 : Int32)) w h
  · have h := h.2 c171
    refine kk_iconst (v := (1 : Int32)) hm.1 dX2_holds_174 (by decide) ?_
    refine kk_goto (tgt := 179) hm.1 dX2_holds_175 (by decide) ?_
    refine kk_loc (L' := [(0, kw_a a0), (1, kw_i x1), (2, kw_i x2), (3, kw_i x3), (4, kw_i x4), (6, kw_i x6)]) [0, 1, 2, 3, 4, 6] rfl ?_
    exact q_X2_holds_179 hm  h0  hk25 x2 x3 x4 x6 ((w (r a0 3) ((x3 - (1 : Int32))).toNatClampNeg)) ((1 : Int32)) w h
set_option maxHeartbeats 4000000 in
set_option maxRecDepth 100000 in
theorem qs_X2_holds_25 {a0 : Nat} {x1 : Int32} {T : kw_T} {n : Nat} {r : kw_R} {i : kw_I} {Q : Int32 → kw_L → Prop} {E : kw_E} {G : kw_G} (hm : kw_m E G cX2_holds 7 RX2 (some .boolean) rm_X2_holds "holds")  (h0 : T a0 = (0, 2))    {k25 : Int32 → Int32 → Int32 → kw_L → Prop} (hk25 : ∀ (x2 : Int32) (x3 : Int32) (x4 : Int32) (w : kw_L), k25 x2 x3 x4 w → kw_K E G 7 0 0 (kw_Z E G 0 0 (kw_PI (fun v T' n' r' i' w' => T = T' ∧ n = n' ∧ r = r' ∧ i = i' ∧ Q v w'))) 25 [(0, kw_a a0), (1, kw_i x1), (2, kw_i x2), (3, kw_i x3), (4, kw_i x4)] [] T n r i w) (x2 : Int32) (x3 : Int32) (x4 : Int32) (w : kw_L) (h : s_X2_holds_25 a0 x1 T n r i Q  k25 x2 x3 x4 w) : kw_K E G 7 0 0 (kw_Z E G 0 0 (kw_PI (fun v T' n' r' i' w' => T = T' ∧ n = n' ∧ r = r' ∧ i = i' ∧ Q v w'))) 25 [(0, kw_a a0), (1, kw_i x1), (2, kw_i x2), (3, kw_i x3), (4, kw_i x4)] [] T n r i w := by
  refine kk_iload hm.1 4 dX2_holds_25 rfl ?_
  refine kk_iload_n hm.1 2 dX2_holds_27 rfl rfl ?_
  refine kk_icmp_ge (tgt := 230) hm.1 dX2_holds_28 (by decide) (fun c28 => ?_) (fun c28 => ?_)
  · have h := h.1 c28
    refine kk_iload_n hm.1 3 dX2_holds_230 rfl rfl ?_
    refine kk_iconst (v := (1 : Int32)) hm.1 dX2_holds_231 (by decide) ?_
    refine kk_icmp_eq (tgt := 251) hm.1 dX2_holds_232 (by decide) (fun c232 => ?_) (fun c232 => ?_)
    · have h := h.1 c232
      refine kk_iconst (v := (1 : Int32)) hm.1 dX2_holds_251 (by decide) ?_
      refine kk_goto (tgt := 256) hm.1 dX2_holds_252 (by decide) ?_
      exact kk_zret hm.1 hm.2.1 dX2_holds_256 (Or.inr rfl) ⟨_, rfl, rfl, rfl, rfl, rfl, h⟩
    · have h := h.2 c232
      refine kk_iload_n hm.1 3 dX2_holds_235 rfl rfl ?_
      refine kk_iconst (v := (2 : Int32)) hm.1 dX2_holds_236 (by decide) ?_
      refine kk_icmp_ne (tgt := 255) hm.1 dX2_holds_237 (by decide) (fun c237 => ?_) (fun c237 => ?_)
      · have h := h.1 c237
        refine kk_iconst (v := (0 : Int32)) hm.1 dX2_holds_255 (by decide) ?_
        exact kk_zret hm.1 hm.2.1 dX2_holds_256 (Or.inl rfl) ⟨_, rfl, rfl, rfl, rfl, rfl, h⟩
      · have h := h.2 c237
        refine kk_aload_n hm.1 0 dX2_holds_240 rfl rfl ?_
        refine kk_getR hm.1 ff_X2_22 dX2_holds_241 h0 ?_
        refine kk_iconst (v := (1 : Int32)) hm.1 dX2_holds_244 (by decide) ?_
        obtain ⟨o245, h⟩ := h
        refine kk_laload hm.1 dX2_holds_245 o245 ?_
        refine kk_lconst (v := (1 : Int64)) hm.1 dX2_holds_246 (by decide) ?_
        refine kk_lcmp hm.1 dX2_holds_247 ?_
        refine kk_if_ne (tgt := 255) hm.1 dX2_holds_248 (by decide) (fun c248 => ?_) (fun c248 => ?_)
        · have h := h.1 c248
          refine kk_iconst (v := (0 : Int32)) hm.1 dX2_holds_255 (by decide) ?_
          exact kk_zret hm.1 hm.2.1 dX2_holds_256 (Or.inl rfl) ⟨_, rfl, rfl, rfl, rfl, rfl, h⟩
        · have h := h.2 c248
          refine kk_iconst (v := (1 : Int32)) hm.1 dX2_holds_251 (by decide) ?_
          refine kk_goto (tgt := 256) hm.1 dX2_holds_252 (by decide) ?_
          exact kk_zret hm.1 hm.2.1 dX2_holds_256 (Or.inr rfl) ⟨_, rfl, rfl, rfl, rfl, rfl, h⟩
  · have h := h.2 c28
    refine kk_aload_n hm.1 0 dX2_holds_31 rfl rfl ?_
    refine kk_getR hm.1 ff_X2_35 dX2_holds_32 h0 ?_
    obtain ⟨o35, h⟩ := h
    refine kk_getR hm.1 ff_X2_88 dX2_holds_35 o35 ?_
    refine kk_iload hm.1 4 dX2_holds_38 rfl ?_
    obtain ⟨o40, h⟩ := h
    refine kk_iaload hm.1 dX2_holds_40 o40 ?_
    refine kk_bipush (v := (15 : Int32)) hm.1 dX2_holds_41 (by decide) ?_
    refine kk_iand hm.1 dX2_holds_43 ?_
    refine kk_istore (L' := [(5, kw_i ((i (r (r a0 7) 2) (x4).toNatClampNeg) &&& (15 : Int32))), (0, kw_a a0), (1, kw_i x1), (2, kw_i x2), (3, kw_i x3), (4, kw_i x4)]) hm.1 dX2_holds_44 (by decide) rfl ?_
    refine kk_aload_n hm.1 1 dX2_holds_46 rfl rfl ?_
    refine kk_getR hm.1 ff_X2_35 dX2_holds_47 h0 ?_
    refine kk_getR hm.1 ff_X2_88 dX2_holds_50 o35 ?_
    refine kk_iload hm.1 5 dX2_holds_53 rfl ?_
    obtain ⟨o55, h⟩ := h
    refine kk_iaload hm.1 dX2_holds_55 o55 ?_
    refine kk_iconst (v := (4 : Int32)) hm.1 dX2_holds_56 (by decide) ?_
    refine kk_ishr hm.1 dX2_holds_57 ?_
    refine kk_istore (L' := [(6, kw_i ((i (r (r a0 7) 2) (x4).toNatClampNeg) >>> ((4 : Int32) &&& 31))), (5, kw_i ((i (r (r a0 7) 2) (x4).toNatClampNeg) &&& (15 : Int32))), (0, kw_a a0), (1, kw_i x1), (2, kw_i x2), (3, kw_i x3), (4, kw_i x4)]) hm.1 dX2_holds_58 (by decide) rfl ?_
    refine kk_iload hm.1 1 dX2_holds_60 rfl ?_
    refine kk_if_eq (tgt := 71) hm.1 dX2_holds_62 (by decide) (fun c62 => ?_) (fun c62 => ?_)
    · have h := h.1 c62
      refine kk_loc (L' := [(0, kw_a a0), (1, kw_i x1), (2, kw_i x2), (3, kw_i x3), (4, kw_i x4), (5, kw_i ((i (r (r a0 7) 2) (x4).toNatClampNeg) &&& (15 : Int32))), (6, kw_i ((i (r (r a0 7) 2) (x4).toNatClampNeg) >>> ((4 : Int32) &&& 31)))]) [2, 3, 4, 5, 6, 1, 0] rfl ?_
      exact q_X2_holds_71 hm  h0  hk25 x2 x3 x4 (((i (r (r a0 7) 2) (x4).toNatClampNeg) &&& (15 : Int32))) (((i (r (r a0 7) 2) (x4).toNatClampNeg) >>> ((4 : Int32) &&& 31))) w h
    · have h := h.2 c62
      refine kk_iload hm.1 1 dX2_holds_65 rfl ?_
      refine kk_iconst (v := (1 : Int32)) hm.1 dX2_holds_67 (by decide) ?_
      refine kk_icmp_ne (tgt := 110) hm.1 dX2_holds_68 (by decide) (fun c68 => ?_) (fun c68 => ?_)
      · have h := h.1 c68
        refine kk_iload_n hm.1 5 dX2_holds_110 rfl rfl ?_
        refine kk_iconst (v := (1 : Int32)) hm.1 dX2_holds_111 (by decide) ?_
        refine kk_icmp_ge (tgt := 117) hm.1 dX2_holds_112 (by decide) (fun c112 => ?_) (fun c112 => ?_)
        · have h := h.1 c112
          refine kk_iload hm.1 1 dX2_holds_117 rfl ?_
          refine kk_bipush (v := (9 : Int32)) hm.1 dX2_holds_119 (by decide) ?_
          refine kk_icmp_ne (tgt := 145) hm.1 dX2_holds_121 (by decide) (fun c121 => ?_) (fun c121 => ?_)
          · have h := h.1 c121
            refine kk_iload hm.1 1 dX2_holds_145 rfl ?_
            refine kk_bipush (v := (10 : Int32)) hm.1 dX2_holds_147 (by decide) ?_
            refine kk_icmp_eq (tgt := 159) hm.1 dX2_holds_149 (by decide) (fun c149 => ?_) (fun c149 => ?_)
            · have h := h.1 c149
              refine kk_loc (L' := [(0, kw_a a0), (1, kw_i x1), (2, kw_i x2), (3, kw_i x3), (4, kw_i x4), (5, kw_i ((i (r (r a0 7) 2) (x4).toNatClampNeg) &&& (15 : Int32))), (6, kw_i ((i (r (r a0 7) 2) (x4).toNatClampNeg) >>> ((4 : Int32) &&& 31)))]) [2, 3, 4, 5, 6, 1, 0] rfl ?_
              exact q_X2_holds_159 hm  h0  hk25 x2 x3 x4 (((i (r (r a0 7) 2) (x4).toNatClampNeg) &&& (15 : Int32))) (((i (r (r a0 7) 2) (x4).toNatClampNeg) >>> ((4 : Int32) &&& 31))) w h
            · have h := h.2 c149
              refine kk_iload hm.1 1 dX2_holds_152 rfl ?_
              refine kk_bipush (v := (11 : Int32)) hm.1 dX2_holds_154 (by decide) ?_
              refine kk_icmp_ne (tgt := 204) hm.1 dX2_holds_156 (by decide) (fun c156 => ?_) (fun c156 => ?_)
              · have h := h.1 c156
                refine kk_iload_n hm.1 5 dX2_holds_204 rfl rfl ?_
                refine kk_iconst (v := (2 : Int32)) hm.1 dX2_holds_205 (by decide) ?_
                refine kk_icmp_lt (tgt := 219) hm.1 dX2_holds_206 (by decide) (fun c206 => ?_) (fun c206 => ?_)
                · have h := h.1 c206
                  refine kk_iconst (v := (0 : Int32)) hm.1 dX2_holds_219 (by decide) ?_
                  exact kk_zret hm.1 hm.2.1 dX2_holds_220 (Or.inl rfl) ⟨_, rfl, rfl, rfl, rfl, rfl, h⟩
                · have h := h.2 c206
                  refine kk_aload_n hm.1 2 dX2_holds_209 rfl rfl ?_
                  refine kk_iload hm.1 1 dX2_holds_210 rfl ?_
                  refine kk_iload_n hm.1 5 dX2_holds_212 rfl rfl ?_
                  refine kk_callVi (cs' := 0) (sl' := 0) (st := []) hm.1 cv_X2_94 (t_X2_combine h0 h) dX2_holds_213 h0 rfl rfl hm.2.2.1 ⟨by decide, by decide⟩ ⟨by decide, by decide⟩ rfl rfl (Nat.le_of_ble_eq_true rfl) rfl ?_
                  rintro v213 _ _ _ _ w213 ⟨rfl, rfl, rfl, rfl, h⟩
                  refine kk_if_ne (tgt := 221) hm.1 dX2_holds_216 (by decide) (fun c216 => ?_) (fun c216 => ?_)
                  · have h := h.1 c216
                    refine kk_iinc (v := (x3 + (-1 : Int32))) (L' := [(3, kw_i (x3 + (-1 : Int32))), (6, kw_i ((i (r (r a0 7) 2) (x4).toNatClampNeg) >>> ((4 : Int32) &&& 31))), (5, kw_i ((i (r (r a0 7) 2) (x4).toNatClampNeg) &&& (15 : Int32))), (0, kw_a a0), (1, kw_i x1), (2, kw_i x2), (4, kw_i x4)]) hm.1 5 dX2_holds_221 rfl rfl (by decide) rfl ?_
                    refine kk_loc (L' := [(0, kw_a a0), (1, kw_i x1), (2, kw_i x2), (3, kw_i (x3 + (-1 : Int32))), (4, kw_i x4)]) [3, 4, 5, 0, 6] rfl ?_
                    exact q_X2_holds_224 hm  h0  hk25 x2 ((x3 + (-1 : Int32))) x4 w213 h
                  · have h := h.2 c216
                    refine kk_iconst (v := (0 : Int32)) hm.1 dX2_holds_219 (by decide) ?_
                    exact kk_zret hm.1 hm.2.1 dX2_holds_220 (Or.inl rfl) ⟨_, rfl, rfl, rfl, rfl, rfl, h⟩
              · have h := h.2 c156
                refine kk_loc (L' := [(0, kw_a a0), (1, kw_i x1), (2, kw_i x2), (3, kw_i x3), (4, kw_i x4), (5, kw_i ((i (r (r a0 7) 2) (x4).toNatClampNeg) &&& (15 : Int32))), (6, kw_i ((i (r (r a0 7) 2) (x4).toNatClampNeg) >>> ((4 : Int32) &&& 31)))]) [2, 3, 4, 5, 6, 1, 0] rfl ?_
                exact q_X2_holds_159 hm  h0  hk25 x2 x3 x4 (((i (r (r a0 7) 2) (x4).toNatClampNeg) &&& (15 : Int32))) (((i (r (r a0 7) 2) (x4).toNatClampNeg) >>> ((4 : Int32) &&& 31))) w h
          · have h := h.2 c121
            refine kk_aload_n hm.1 2 dX2_holds_124 rfl rfl ?_
            refine kk_getR hm.1 ff_X2_22 dX2_holds_125 h0 ?_
            refine kk_iload_n hm.1 5 dX2_holds_128 rfl rfl ?_
            refine kk_iconst (v := (1 : Int32)) hm.1 dX2_holds_129 (by decide) ?_
            refine kk_isub hm.1 dX2_holds_130 ?_
            refine kk_lconst (v := (1 : Int64)) hm.1 dX2_holds_131 (by decide) ?_
            refine kk_aload_n hm.1 2 dX2_holds_132 rfl rfl ?_
            refine kk_getR hm.1 ff_X2_22 dX2_holds_133 h0 ?_
            refine kk_iload_n hm.1 5 dX2_holds_136 rfl rfl ?_
            refine kk_iconst (v := (1 : Int32)) hm.1 dX2_holds_137 (by decide) ?_
            refine kk_isub hm.1 dX2_holds_138 ?_
            obtain ⟨o139, h⟩ := h
            refine kk_laload hm.1 dX2_holds_139 o139 ?_
            refine kk_lsub hm.1 dX2_holds_140 ?_
            obtain ⟨o141, h⟩ := h
            refine kn_lastore hm.1 dX2_holds_141 o141 (fun w141 e141 => ?_)
            have h := h w141 e141
            refine kk_goto (tgt := 224) hm.1 dX2_holds_142 (by decide) ?_
            refine kk_loc (L' := [(0, kw_a a0), (1, kw_i x1), (2, kw_i x2), (3, kw_i x3), (4, kw_i x4)]) [2, 3, 4, 5, 6] rfl ?_
            exact q_X2_holds_224 hm  h0  hk25 x2 x3 x4 w141 h
        · have h := h.2 c112
          refine kk_iconst (v := (0 : Int32)) hm.1 dX2_holds_115 (by decide) ?_
          exact kk_zret hm.1 hm.2.1 dX2_holds_116 (Or.inl rfl) ⟨_, rfl, rfl, rfl, rfl, rfl, h⟩
      · have h := h.2 c68
        refine kk_loc (L' := [(0, kw_a a0), (1, kw_i x1), (2, kw_i x2), (3, kw_i x3), (4, kw_i x4), (5, kw_i ((i (r (r a0 7) 2) (x4).toNatClampNeg) &&& (15 : Int32))), (6, kw_i ((i (r (r a0 7) 2) (x4).toNatClampNeg) >>> ((4 : Int32) &&& 31)))]) [2, 3, 4, 5, 6, 1, 0] rfl ?_
        exact q_X2_holds_71 hm  h0  hk25 x2 x3 x4 (((i (r (r a0 7) 2) (x4).toNatClampNeg) &&& (15 : Int32))) (((i (r (r a0 7) 2) (x4).toNatClampNeg) >>> ((4 : Int32) &&& 31))) w h
set_option maxHeartbeats 4000000 in
set_option maxRecDepth 100000 in
theorem q_X2_holds_25 {a0 : Nat} {x1 : Int32} {T : kw_T} {n : Nat} {r : kw_R} {i : kw_I} {Q : Int32 → kw_L → Prop} {E : kw_E} {G : kw_G} (hm : kw_m E G cX2_holds 7 RX2 (some .boolean) rm_X2_holds "holds")  (h0 : T a0 = (0, 2))    : ∀ (N : Nat) (x2 : Int32) (x3 : Int32) (x4 : Int32) (w : kw_L), w_X2_holds_25 a0 x1 T n r i Q  N x2 x3 x4 w → kw_K E G 7 0 0 (kw_Z E G 0 0 (kw_PI (fun v T' n' r' i' w' => T = T' ∧ n = n' ∧ r = r' ∧ i = i' ∧ Q v w'))) 25 [(0, kw_a a0), (1, kw_i x1), (2, kw_i x2), (3, kw_i x3), (4, kw_i x4)] [] T n r i w := by
  intro N
  induction N with
  | zero => intro x2 x3 x4 w h; exact h.elim
  | succ N ih => intro x2 x3 x4 w h; exact qs_X2_holds_25 hm  h0  ih x2 x3 x4 w h
set_option maxHeartbeats 4000000 in
set_option maxRecDepth 100000 in
theorem t_X2_holds {l : Launch} {G : kw_G} {a0 : Nat} {x1 : Int32} {T : kw_T} {n : Nat} {r : kw_R} {i : kw_I} {w : kw_L} {Q : Int32 → kw_L → Prop} (h0 : T a0 = (0, 2)) (h : w_X2_holds a0 x1 T n r i w Q) : kw_Met l G yX2_holds cX2_holds 7 (some .boolean) rm_X2_holds [kw_a a0, kw_i x1] (T, n, r, i, w) (kw_PI (fun v T' n' r' i' w' => T = T' ∧ n = n' ∧ r = r' ∧ i = i' ∧ Q v w')) := by
  refine kw_Met.of (by decide) (Nat.le_of_ble_eq_true rfl) fun E hl hRm hE hT hnm => ?_
  have hm : kw_m E G cX2_holds 7 RX2 (some .boolean) rm_X2_holds "holds" := ⟨hE, hT, hRm, hnm⟩
  subst hl
  show kw_K E G 7 0 0 (kw_Z E G 0 0 (kw_PI (fun v T' n' r' i' w' => T = T' ∧ n = n' ∧ r = r' ∧ i = i' ∧ Q v w'))) 0 [(0, kw_a a0), (1, kw_i x1)] [] T n r i w
  refine kk_aload_n hm.1 0 dX2_holds_0 rfl rfl ?_
  refine kk_getR hm.1 ff_X2_35 dX2_holds_1 h0 ?_
  obtain ⟨o4, h⟩ := h
  refine kk_getR hm.1 ff_X2_85 dX2_holds_4 o4 ?_
  refine kk_iload_n hm.1 1 dX2_holds_7 rfl rfl ?_
  refine kk_iconst (v := (1 : Int32)) hm.1 dX2_holds_8 (by decide) ?_
  refine kk_iadd hm.1 dX2_holds_9 ?_
  obtain ⟨o10, h⟩ := h
  refine kk_iaload hm.1 dX2_holds_10 o10 ?_
  refine kk_istore_n (L' := [(2, kw_i (i (r (r a0 7) 1) ((x1 + (1 : Int32))).toNatClampNeg)), (0, kw_a a0), (1, kw_i x1)]) hm.1 dX2_holds_11 rfl (by decide) rfl ?_
  refine kk_iconst (v := (0 : Int32)) hm.1 dX2_holds_12 (by decide) ?_
  refine kk_istore_n (L' := [(3, kw_i (0 : Int32)), (2, kw_i (i (r (r a0 7) 1) ((x1 + (1 : Int32))).toNatClampNeg)), (0, kw_a a0), (1, kw_i x1)]) hm.1 dX2_holds_13 rfl (by decide) rfl ?_
  refine kk_aload_n hm.1 2 dX2_holds_14 rfl rfl ?_
  refine kk_getR hm.1 ff_X2_35 dX2_holds_15 h0 ?_
  refine kk_getR hm.1 ff_X2_85 dX2_holds_18 o4 ?_
  refine kk_iload_n hm.1 3 dX2_holds_21 rfl rfl ?_
  obtain ⟨o22, h⟩ := h
  refine kk_iaload hm.1 dX2_holds_22 o22 ?_
  refine kk_istore (L' := [(4, kw_i (i (r (r a0 7) 1) (x1).toNatClampNeg)), (3, kw_i (0 : Int32)), (2, kw_i (i (r (r a0 7) 1) ((x1 + (1 : Int32))).toNatClampNeg)), (0, kw_a a0), (1, kw_i x1)]) hm.1 dX2_holds_23 (by decide) rfl ?_
  refine kk_loc (L' := [(0, kw_a a0), (1, kw_i x1), (2, kw_i (i (r (r a0 7) 1) ((x1 + (1 : Int32))).toNatClampNeg)), (3, kw_i (0 : Int32)), (4, kw_i (i (r (r a0 7) 1) (x1).toNatClampNeg))]) [3, 4, 2, 1, 0] rfl ?_
  obtain ⟨N, h⟩ := h
  exact q_X2_holds_25 hm  h0   N ((i (r (r a0 7) 1) ((x1 + (1 : Int32))).toNatClampNeg)) ((0 : Int32)) ((i (r (r a0 7) 1) (x1).toNatClampNeg)) w h
def w_X2_nearest_74 (a0 : Nat) (x1 : Int32) (l2 : Int64) (T : kw_T) (n : Nat) (r : kw_R) (i : kw_I) (w : kw_L) (Q : Int32 → Prop) (k17 : Int32 → Int32 → Prop) (x4 : Int32) (x5 : Int32) : Prop :=
  k17 x4 ((x5 + (1 : Int32)))
def w_X2_nearest_55 (a0 : Nat) (x1 : Int32) (l2 : Int64) (T : kw_T) (n : Nat) (r : kw_R) (i : kw_I) (w : kw_L) (Q : Int32 → Prop) (k17 : Int32 → Int32 → Prop) (x4 : Int32) (x5 : Int32) (x7 : Int32) : Prop :=
  ((8 : Int32) ≤ x7 → w_X2_nearest_74 a0 x1 l2 T n r i w Q k17 x4 x5) ∧ (¬ (8 : Int32) ≤ x7 → (((x1 >>> (x7 &&& 31)) &&& (1 : Int32)) = 0 → w_X2_nearest_74 a0 x1 l2 T n r i w Q k17 x4 x5) ∧ (¬ ((x1 >>> (x7 &&& 31)) &&& (1 : Int32)) = 0 → Q x7))
def s_X2_nearest_17 (a0 : Nat) (x1 : Int32) (l2 : Int64) (T : kw_T) (n : Nat) (r : kw_R) (i : kw_I) (w : kw_L) (Q : Int32 → Prop)  (k17 : Int32 → Int32 → Prop) (x4 : Int32) (x5 : Int32) : Prop :=
  ((8 : Int32) ≤ x5 → Q (0 : Int32)) ∧ (¬ (8 : Int32) ≤ x5 → ((x4 - x5) < 0 → w_X2_nearest_55 a0 x1 l2 T n r i w Q k17 x4 x5 ((x4 + x5))) ∧ (¬ (x4 - x5) < 0 → (((x1 >>> ((x4 - x5) &&& 31)) &&& (1 : Int32)) = 0 → w_X2_nearest_55 a0 x1 l2 T n r i w Q k17 x4 x5 ((x4 + x5))) ∧ (¬ ((x1 >>> ((x4 - x5) &&& 31)) &&& (1 : Int32)) = 0 → Q (x4 - x5))))
def w_X2_nearest_17 (a0 : Nat) (x1 : Int32) (l2 : Int64) (T : kw_T) (n : Nat) (r : kw_R) (i : kw_I) (w : kw_L) (Q : Int32 → Prop)  : Nat → Int32 → Int32 → Prop
  | 0 => fun _ _ => False
  | N + 1 => s_X2_nearest_17 a0 x1 l2 T n r i w Q  (w_X2_nearest_17 a0 x1 l2 T n r i w Q  N)
def w_X2_nearest  (a0 : Nat) (x1 : Int32) (l2 : Int64) (T : kw_T) (n : Nat) (r : kw_R) (i : kw_I) (w : kw_L) (Q : Int32 → Prop) : Prop :=
  ∃ N, w_X2_nearest_17 a0 x1 l2 T n r i w Q  N (((if (if l2 < (7 : Int64) then l2 else (7 : Int64)) < (0 : Int64) then (0 : Int64) else (if l2 < (7 : Int64) then l2 else (7 : Int64))).toInt32)) ((0 : Int32))
abbrev rm_X2_nearest : Room := { frames := 1, cells := 0, slots := 0, locals := 60 }
set_option maxHeartbeats 4000000 in
set_option maxRecDepth 100000 in
theorem q_X2_nearest_74 {a0 : Nat} {x1 : Int32} {l2 : Int64} {T : kw_T} {n : Nat} {r : kw_R} {i : kw_I} {w : kw_L} {Q : Int32 → Prop} {E : kw_E} {G : kw_G} (hm : kw_m E G cX2_nearest 8 RX2 (some .int) rm_X2_nearest "nearest")  (h0 : T a0 = (0, 2))  {k17 : Int32 → Int32 → Prop} (hk17 : ∀ (x4 : Int32) (x5 : Int32), k17 x4 x5 → kw_K E G 8 0 0 (kw_Z E G 0 0 (kw_PI (fun v T' n' r' i' w' => T = T' ∧ n = n' ∧ r = r' ∧ i = i' ∧ w = w' ∧ Q v))) 17 [(0, kw_a a0), (1, kw_i x1), (2, kw_l l2), (4, kw_i x4), (5, kw_i x5)] [] T n r i w) (x4 : Int32) (x5 : Int32) (h : w_X2_nearest_74 a0 x1 l2 T n r i w Q k17 x4 x5) : kw_K E G 8 0 0 (kw_Z E G 0 0 (kw_PI (fun v T' n' r' i' w' => T = T' ∧ n = n' ∧ r = r' ∧ i = i' ∧ w = w' ∧ Q v))) 74 [(0, kw_a a0), (1, kw_i x1), (2, kw_l l2), (4, kw_i x4), (5, kw_i x5)] [] T n r i w := by
  refine kk_iinc (v := (x5 + (1 : Int32))) (L' := [(5, kw_i (x5 + (1 : Int32))), (0, kw_a a0), (1, kw_i x1), (2, kw_l l2), (4, kw_i x4)]) hm.1 4 dX2_nearest_74 rfl rfl (by decide) rfl ?_
  refine kk_goto (tgt := 17) hm.1 dX2_nearest_77 (by decide) ?_
  refine kk_loc (L' := [(0, kw_a a0), (1, kw_i x1), (2, kw_l l2), (4, kw_i x4), (5, kw_i (x5 + (1 : Int32)))]) [1, 2, 3, 4, 0] rfl ?_
  exact hk17 x4 ((x5 + (1 : Int32))) h
set_option maxHeartbeats 4000000 in
set_option maxRecDepth 100000 in
theorem q_X2_nearest_55 {a0 : Nat} {x1 : Int32} {l2 : Int64} {T : kw_T} {n : Nat} {r : kw_R} {i : kw_I} {w : kw_L} {Q : Int32 → Prop} {E : kw_E} {G : kw_G} (hm : kw_m E G cX2_nearest 8 RX2 (some .int) rm_X2_nearest "nearest")  (h0 : T a0 = (0, 2))  {k17 : Int32 → Int32 → Prop} (hk17 : ∀ (x4 : Int32) (x5 : Int32), k17 x4 x5 → kw_K E G 8 0 0 (kw_Z E G 0 0 (kw_PI (fun v T' n' r' i' w' => T = T' ∧ n = n' ∧ r = r' ∧ i = i' ∧ w = w' ∧ Q v))) 17 [(0, kw_a a0), (1, kw_i x1), (2, kw_l l2), (4, kw_i x4), (5, kw_i x5)] [] T n r i w) (x4 : Int32) (x5 : Int32) (x7 : Int32) (h : w_X2_nearest_55 a0 x1 l2 T n r i w Q k17 x4 x5 x7) : kw_K E G 8 0 0 (kw_Z E G 0 0 (kw_PI (fun v T' n' r' i' w' => T = T' ∧ n = n' ∧ r = r' ∧ i = i' ∧ w = w' ∧ Q v))) 55 [(0, kw_a a0), (1, kw_i x1), (2, kw_l l2), (4, kw_i x4), (5, kw_i x5), (7, kw_i x7)] [] T n r i w := by
  refine kk_iload hm.1 5 dX2_nearest_55 rfl ?_
  refine kk_bipush (v := (8 : Int32)) hm.1 dX2_nearest_57 (by decide) ?_
  refine kk_icmp_ge (tgt := 74) hm.1 dX2_nearest_59 (by decide) (fun c59 => ?_) (fun c59 => ?_)
  · have h := h.1 c59
    refine kk_loc (L' := [(0, kw_a a0), (1, kw_i x1), (2, kw_l l2), (4, kw_i x4), (5, kw_i x5)]) [0, 1, 2, 3, 4] rfl ?_
    exact q_X2_nearest_74 hm  h0  hk17 x4 x5 h
  · have h := h.2 c59
    refine kk_iload_n hm.1 1 dX2_nearest_62 rfl rfl ?_
    refine kk_iload hm.1 5 dX2_nearest_63 rfl ?_
    refine kk_ishr hm.1 dX2_nearest_65 ?_
    refine kk_iconst (v := (1 : Int32)) hm.1 dX2_nearest_66 (by decide) ?_
    refine kk_iand hm.1 dX2_nearest_67 ?_
    refine kk_if_eq (tgt := 74) hm.1 dX2_nearest_68 (by decide) (fun c68 => ?_) (fun c68 => ?_)
    · have h := h.1 c68
      refine kk_loc (L' := [(0, kw_a a0), (1, kw_i x1), (2, kw_l l2), (4, kw_i x4), (5, kw_i x5)]) [0, 1, 2, 3, 4] rfl ?_
      exact q_X2_nearest_74 hm  h0  hk17 x4 x5 h
    · have h := h.2 c68
      refine kk_iload hm.1 5 dX2_nearest_71 rfl ?_
      exact kk_iret hm.1 hm.2.1 dX2_nearest_73 ⟨_, rfl, rfl, rfl, rfl, rfl, rfl, h⟩
set_option maxHeartbeats 4000000 in
set_option maxRecDepth 100000 in
theorem qs_X2_nearest_17 {a0 : Nat} {x1 : Int32} {l2 : Int64} {T : kw_T} {n : Nat} {r : kw_R} {i : kw_I} {w : kw_L} {Q : Int32 → Prop} {E : kw_E} {G : kw_G} (hm : kw_m E G cX2_nearest 8 RX2 (some .int) rm_X2_nearest "nearest")  (h0 : T a0 = (0, 2))    {k17 : Int32 → Int32 → Prop} (hk17 : ∀ (x4 : Int32) (x5 : Int32), k17 x4 x5 → kw_K E G 8 0 0 (kw_Z E G 0 0 (kw_PI (fun v T' n' r' i' w' => T = T' ∧ n = n' ∧ r = r' ∧ i = i' ∧ w = w' ∧ Q v))) 17 [(0, kw_a a0), (1, kw_i x1), (2, kw_l l2), (4, kw_i x4), (5, kw_i x5)] [] T n r i w) (x4 : Int32) (x5 : Int32) (h : s_X2_nearest_17 a0 x1 l2 T n r i w Q  k17 x4 x5) : kw_K E G 8 0 0 (kw_Z E G 0 0 (kw_PI (fun v T' n' r' i' w' => T = T' ∧ n = n' ∧ r = r' ∧ i = i' ∧ w = w' ∧ Q v))) 17 [(0, kw_a a0), (1, kw_i x1), (2, kw_l l2), (4, kw_i x4), (5, kw_i x5)] [] T n r i w := by
  refine kk_iload hm.1 4 dX2_nearest_17 rfl ?_
  refine kk_bipush (v := (8 : Int32)) hm.1 dX2_nearest_19 (by decide) ?_
  refine kk_icmp_ge (tgt := 80) hm.1 dX2_nearest_21 (by decide) (fun c21 => ?_) (fun c21 => ?_)
  · have h := h.1 c21
    refine kk_iconst (v := (0 : Int32)) hm.1 dX2_nearest_80 (by decide) ?_
    exact kk_iret hm.1 hm.2.1 dX2_nearest_81 ⟨_, rfl, rfl, rfl, rfl, rfl, rfl, h⟩
  · have h := h.2 c21
    refine kk_iload hm.1 3 dX2_nearest_24 rfl ?_
    refine kk_iload hm.1 4 dX2_nearest_26 rfl ?_
    refine kk_isub hm.1 dX2_nearest_28 ?_
    refine kk_istore (L' := [(6, kw_i (x4 - x5)), (0, kw_a a0), (1, kw_i x1), (2, kw_l l2), (4, kw_i x4), (5, kw_i x5)]) hm.1 dX2_nearest_29 (by decide) rfl ?_
    refine kk_iload hm.1 4 dX2_nearest_31 rfl ?_
    refine kk_iload hm.1 5 dX2_nearest_33 rfl ?_
    refine kk_iadd hm.1 dX2_nearest_35 ?_
    refine kk_istore (L' := [(7, kw_i (x4 + x5)), (6, kw_i (x4 - x5)), (0, kw_a a0), (1, kw_i x1), (2, kw_l l2), (4, kw_i x4), (5, kw_i x5)]) hm.1 dX2_nearest_36 (by decide) rfl ?_
    refine kk_iload hm.1 1 dX2_nearest_38 rfl ?_
    refine kk_if_lt (tgt := 55) hm.1 dX2_nearest_40 (by decide) (fun c40 => ?_) (fun c40 => ?_)
    · have h := h.1 c40
      refine kk_loc (L' := [(0, kw_a a0), (1, kw_i x1), (2, kw_l l2), (4, kw_i x4), (5, kw_i x5), (7, kw_i (x4 + x5))]) [2, 3, 4, 5, 6, 0] rfl ?_
      exact q_X2_nearest_55 hm  h0  hk17 x4 x5 ((x4 + x5)) h
    · have h := h.2 c40
      refine kk_iload_n hm.1 3 dX2_nearest_43 rfl rfl ?_
      refine kk_iload hm.1 1 dX2_nearest_44 rfl ?_
      refine kk_ishr hm.1 dX2_nearest_46 ?_
      refine kk_iconst (v := (1 : Int32)) hm.1 dX2_nearest_47 (by decide) ?_
      refine kk_iand hm.1 dX2_nearest_48 ?_
      refine kk_if_eq (tgt := 55) hm.1 dX2_nearest_49 (by decide) (fun c49 => ?_) (fun c49 => ?_)
      · have h := h.1 c49
        refine kk_loc (L' := [(0, kw_a a0), (1, kw_i x1), (2, kw_l l2), (4, kw_i x4), (5, kw_i x5), (7, kw_i (x4 + x5))]) [2, 3, 4, 5, 6, 0] rfl ?_
        exact q_X2_nearest_55 hm  h0  hk17 x4 x5 ((x4 + x5)) h
      · have h := h.2 c49
        refine kk_iload hm.1 1 dX2_nearest_52 rfl ?_
        exact kk_iret hm.1 hm.2.1 dX2_nearest_54 ⟨_, rfl, rfl, rfl, rfl, rfl, rfl, h⟩
set_option maxHeartbeats 4000000 in
set_option maxRecDepth 100000 in
theorem q_X2_nearest_17 {a0 : Nat} {x1 : Int32} {l2 : Int64} {T : kw_T} {n : Nat} {r : kw_R} {i : kw_I} {w : kw_L} {Q : Int32 → Prop} {E : kw_E} {G : kw_G} (hm : kw_m E G cX2_nearest 8 RX2 (some .int) rm_X2_nearest "nearest")  (h0 : T a0 = (0, 2))    : ∀ (N : Nat) (x4 : Int32) (x5 : Int32), w_X2_nearest_17 a0 x1 l2 T n r i w Q  N x4 x5 → kw_K E G 8 0 0 (kw_Z E G 0 0 (kw_PI (fun v T' n' r' i' w' => T = T' ∧ n = n' ∧ r = r' ∧ i = i' ∧ w = w' ∧ Q v))) 17 [(0, kw_a a0), (1, kw_i x1), (2, kw_l l2), (4, kw_i x4), (5, kw_i x5)] [] T n r i w := by
  intro N
  induction N with
  | zero => intro x4 x5 h; exact h.elim
  | succ N ih => intro x4 x5 h; exact qs_X2_nearest_17 hm  h0  ih x4 x5 h
set_option maxHeartbeats 4000000 in
set_option maxRecDepth 100000 in
theorem t_X2_nearest {l : Launch} {G : kw_G} {a0 : Nat} {x1 : Int32} {l2 : Int64} {T : kw_T} {n : Nat} {r : kw_R} {i : kw_I} {w : kw_L} {Q : Int32 → Prop} (h0 : T a0 = (0, 2)) (h : w_X2_nearest a0 x1 l2 T n r i w Q) : kw_Met l G yX2_nearest cX2_nearest 8 (some .int) rm_X2_nearest [kw_a a0, kw_i x1, kw_l l2] (T, n, r, i, w) (kw_PI (fun v T' n' r' i' w' => T = T' ∧ n = n' ∧ r = r' ∧ i = i' ∧ w = w' ∧ Q v)) := by
  refine kw_Met.of (by decide) (Nat.le_of_ble_eq_true rfl) fun E hl hRm hE hT hnm => ?_
  have hm : kw_m E G cX2_nearest 8 RX2 (some .int) rm_X2_nearest "nearest" := ⟨hE, hT, hRm, hnm⟩
  subst hl
  show kw_K E G 8 0 0 (kw_Z E G 0 0 (kw_PI (fun v T' n' r' i' w' => T = T' ∧ n = n' ∧ r = r' ∧ i = i' ∧ w = w' ∧ Q v))) 0 [(0, kw_a a0), (1, kw_i x1), (2, kw_l l2)] [] T n r i w
  refine kk_lconst (v := (0 : Int64)) hm.1 dX2_nearest_0 (by decide) ?_
  refine kk_ldc2 (v := (7 : Int64)) hm.1 dX2_nearest_1 wl_X2_74 ?_
  refine kk_lload_n hm.1 2 dX2_nearest_4 rfl rfl ?_
  refine kn_mminL (st := [kw_l (0 : Int64)]) hm.1 wm_X2_76 wmminL_s wo_m wmminL_c dX2_nearest_5 hm.2.2.1 (by decide) (Nat.le_of_ble_eq_true rfl) (by decide) (by decide) ?_
  refine kn_mmaxL (st := []) hm.1 wm_X2_82 wmmaxL_s wo_m wmmaxL_c dX2_nearest_8 hm.2.2.1 (by decide) (Nat.le_of_ble_eq_true rfl) (by decide) (by decide) ?_
  refine kk_l2i hm.1 dX2_nearest_11 ?_
  refine kk_istore (L' := [(4, kw_i ((if (if l2 < (7 : Int64) then l2 else (7 : Int64)) < (0 : Int64) then (0 : Int64) else (if l2 < (7 : Int64) then l2 else (7 : Int64))).toInt32)), (0, kw_a a0), (1, kw_i x1), (2, kw_l l2)]) hm.1 dX2_nearest_12 (by decide) rfl ?_
  refine kk_iconst (v := (0 : Int32)) hm.1 dX2_nearest_14 (by decide) ?_
  refine kk_istore (L' := [(5, kw_i (0 : Int32)), (4, kw_i ((if (if l2 < (7 : Int64) then l2 else (7 : Int64)) < (0 : Int64) then (0 : Int64) else (if l2 < (7 : Int64) then l2 else (7 : Int64))).toInt32)), (0, kw_a a0), (1, kw_i x1), (2, kw_l l2)]) hm.1 dX2_nearest_15 (by decide) rfl ?_
  refine kk_loc (L' := [(0, kw_a a0), (1, kw_i x1), (2, kw_l l2), (4, kw_i ((if (if l2 < (7 : Int64) then l2 else (7 : Int64)) < (0 : Int64) then (0 : Int64) else (if l2 < (7 : Int64) then l2 else (7 : Int64))).toInt32)), (5, kw_i (0 : Int32))]) [2, 3, 4, 1, 0] rfl ?_
  obtain ⟨N, h⟩ := h
  exact q_X2_nearest_17 hm  h0   N (((if (if l2 < (7 : Int64) then l2 else (7 : Int64)) < (0 : Int64) then (0 : Int64) else (if l2 < (7 : Int64) then l2 else (7 : Int64))).toInt32)) ((0 : Int32)) h
