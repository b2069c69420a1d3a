def w_X9_refuse  (a0 : Nat) (x1 : Int32) (T : kw_T) (n : Nat) (r : kw_R) (i : kw_I) (w : kw_L) (Q : Int32 → kw_I → Prop) : Prop :=
  ∀ i2 : kw_I, i2 = kw_st i a0 9 x1 → ((¬ x1 = (-1 : Int32) → (¬ x1 = (-2 : Int32) → (¬ x1 = (-5 : Int32) → kw_in T 1 (r a0 8) (3 : Int32) ∧ (kw_in T 1 (r a0 8) (3 : Int32) ∧ (∀ i70 : kw_I, i70 = kw_st i2 (r a0 8) ((3 : Int32)).toNatClampNeg ((i2 (r a0 8) ((3 : Int32)).toNatClampNeg) + (1 : Int32)) → (Q x1 i70)))) ∧ (x1 = (-5 : Int32) → kw_in T 1 (r a0 8) (2 : Int32) ∧ (kw_in T 1 (r a0 8) (2 : Int32) ∧ (∀ i57 : kw_I, i57 = kw_st i2 (r a0 8) ((2 : Int32)).toNatClampNeg ((i2 (r a0 8) ((2 : Int32)).toNatClampNeg) + (1 : Int32)) → (Q x1 i57))))) ∧ (x1 = (-2 : Int32) → kw_in T 1 (r a0 8) (1 : Int32) ∧ (kw_in T 1 (r a0 8) (1 : Int32) ∧ (∀ i38 : kw_I, i38 = kw_st i2 (r a0 8) ((1 : Int32)).toNatClampNeg ((i2 (r a0 8) ((1 : Int32)).toNatClampNeg) + (1 : Int32)) → (Q x1 i38))))) ∧ (x1 = (-1 : Int32) → kw_in T 1 (r a0 8) (0 : Int32) ∧ (kw_in T 1 (r a0 8) (0 : Int32) ∧ (∀ i19 : kw_I, i19 = kw_st i2 (r a0 8) ((0 : Int32)).toNatClampNeg ((i2 (r a0 8) ((0 : Int32)).toNatClampNeg) + (1 : Int32)) → (Q x1 i19)))))
abbrev rm_X9_refuse : Room := { frames := 1, cells := 0, slots := 0, locals := 60 }
set_option maxHeartbeats 4000000 in
set_option maxRecDepth 100000 in
theorem t_X9_refuse {l : Launch} {G : kw_G} {a0 : Nat} {x1 : Int32} {T : kw_T} {n : Nat} {r : kw_R} {i : kw_I} {w : kw_L} {Q : Int32 → kw_I → Prop} (h0 : T a0 = (0, 9)) (h : w_X9_refuse a0 x1 T n r i w Q) : kw_Met l G yX9_refuse cX9_refuse 2 (some .int) rm_X9_refuse [kw_a a0, kw_i x1] (T, n, r, i, w) (kw_PI (fun v T' n' r' i' w' => T = T' ∧ n = n' ∧ r = r' ∧ w = w' ∧ Q v i')) := by
  refine kw_Met.of (by decide) (Nat.le_of_ble_eq_true rfl) fun E hl hRm hE hT hnm => ?_
  have hm : kw_m E G cX9_refuse 2 RX9 (some .int) rm_X9_refuse "refuse" := ⟨hE, hT, hRm, hnm⟩
  subst hl
  show kw_K E G 2 0 0 (kw_Z E G 0 0 (kw_PI (fun v T' n' r' i' w' => T = T' ∧ n = n' ∧ r = r' ∧ w = w' ∧ Q v i'))) 0 [(0, kw_a a0), (1, kw_i x1)] [] T n r i w
  refine kk_aload_n hm.1 0 dX9_refuse_0 rfl rfl ?_
  refine kk_iload_n hm.1 1 dX9_refuse_1 rfl rfl ?_
  refine kn_putI hm.1 fp_X9_68 dX9_refuse_2 h0 (fun i2 e2 => ?_)
  have h := h i2 e2
  refine kk_iload_n hm.1 1 dX9_refuse_5 rfl rfl ?_
  refine kk_iconst (v := (-1 : Int32)) hm.1 dX9_refuse_6 (by decide) ?_
  refine kk_icmp_ne (tgt := 23) hm.1 dX9_refuse_7 (by decide) (fun c7 => ?_) (fun c7 => ?_)
  · have h := h.1 c7
    refine kk_iload_n hm.1 1 dX9_refuse_23 rfl rfl ?_
    refine kk_bipush (v := (-2 : Int32)) hm.1 dX9_refuse_24 (by decide) ?_
    refine kk_icmp_ne (tgt := 42) hm.1 dX9_refuse_26 (by decide) (fun c26 => ?_) (fun c26 => ?_)
    · have h := h.1 c26
      refine kk_iload_n hm.1 1 dX9_refuse_42 rfl rfl ?_
      refine kk_bipush (v := (-5 : Int32)) hm.1 dX9_refuse_43 (by decide) ?_
      refine kk_icmp_ne (tgt := 61) hm.1 dX9_refuse_45 (by decide) (fun c45 => ?_) (fun c45 => ?_)
      · have h := h.1 c45
        refine kk_aload_n hm.1 0 dX9_refuse_61 rfl rfl ?_
        refine kk_getR hm.1 ff_X9_64 dX9_refuse_62 h0 ?_
        refine kk_iconst (v := (3 : Int32)) hm.1 dX9_refuse_65 (by decide) ?_
        refine kk_dup2 hm.1 dX9_refuse_66 rfl rfl ?_
        obtain ⟨o67, h⟩ := h
        refine kk_iaload hm.1 dX9_refuse_67 o67 ?_
        refine kk_iconst (v := (1 : Int32)) hm.1 dX9_refuse_68 (by decide) ?_
        refine kk_iadd hm.1 dX9_refuse_69 ?_
        obtain ⟨o70, h⟩ := h
        refine kn_iastore hm.1 dX9_refuse_70 o70 (fun i70 e70 => ?_)
        have h := h i70 e70
        refine kk_iload_n hm.1 1 dX9_refuse_71 rfl rfl ?_
        exact kk_iret hm.1 hm.2.1 dX9_refuse_72 ⟨_, rfl, rfl, rfl, rfl, rfl, h⟩
      · have h := h.2 c45
        refine kk_aload_n hm.1 0 dX9_refuse_48 rfl rfl ?_
        refine kk_getR hm.1 ff_X9_64 dX9_refuse_49 h0 ?_
        refine kk_iconst (v := (2 : Int32)) hm.1 dX9_refuse_52 (by decide) ?_
        refine kk_dup2 hm.1 dX9_refuse_53 rfl rfl ?_
        obtain ⟨o54, h⟩ := h
        refine kk_iaload hm.1 dX9_refuse_54 o54 ?_
        refine kk_iconst (v := (1 : Int32)) hm.1 dX9_refuse_55 (by decide) ?_
        refine kk_iadd hm.1 dX9_refuse_56 ?_
        obtain ⟨o57, h⟩ := h
        refine kn_iastore hm.1 dX9_refuse_57 o57 (fun i57 e57 => ?_)
        have h := h i57 e57
        refine kk_goto (tgt := 71) hm.1 dX9_refuse_58 (by decide) ?_
        refine kk_iload_n hm.1 1 dX9_refuse_71 rfl rfl ?_
        exact kk_iret hm.1 hm.2.1 dX9_refuse_72 ⟨_, rfl, rfl, rfl, rfl, rfl, h⟩
    · have h := h.2 c26
      refine kk_aload_n hm.1 0 dX9_refuse_29 rfl rfl ?_
      refine kk_getR hm.1 ff_X9_64 dX9_refuse_30 h0 ?_
      refine kk_iconst (v := (1 : Int32)) hm.1 dX9_refuse_33 (by decide) ?_
      refine kk_dup2 hm.1 dX9_refuse_34 rfl rfl ?_
      obtain ⟨o35, h⟩ := h
      refine kk_iaload hm.1 dX9_refuse_35 o35 ?_
      refine kk_iconst (v := (1 : Int32)) hm.1 dX9_refuse_36 (by decide) ?_
      refine kk_iadd hm.1 dX9_refuse_37 ?_
      obtain ⟨o38, h⟩ := h
      refine kn_iastore hm.1 dX9_refuse_38 o38 (fun i38 e38 => ?_)
      have h := h i38 e38
      refine kk_goto (tgt := 71) hm.1 dX9_refuse_39 (by decide) ?_
      refine kk_iload_n hm.1 1 dX9_refuse_71 rfl rfl ?_
      exact kk_iret hm.1 hm.2.1 dX9_refuse_72 ⟨_, rfl, rfl, rfl, rfl, rfl, h⟩
  · have h := h.2 c7
    refine kk_aload_n hm.1 0 dX9_refuse_10 rfl rfl ?_
    refine kk_getR hm.1 ff_X9_64 dX9_refuse_11 h0 ?_
    refine kk_iconst (v := (0 : Int32)) hm.1 dX9_refuse_14 (by decide) ?_
    refine kk_dup2 hm.1 dX9_refuse_15 rfl rfl ?_
    obtain ⟨o16, h⟩ := h
    refine kk_iaload hm.1 dX9_refuse_16 o16 ?_
    refine kk_iconst (v := (1 : Int32)) hm.1 dX9_refuse_17 (by decide) ?_
    refine kk_iadd hm.1 dX9_refuse_18 ?_
    obtain ⟨o19, h⟩ := h
    refine kn_iastore hm.1 dX9_refuse_19 o19 (fun i19 e19 => ?_)
    have h := h i19 e19
    refine kk_goto (tgt := 71) hm.1 dX9_refuse_20 (by decide) ?_
    refine kk_iload_n hm.1 1 dX9_refuse_71 rfl rfl ?_
    exact kk_iret hm.1 hm.2.1 dX9_refuse_72 ⟨_, rfl, rfl, rfl, rfl, rfl, h⟩
def w_X9_allow  (a0 : Nat) (x1 : Int32) (T : kw_T) (n : Nat) (r : kw_R) (i : kw_I) (w : kw_L) (Q : Int32 → kw_I → Prop) : Prop :=
  ∀ i2 : kw_I, i2 = kw_st i a0 9 (0 : Int32) → (Q x1 i2)
abbrev rm_X9_allow : Room := { frames := 1, cells := 0, slots := 0, locals := 60 }
set_option maxHeartbeats 4000000 in
set_option maxRecDepth 100000 in
theorem t_X9_allow {l : Launch} {G : kw_G} {a0 : Nat} {x1 : Int32} {T : kw_T} {n : Nat} {r : kw_R} {i : kw_I} {w : kw_L} {Q : Int32 → kw_I → Prop} (h0 : T a0 = (0, 9)) (h : w_X9_allow a0 x1 T n r i w Q) : kw_Met l G yX9_allow cX9_allow 2 (some .int) rm_X9_allow [kw_a a0, kw_i x1] (T, n, r, i, w) (kw_PI (fun v T' n' r' i' w' => T = T' ∧ n = n' ∧ r = r' ∧ w = w' ∧ Q v i')) := by
  refine kw_Met.of (by decide) (Nat.le_of_ble_eq_true rfl) fun E hl hRm hE hT hnm => ?_
  have hm : kw_m E G cX9_allow 2 RX9 (some .int) rm_X9_allow "allow" := ⟨hE, hT, hRm, hnm⟩
  subst hl
  show kw_K E G 2 0 0 (kw_Z E G 0 0 (kw_PI (fun v T' n' r' i' w' => T = T' ∧ n = n' ∧ r = r' ∧ w = w' ∧ Q v i'))) 0 [(0, kw_a a0), (1, kw_i x1)] [] T n r i w
  refine kk_aload_n hm.1 0 dX9_allow_0 rfl rfl ?_
  refine kk_iconst (v := (0 : Int32)) hm.1 dX9_allow_1 (by decide) ?_
  refine kn_putI hm.1 fp_X9_68 dX9_allow_2 h0 (fun i2 e2 => ?_)
  have h := h i2 e2
  refine kk_iload_n hm.1 1 dX9_allow_5 rfl rfl ?_
  exact kk_iret hm.1 hm.2.1 dX9_allow_6 ⟨_, rfl, rfl, rfl, rfl, rfl, h⟩
def w_X9_changed  (a0 : Nat) (x1 : Int32) (T : kw_T) (n : Nat) (r : kw_R) (i : kw_I) (w : kw_L) (Q : Int32 → kw_I → Prop) : Prop :=
  ∀ i2 : kw_I, i2 = kw_st i a0 12 (1 : Int32) → (w_X9_allow a0 x1 T n r i2 w (fun v7 i7 => Q v7 i7))
abbrev rm_X9_changed : Room := { frames := 2, cells := 0, slots := 0, locals := 81 }
set_option maxHeartbeats 4000000 in
set_option maxRecDepth 100000 in
theorem t_X9_changed {l : Launch} {G : kw_G} {a0 : Nat} {x1 : Int32} {T : kw_T} {n : Nat} {r : kw_R} {i : kw_I} {w : kw_L} {Q : Int32 → kw_I → Prop} (h0 : T a0 = (0, 9)) (h : w_X9_changed a0 x1 T n r i w Q) : kw_Met l G yX9_changed cX9_changed 2 (some .int) rm_X9_changed [kw_a a0, kw_i x1] (T, n, r, i, w) (kw_PI (fun v T' n' r' i' w' => T = T' ∧ n = n' ∧ r = r' ∧ w = w' ∧ Q v i')) := by
  refine kw_Met.of (by decide) (Nat.le_of_ble_eq_true rfl) fun E hl hRm hE hT hnm => ?_
  have hm : kw_m E G cX9_changed 2 RX9 (some .int) rm_X9_changed "changed" := ⟨hE, hT, hRm, hnm⟩
  subst hl
  show kw_K E G 2 0 0 (kw_Z E G 0 0 (kw_PI (fun v T' n' r' i' w' => T = T' ∧ n = n' ∧ r = r' ∧ w = w' ∧ Q v i'))) 0 [(0, kw_a a0), (1, kw_i x1)] [] T n r i w
  refine kk_aload_n hm.1 0 dX9_changed_0 rfl rfl ?_
  refine kk_iconst (v := (1 : Int32)) hm.1 dX9_changed_1 (by decide) ?_
  refine kn_putZ hm.1 fp_X9_78 dX9_changed_2 h0 (Or.inr rfl) (fun i2 e2 => ?_)
  have h := h i2 e2
  refine kk_aload_n hm.1 0 dX9_changed_5 rfl rfl ?_
  refine kk_iload_n hm.1 1 dX9_changed_6 rfl rfl ?_
  refine kk_callVi (cs' := 0) (sl' := 0) (st := []) hm.1 cv_X9_123 (t_X9_allow h0 h) dX9_changed_7 h0 rfl rfl hm.2.2.1 ⟨by decide, by decide⟩ ⟨by decide, by decide⟩ rfl rfl (Nat.le_of_ble_eq_true rfl) rfl ?_
  rintro v7 _ _ _ i7 _ ⟨rfl, rfl, rfl, rfl, h⟩
  exact kk_iret hm.1 hm.2.1 dX9_changed_10 ⟨_, rfl, rfl, rfl, rfl, rfl, h⟩
def w_X9_village  (a0 : Nat) (x1 : Int32) (x2 : Int32) (x3 : Int32) (x4 : Int32) (T : kw_T) (n : Nat) (r : kw_R) (i : kw_I) (w : kw_L) (Q : Int32 → kw_I → Prop) : Prop :=
  w_X9_isKeyhole x1 x2 x3 x4 T n r i w (fun v5 => (¬ v5 = 0 → T ((r a0 0)) = (0, 6) ∧ (((i (r a0 0) 5) < (10 : Int32) → ∀ i55 : kw_I, i55 = kw_st i (r a0 0) 5 ((i (r a0 0) 5) + (1 : Int32)) → (w_X6_setKeyhole (r a0 0) (i (r a0 0) 5) x1 x2 x3 x4 T n r i55 w (fun i69 => kw_in T 5 (r (r a0 0) 0) (4 : Int32) ∧ (kw_in T 1 (r (r (r a0 0) 0) ((4 : Int32)).toNatClampNeg) (i (r a0 0) 5) ∧ (∀ i84 : kw_I, i84 = kw_st i69 (r (r (r a0 0) 0) ((4 : Int32)).toNatClampNeg) ((i (r a0 0) 5)).toNatClampNeg (0 : Int32) → (kw_in T 5 (r (r a0 0) 0) (5 : Int32) ∧ (kw_in T 1 (r (r (r a0 0) 0) ((5 : Int32)).toNatClampNeg) (i (r a0 0) 5) ∧ (∀ i99 : kw_I, i99 = kw_st i84 (r (r (r a0 0) 0) ((5 : Int32)).toNatClampNeg) ((i (r a0 0) 5)).toNatClampNeg (255 : Int32) → (w_X9_changed a0 (i (r a0 0) 5) T n r i99 w (fun v103 i103 => Q v103 i103)))))))))) ∧ (¬ (i (r a0 0) 5) < (10 : Int32) → w_X9_refuse a0 (-5 : Int32) T n r i w (fun v32 i32 => Q v32 i32)))) ∧ (v5 = 0 → w_X9_refuse a0 (-1 : Int32) T n r i w (fun v13 i13 => Q v13 i13)))
abbrev rm_X9_village : Room := { frames := 3, cells := 0, slots := 0, locals := 104 }
set_option maxHeartbeats 4000000 in
set_option maxRecDepth 100000 in
theorem t_X9_village {l : Launch} {G : kw_G} {a0 : Nat} {x1 : Int32} {x2 : Int32} {x3 : Int32} {x4 : Int32} {T : kw_T} {n : Nat} {r : kw_R} {i : kw_I} {w : kw_L} {Q : Int32 → kw_I → Prop} (h0 : T a0 = (0, 9)) (h : w_X9_village a0 x1 x2 x3 x4 T n r i w Q) : kw_Met l G yX9_village cX9_village 6 (some .int) rm_X9_village [kw_a a0, kw_i x1, kw_i x2, kw_i x3, kw_i x4] (T, n, r, i, w) (kw_PI (fun v T' n' r' i' w' => T = T' ∧ n = n' ∧ r = r' ∧ w = w' ∧ Q v i')) := by
  refine kw_Met.of (by decide) (Nat.le_of_ble_eq_true rfl) fun E hl hRm hE hT hnm => ?_
  have hm : kw_m E G cX9_village 6 RX9 (some .int) rm_X9_village "village" := ⟨hE, hT, hRm, hnm⟩
  subst hl
  show kw_K E G 6 0 0 (kw_Z E G 0 0 (kw_PI (fun v T' n' r' i' w' => T = T' ∧ n = n' ∧ r = r' ∧ w = w' ∧ Q v i'))) 0 [(0, kw_a a0), (1, kw_i x1), (2, kw_i x2), (3, kw_i x3), (4, kw_i x4)] [] T n r i w
  refine kk_iload_n hm.1 1 dX9_village_0 rfl rfl ?_
  refine kk_iload_n hm.1 2 dX9_village_1 rfl rfl ?_
  refine kk_iload_n hm.1 3 dX9_village_2 rfl rfl ?_
  refine kk_iload hm.1 4 dX9_village_3 rfl ?_
  refine kk_callSi (cs' := 0) (sl' := 0) (st := []) hm.1 cs_X9_82 (t_X9_isKeyhole h) dX9_village_5 rfl hm.2.2.1 ⟨by decide, by decide⟩ ⟨by decide, by decide⟩ rfl rfl (Nat.le_of_ble_eq_true rfl) rfl ?_
  rintro v5 _ _ _ _ _ ⟨rfl, rfl, rfl, rfl, rfl, h⟩
  refine kk_if_ne (tgt := 17) hm.1 dX9_village_8 (by decide) (fun c8 => ?_) (fun c8 => ?_)
  · have h := h.1 c8
    refine kk_aload_n hm.1 0 dX9_village_17 rfl rfl ?_
    refine kk_getR hm.1 ff_X9_10 dX9_village_18 h0 ?_
    obtain ⟨o21, h⟩ := h
    refine kk_getI hm.1 ff_X9_90 dX9_village_21 o21 ?_
    refine kk_bipush (v := (10 : Int32)) hm.1 dX9_village_24 (by decide) ?_
    refine kk_icmp_lt (tgt := 36) hm.1 dX9_village_26 (by decide) (fun c26 => ?_) (fun c26 => ?_)
    · have h := h.1 c26
      refine kk_aload_n hm.1 0 dX9_village_36 rfl rfl ?_
      refine kk_getR hm.1 ff_X9_10 dX9_village_37 h0 ?_
      refine kk_getI hm.1 ff_X9_90 dX9_village_40 o21 ?_
      refine kk_istore (L' := [(5, kw_i (i (r a0 0) 5)), (0, kw_a a0), (1, kw_i x1), (2, kw_i x2), (3, kw_i x3), (4, kw_i x4)]) hm.1 dX9_village_43 (by decide) rfl ?_
      refine kk_aload_n hm.1 1 dX9_village_45 rfl rfl ?_
      refine kk_getR hm.1 ff_X9_10 dX9_village_46 h0 ?_
      refine kk_dup hm.1 dX9_village_49 rfl ?_
      refine kk_getI hm.1 ff_X9_90 dX9_village_50 o21 ?_
      refine kk_iconst (v := (1 : Int32)) hm.1 dX9_village_53 (by decide) ?_
      refine kk_iadd hm.1 dX9_village_54 ?_
      refine kn_putI hm.1 fp_X9_90 dX9_village_55 o21 (fun i55 e55 => ?_)
      have h := h i55 e55
      refine kk_aload_n hm.1 1 dX9_village_58 rfl rfl ?_
      refine kk_getR hm.1 ff_X9_10 dX9_village_59 h0 ?_
      refine kk_iload hm.1 0 dX9_village_62 rfl ?_
      refine kk_iload_n hm.1 2 dX9_village_64 rfl rfl ?_
      refine kk_iload_n hm.1 3 dX9_village_65 rfl rfl ?_
      refine kk_iload_n hm.1 4 dX9_village_66 rfl rfl ?_
      refine kk_iload hm.1 5 dX9_village_67 rfl ?_
      refine kk_callVv (cs' := 0) (sl' := 0) (st := []) hm.1 cv_X9_93 (t_X6_setKeyhole o21 h) dX9_village_69 o21 rfl rfl hm.2.2.1 ⟨by decide, by decide⟩ ⟨by decide, by decide⟩ rfl rfl (Nat.le_of_ble_eq_true rfl) rfl ?_
      rintro _ _ _ i69 _ ⟨rfl, rfl, rfl, rfl, h⟩
      refine kk_aload_n hm.1 1 dX9_village_72 rfl rfl ?_
      refine kk_getR hm.1 ff_X9_10 dX9_village_73 h0 ?_
      refine kk_getR hm.1 ff_X9_97 dX9_village_76 o21 ?_
      refine kk_iconst (v := (4 : Int32)) hm.1 dX9_village_79 (by decide) ?_
      obtain ⟨o80, h⟩ := h
      refine kk_aaload hm.1 5 (by decide) (by decide) rfl rfl dX9_village_80 o80 ?_
      refine kk_iload hm.1 0 dX9_village_81 rfl ?_
      refine kk_iconst (v := (0 : Int32)) hm.1 dX9_village_83 (by decide) ?_
      obtain ⟨o84, h⟩ := h
      refine kn_iastore hm.1 dX9_village_84 o84 (fun i84 e84 => ?_)
      have h := h i84 e84
      refine kk_aload_n hm.1 1 dX9_village_85 rfl rfl ?_
      refine kk_getR hm.1 ff_X9_10 dX9_village_86 h0 ?_
      refine kk_getR hm.1 ff_X9_97 dX9_village_89 o21 ?_
      refine kk_iconst (v := (5 : Int32)) hm.1 dX9_village_92 (by decide) ?_
      obtain ⟨o93, h⟩ := h
      refine kk_aaload hm.1 5 (by decide) (by decide) rfl rfl dX9_village_93 o93 ?_
      refine kk_iload hm.1 0 dX9_village_94 rfl ?_
      refine kk_sipush (v := (255 : Int32)) hm.1 dX9_village_96 (by decide) ?_
      obtain ⟨o99, h⟩ := h
      refine kn_iastore hm.1 dX9_village_99 o99 (fun i99 e99 => ?_)
      have h := h i99 e99
      refine kk_aload_n hm.1 1 dX9_village_100 rfl rfl ?_
      refine kk_iload hm.1 0 dX9_village_101 rfl ?_
      refine kk_callVi (cs' := 0) (sl' := 0) (st := []) hm.1 cv_X9_101 (t_X9_changed h0 h) dX9_village_103 h0 rfl rfl hm.2.2.1 ⟨by decide, by decide⟩ ⟨by decide, by decide⟩ rfl rfl (Nat.le_of_ble_eq_true rfl) rfl ?_
      rintro v103 _ _ _ i103 _ ⟨rfl, rfl, rfl, rfl, h⟩
      exact kk_iret hm.1 hm.2.1 dX9_village_106 ⟨_, rfl, rfl, rfl, rfl, rfl, h⟩
    · have h := h.2 c26
      refine kk_aload_n hm.1 0 dX9_village_29 rfl rfl ?_
      refine kk_bipush (v := (-5 : Int32)) hm.1 dX9_village_30 (by decide) ?_
      refine kk_callVi (cs' := 0) (sl' := 0) (st := []) hm.1 cv_X9_86 (t_X9_refuse h0 h) dX9_village_32 h0 rfl rfl hm.2.2.1 ⟨by decide, by decide⟩ ⟨by decide, by decide⟩ rfl rfl (Nat.le_of_ble_eq_true rfl) rfl ?_
      rintro v32 _ _ _ i32 _ ⟨rfl, rfl, rfl, rfl, h⟩
      exact kk_iret hm.1 hm.2.1 dX9_village_35 ⟨_, rfl, rfl, rfl, rfl, rfl, h⟩
  · have h := h.2 c8
    refine kk_aload_n hm.1 0 dX9_village_11 rfl rfl ?_
    refine kk_iconst (v := (-1 : Int32)) hm.1 dX9_village_12 (by decide) ?_
    refine kk_callVi (cs' := 0) (sl' := 0) (st := []) hm.1 cv_X9_86 (t_X9_refuse h0 h) dX9_village_13 h0 rfl rfl hm.2.2.1 ⟨by decide, by decide⟩ ⟨by decide, by decide⟩ rfl rfl (Nat.le_of_ble_eq_true rfl) rfl ?_
    rintro v13 _ _ _ i13 _ ⟨rfl, rfl, rfl, rfl, h⟩
    exact kk_iret hm.1 hm.2.1 dX9_village_16 ⟨_, rfl, rfl, rfl, rfl, rfl, h⟩
def w_X9_isColour  (x0 : Int32) (T : kw_T) (n : Nat) (r : kw_R) (i : kw_I) (w : kw_L) (Q : Int32 → Prop) : Prop :=
  (x0 < 0 → Q (0 : Int32)) ∧ (¬ x0 < 0 → ((8 : Int32) ≤ x0 → Q (0 : Int32)) ∧ (¬ (8 : Int32) ≤ x0 → Q (1 : Int32)))
abbrev rm_X9_isColour : Room := { frames := 1, cells := 0, slots := 0, locals := 60 }
set_option maxHeartbeats 4000000 in
set_option maxRecDepth 100000 in
theorem t_X9_isColour {l : Launch} {G : kw_G} {x0 : Int32} {T : kw_T} {n : Nat} {r : kw_R} {i : kw_I} {w : kw_L} {Q : Int32 → Prop} (h : w_X9_isColour x0 T n r i w Q) : kw_Met l G yX9_isColour cX9_isColour 1 (some .boolean) rm_X9_isColour [kw_i x0] (T, n, r, i, w) (kw_PI (fun v T' n' r' i' w' => T = T' ∧ n = n' ∧ r = r' ∧ i = i' ∧ w = w' ∧ Q v)) := by
  refine kw_Met.of (by decide) (Nat.le_of_ble_eq_true rfl) fun E hl hRm hE hT hnm => ?_
  have hm : kw_m E G cX9_isColour 1 RX9 (some .boolean) rm_X9_isColour "isColour" := ⟨hE, hT, hRm, hnm⟩
  subst hl
  show kw_K E G 1 0 0 (kw_Z E G 0 0 (kw_PI (fun v T' n' r' i' w' => T = T' ∧ n = n' ∧ r = r' ∧ i = i' ∧ w = w' ∧ Q v))) 0 [(0, kw_i x0)] [] T n r i w
  refine kk_iload_n hm.1 0 dX9_isColour_0 rfl rfl ?_
  refine kk_if_lt (tgt := 14) hm.1 dX9_isColour_1 (by decide) (fun c1 => ?_) (fun c1 => ?_)
  · have h := h.1 c1
    refine kk_iconst (v := (0 : Int32)) hm.1 dX9_isColour_14 (by decide) ?_
    exact kk_zret hm.1 hm.2.1 dX9_isColour_15 (Or.inl rfl) ⟨_, rfl, rfl, rfl, rfl, rfl, rfl, h⟩
  · have h := h.2 c1
    refine kk_iload_n hm.1 0 dX9_isColour_4 rfl rfl ?_
    refine kk_bipush (v := (8 : Int32)) hm.1 dX9_isColour_5 (by decide) ?_
    refine kk_icmp_ge (tgt := 14) hm.1 dX9_isColour_7 (by decide) (fun c7 => ?_) (fun c7 => ?_)
    · have h := h.1 c7
      refine kk_iconst (v := (0 : Int32)) hm.1 dX9_isColour_14 (by decide) ?_
      exact kk_zret hm.1 hm.2.1 dX9_isColour_15 (Or.inl rfl) ⟨_, rfl, rfl, rfl, rfl, rfl, rfl, h⟩
    · have h := h.2 c7
      refine kk_iconst (v := (1 : Int32)) hm.1 dX9_isColour_10 (by decide) ?_
      refine kk_goto (tgt := 15) hm.1 dX9_isColour_11 (by decide) ?_
      exact kk_zret hm.1 hm.2.1 dX9_isColour_15 (Or.inr rfl) ⟨_, rfl, rfl, rfl, rfl, rfl, rfl, h⟩
def w_X9_isVillage  (a0 : Nat) (x1 : Int32) (T : kw_T) (n : Nat) (r : kw_R) (i : kw_I) (w : kw_L) (Q : Int32 → Prop) : Prop :=
  (x1 < 0 → Q (0 : Int32)) ∧ (¬ x1 < 0 → T ((r a0 0)) = (0, 6) ∧ (((i (r a0 0) 5) ≤ x1 → Q (0 : Int32)) ∧ (¬ (i (r a0 0) 5) ≤ x1 → Q (1 : Int32))))
abbrev rm_X9_isVillage : Room := { frames := 1, cells := 0, slots := 0, locals := 60 }
set_option maxHeartbeats 4000000 in
set_option maxRecDepth 100000 in
theorem t_X9_isVillage {l : Launch} {G : kw_G} {a0 : Nat} {x1 : Int32} {T : kw_T} {n : Nat} {r : kw_R} {i : kw_I} {w : kw_L} {Q : Int32 → Prop} (h0 : T a0 = (0, 9)) (h : w_X9_isVillage a0 x1 T n r i w Q) : kw_Met l G yX9_isVillage cX9_isVillage 2 (some .boolean) rm_X9_isVillage [kw_a a0, kw_i x1] (T, n, r, i, w) (kw_PI (fun v T' n' r' i' w' => T = T' ∧ n = n' ∧ r = r' ∧ i = i' ∧ w = w' ∧ Q v)) := by
  refine kw_Met.of (by decide) (Nat.le_of_ble_eq_true rfl) fun E hl hRm hE hT hnm => ?_
  have hm : kw_m E G cX9_isVillage 2 RX9 (some .boolean) rm_X9_isVillage "isVillage" := ⟨hE, hT, hRm, hnm⟩
  subst hl
  show kw_K E G 2 0 0 (kw_Z E G 0 0 (kw_PI (fun v T' n' r' i' w' => T = T' ∧ n = n' ∧ r = r' ∧ i = i' ∧ w = w' ∧ Q v))) 0 [(0, kw_a a0), (1, kw_i x1)] [] T n r i w
  refine kk_iload_n hm.1 1 dX9_isVillage_0 rfl rfl ?_
  refine kk_if_lt (tgt := 19) hm.1 dX9_isVillage_1 (by decide) (fun c1 => ?_) (fun c1 => ?_)
  · have h := h.1 c1
    refine kk_iconst (v := (0 : Int32)) hm.1 dX9_isVillage_19 (by decide) ?_
    exact kk_zret hm.1 hm.2.1 dX9_isVillage_20 (Or.inl rfl) ⟨_, rfl, rfl, rfl, rfl, rfl, rfl, h⟩
  · have h := h.2 c1
    refine kk_iload_n hm.1 1 dX9_isVillage_4 rfl rfl ?_
    refine kk_aload_n hm.1 0 dX9_isVillage_5 rfl rfl ?_
    refine kk_getR hm.1 ff_X9_10 dX9_isVillage_6 h0 ?_
    obtain ⟨o9, h⟩ := h
    refine kk_getI hm.1 ff_X9_90 dX9_isVillage_9 o9 ?_
    refine kk_icmp_ge (tgt := 19) hm.1 dX9_isVillage_12 (by decide) (fun c12 => ?_) (fun c12 => ?_)
    · have h := h.1 c12
      refine kk_iconst (v := (0 : Int32)) hm.1 dX9_isVillage_19 (by decide) ?_
      exact kk_zret hm.1 hm.2.1 dX9_isVillage_20 (Or.inl rfl) ⟨_, rfl, rfl, rfl, rfl, rfl, rfl, h⟩
    · have h := h.2 c12
      refine kk_iconst (v := (1 : Int32)) hm.1 dX9_isVillage_15 (by decide) ?_
      refine kk_goto (tgt := 20) hm.1 dX9_isVillage_16 (by decide) ?_
      exact kk_zret hm.1 hm.2.1 dX9_isVillage_20 (Or.inr rfl) ⟨_, rfl, rfl, rfl, rfl, rfl, rfl, h⟩
def w_X9_put_90 (a0 : Nat) (x1 : Int32) (x2 : Int32) (x3 : Int32) (T : kw_T) (n : Nat) (r : kw_R) (w : kw_L) (Q : Int32 → kw_I → Prop)  (s0 : Nat) (s1 : Int32) (i : kw_I) : Prop :=
  kw_in T 5 s0 s1 ∧ (kw_in T 1 (r s0 (s1).toNatClampNeg) x1 ∧ (kw_in T 1 (r s0 (s1).toNatClampNeg) x1 ∧ (∀ i103 : kw_I, i103 = kw_st i (r s0 (s1).toNatClampNeg) (x1).toNatClampNeg x3 → (w_X9_changed a0 (i (r s0 (s1).toNatClampNeg) (x1).toNatClampNeg) T n r i103 w (fun v107 i107 => Q v107 i107)))))
def w_X9_put_58 (a0 : Nat) (x1 : Int32) (x2 : Int32) (x3 : Int32) (T : kw_T) (n : Nat) (r : kw_R) (w : kw_L) (Q : Int32 → kw_I → Prop)  (x4 : Int32) (i : kw_I) : Prop :=
  w_X9_isVillage a0 x1 T n r i w (fun v60 => (¬ v60 = 0 → T ((r a0 0)) = (0, 6) ∧ ((x4 = 0 → w_X9_put_90 a0 x1 x2 x3 T n r w Q  ((r (r a0 0) 0)) ((5 : Int32)) i) ∧ (¬ x4 = 0 → w_X9_put_90 a0 x1 x2 x3 T n r w Q  ((r (r a0 0) 0)) ((4 : Int32)) i))) ∧ (v60 = 0 → w_X9_refuse a0 (-2 : Int32) T n r i w (fun v69 i69 => Q v69 i69)))
def w_X9_put_40 (a0 : Nat) (x1 : Int32) (x2 : Int32) (x3 : Int32) (T : kw_T) (n : Nat) (r : kw_R) (w : kw_L) (Q : Int32 → kw_I → Prop)  (x4 : Int32) (s0 : Int32) (i : kw_I) : Prop :=
  (¬ x4 = 0 → w_X9_put_58 a0 x1 x2 x3 T n r w Q  x4 i) ∧ (x4 = 0 → (¬ s0 = 0 → w_X9_put_58 a0 x1 x2 x3 T n r w Q  x4 i) ∧ (s0 = 0 → w_X9_refuse a0 (-1 : Int32) T n r i w (fun v54 i54 => Q v54 i54)))
def w_X9_put_39 (a0 : Nat) (x1 : Int32) (x2 : Int32) (x3 : Int32) (T : kw_T) (n : Nat) (r : kw_R) (w : kw_L) (Q : Int32 → kw_I → Prop)  (x4 : Int32) (i : kw_I) : Prop :=
  w_X9_put_40 a0 x1 x2 x3 T n r w Q  x4 ((0 : Int32)) i
def w_X9_put_16 (a0 : Nat) (x1 : Int32) (x2 : Int32) (x3 : Int32) (T : kw_T) (n : Nat) (r : kw_R) (w : kw_L) (Q : Int32 → kw_I → Prop)  (s0 : Int32) (i : kw_I) : Prop :=
  (¬ x2 = (1 : Int32) → w_X9_put_39 a0 x1 x2 x3 T n r w Q  s0 i) ∧ (x2 = (1 : Int32) → (x3 < (1 : Int32) → w_X9_put_39 a0 x1 x2 x3 T n r w Q  s0 i) ∧ (¬ x3 < (1 : Int32) → ((256 : Int32) ≤ x3 → w_X9_put_39 a0 x1 x2 x3 T n r w Q  s0 i) ∧ (¬ (256 : Int32) ≤ x3 → w_X9_put_40 a0 x1 x2 x3 T n r w Q  s0 ((1 : Int32)) i)))
def w_X9_put_15 (a0 : Nat) (x1 : Int32) (x2 : Int32) (x3 : Int32) (T : kw_T) (n : Nat) (r : kw_R) (w : kw_L) (Q : Int32 → kw_I → Prop)  (i : kw_I) : Prop :=
  w_X9_put_16 a0 x1 x2 x3 T n r w Q  ((0 : Int32)) i
def w_X9_put  (a0 : Nat) (x1 : Int32) (x2 : Int32) (x3 : Int32) (T : kw_T) (n : Nat) (r : kw_R) (i : kw_I) (w : kw_L) (Q : Int32 → kw_I → Prop) : Prop :=
  (¬ x2 = 0 → w_X9_put_15 a0 x1 x2 x3 T n r w Q  i) ∧ (x2 = 0 → w_X9_isColour x3 T n r i w (fun v5 => (v5 = 0 → w_X9_put_15 a0 x1 x2 x3 T n r w Q  i) ∧ (¬ v5 = 0 → w_X9_put_16 a0 x1 x2 x3 T n r w Q  ((1 : Int32)) i)))
abbrev rm_X9_put : Room := { frames := 3, cells := 0, slots := 0, locals := 102 }
set_option maxHeartbeats 4000000 in
set_option maxRecDepth 100000 in
theorem q_X9_put_90 {a0 : Nat} {x1 : Int32} {x2 : Int32} {x3 : Int32} {T : kw_T} {n : Nat} {r : kw_R} {w : kw_L} {Q : Int32 → kw_I → Prop} {E : kw_E} {G : kw_G} (hm : kw_m E G cX9_put 8 RX9 (some .int) rm_X9_put "put")  (h0 : T a0 = (0, 9))    (s0 : Nat) (s1 : Int32) (i : kw_I) (h : w_X9_put_90 a0 x1 x2 x3 T n r w Q  s0 s1 i) : kw_K E G 8 0 0 (kw_Z E G 0 0 (kw_PI (fun v T' n' r' i' w' => T = T' ∧ n = n' ∧ r = r' ∧ w = w' ∧ Q v i'))) 90 [(0, kw_a a0), (1, kw_i x1), (2, kw_i x2), (3, kw_i x3)] [kw_i s1, kw_a s0] T n r i w := by
  obtain ⟨o90, h⟩ := h
  refine kk_aaload hm.1 5 (by decide) (by decide) rfl rfl dX9_put_90 o90 ?_
  refine kk_astore (L' := [(6, kw_a (r s0 (s1).toNatClampNeg)), (0, kw_a a0), (1, kw_i x1), (2, kw_i x2), (3, kw_i x3)]) hm.1 dX9_put_91 (by decide) rfl ?_
  refine kk_aload hm.1 0 dX9_put_93 rfl ?_
  refine kk_iload_n hm.1 2 dX9_put_95 rfl rfl ?_
  obtain ⟨o96, h⟩ := h
  refine kk_iaload hm.1 dX9_put_96 o96 ?_
  refine kk_istore (L' := [(7, kw_i (i (r s0 (s1).toNatClampNeg) (x1).toNatClampNeg)), (6, kw_a (r s0 (s1).toNatClampNeg)), (0, kw_a a0), (1, kw_i x1), (2, kw_i x2), (3, kw_i x3)]) hm.1 dX9_put_97 (by decide) rfl ?_
  refine kk_aload hm.1 1 dX9_put_99 rfl ?_
  refine kk_iload_n hm.1 3 dX9_put_101 rfl rfl ?_
  refine kk_iload_n hm.1 5 dX9_put_102 rfl rfl ?_
  obtain ⟨o103, h⟩ := h
  refine kn_iastore hm.1 dX9_put_103 o103 (fun i103 e103 => ?_)
  have h := h i103 e103
  refine kk_aload_n hm.1 2 dX9_put_104 rfl rfl ?_
  refine kk_iload hm.1 0 dX9_put_105 rfl ?_
  refine kk_callVi (cs' := 0) (sl' := 0) (st := []) hm.1 cv_X9_101 (t_X9_changed h0 h) dX9_put_107 h0 rfl rfl hm.2.2.1 ⟨by decide, by decide⟩ ⟨by decide, by decide⟩ rfl rfl (Nat.le_of_ble_eq_true rfl) rfl ?_
  rintro v107 _ _ _ i107 _ ⟨rfl, rfl, rfl, rfl, h⟩
  exact kk_iret hm.1 hm.2.1 dX9_put_110 ⟨_, rfl, rfl, rfl, rfl, rfl, h⟩
set_option maxHeartbeats 4000000 in
set_option maxRecDepth 100000 in
theorem q_X9_put_58 {a0 : Nat} {x1 : Int32} {x2 : Int32} {x3 : Int32} {T : kw_T} {n : Nat} {r : kw_R} {w : kw_L} {Q : Int32 → kw_I → Prop} {E : kw_E} {G : kw_G} (hm : kw_m E G cX9_put 8 RX9 (some .int) rm_X9_put "put")  (h0 : T a0 = (0, 9))    (x4 : Int32) (i : kw_I) (h : w_X9_put_58 a0 x1 x2 x3 T n r w Q  x4 i) : kw_K E G 8 0 0 (kw_Z E G 0 0 (kw_PI (fun v T' n' r' i' w' => T = T' ∧ n = n' ∧ r = r' ∧ w = w' ∧ Q v i'))) 58 [(0, kw_a a0), (1, kw_i x1), (2, kw_i x2), (3, kw_i x3), (4, kw_i x4)] [] T n r i w := by
  refine kk_aload_n hm.1 0 dX9_put_58 rfl rfl ?_
  refine kk_iload_n hm.1 1 dX9_put_59 rfl rfl ?_
  refine kk_callVi (cs' := 0) (sl' := 0) (st := []) hm.1 cv_X9_108 (t_X9_isVillage h0 h) dX9_put_60 h0 rfl rfl hm.2.2.1 ⟨by decide, by decide⟩ ⟨by decide, by decide⟩ rfl rfl (Nat.le_of_ble_eq_true rfl) rfl ?_
  rintro v60 _ _ _ _ _ ⟨rfl, rfl, rfl, rfl, rfl, h⟩
  refine kk_if_ne (tgt := 73) hm.1 dX9_put_63 (by decide) (fun c63 => ?_) (fun c63 => ?_)
  · have h := h.1 c63
    refine kk_aload_n hm.1 0 dX9_put_73 rfl rfl ?_
    refine kk_getR hm.1 ff_X9_10 dX9_put_74 h0 ?_
    obtain ⟨o77, h⟩ := h
    refine kk_getR hm.1 ff_X9_97 dX9_put_77 o77 ?_
    refine kk_iload hm.1 4 dX9_put_80 rfl ?_
    refine kk_if_eq (tgt := 89) hm.1 dX9_put_82 (by decide) (fun c82 => ?_) (fun c82 => ?_)
    · have h := h.1 c82
      refine kk_iconst (v := (5 : Int32)) hm.1 dX9_put_89 (by decide) ?_
      refine kk_loc (L' := [(0, kw_a a0), (1, kw_i x1), (2, kw_i x2), (3, kw_i x3)]) [0, 1, 2, 3] rfl ?_
      exact q_X9_put_90 hm  h0   ((r (r a0 0) 0)) ((5 : Int32)) i h
    · have h := h.2 c82
      refine kk_iconst (v := (4 : Int32)) hm.1 dX9_put_85 (by decide) ?_
      refine kk_goto (tgt := 90) hm.1 dX9_put_86 (by decide) ?_
      refine kk_loc (L' := [(0, kw_a a0), (1, kw_i x1), (2, kw_i x2), (3, kw_i x3)]) [0, 1, 2, 3] rfl ?_
      exact q_X9_put_90 hm  h0   ((r (r a0 0) 0)) ((4 : Int32)) i h
  · have h := h.2 c63
    refine kk_aload_n hm.1 0 dX9_put_66 rfl rfl ?_
    refine kk_bipush (v := (-2 : Int32)) hm.1 dX9_put_67 (by decide) ?_
    refine kk_callVi (cs' := 0) (sl' := 0) (st := []) hm.1 cv_X9_86 (t_X9_refuse h0 h) dX9_put_69 h0 rfl rfl hm.2.2.1 ⟨by decide, by decide⟩ ⟨by decide, by decide⟩ rfl rfl (Nat.le_of_ble_eq_true rfl) rfl ?_
    rintro v69 _ _ _ i69 _ ⟨rfl, rfl, rfl, rfl, h⟩
    exact kk_iret hm.1 hm.2.1 dX9_put_72 ⟨_, rfl, rfl, rfl, rfl, rfl, h⟩
set_option maxHeartbeats 4000000 in
set_option maxRecDepth 100000 in
theorem q_X9_put_40 {a0 : Nat} {x1 : Int32} {x2 : Int32} {x3 : Int32} {T : kw_T} {n : Nat} {r : kw_R} {w : kw_L} {Q : Int32 → kw_I → Prop} {E : kw_E} {G : kw_G} (hm : kw_m E G cX9_put 8 RX9 (some .int) rm_X9_put "put")  (h0 : T a0 = (0, 9))    (x4 : Int32) (s0 : Int32) (i : kw_I) (h : w_X9_put_40 a0 x1 x2 x3 T n r w Q  x4 s0 i) : kw_K E G 8 0 0 (kw_Z E G 0 0 (kw_PI (fun v T' n' r' i' w' => T = T' ∧ n = n' ∧ r = r' ∧ w = w' ∧ Q v i'))) 40 [(0, kw_a a0), (1, kw_i x1), (2, kw_i x2), (3, kw_i x3), (4, kw_i x4)] [kw_i s0] T n r i w := by
  refine kk_istore (L' := [(5, kw_i s0), (0, kw_a a0), (1, kw_i x1), (2, kw_i x2), (3, kw_i x3), (4, kw_i x4)]) hm.1 dX9_put_40 (by decide) rfl ?_
  refine kk_iload hm.1 5 dX9_put_42 rfl ?_
  refine kk_if_ne (tgt := 58) hm.1 dX9_put_44 (by decide) (fun c44 => ?_) (fun c44 => ?_)
  · have h := h.1 c44
    refine kk_loc (L' := [(0, kw_a a0), (1, kw_i x1), (2, kw_i x2), (3, kw_i x3), (4, kw_i x4)]) [1, 2, 3, 4, 5] rfl ?_
    exact q_X9_put_58 hm  h0   x4 i h
  · have h := h.2 c44
    refine kk_iload hm.1 0 dX9_put_47 rfl ?_
    refine kk_if_ne (tgt := 58) hm.1 dX9_put_49 (by decide) (fun c49 => ?_) (fun c49 => ?_)
    · have h := h.1 c49
      refine kk_loc (L' := [(0, kw_a a0), (1, kw_i x1), (2, kw_i x2), (3, kw_i x3), (4, kw_i x4)]) [1, 2, 3, 4, 5] rfl ?_
      exact q_X9_put_58 hm  h0   x4 i h
    · have h := h.2 c49
      refine kk_aload_n hm.1 1 dX9_put_52 rfl rfl ?_
      refine kk_iconst (v := (-1 : Int32)) hm.1 dX9_put_53 (by decide) ?_
      refine kk_callVi (cs' := 0) (sl' := 0) (st := []) hm.1 cv_X9_86 (t_X9_refuse h0 h) dX9_put_54 h0 rfl rfl hm.2.2.1 ⟨by decide, by decide⟩ ⟨by decide, by decide⟩ rfl rfl (Nat.le_of_ble_eq_true rfl) rfl ?_
      rintro v54 _ _ _ i54 _ ⟨rfl, rfl, rfl, rfl, h⟩
      exact kk_iret hm.1 hm.2.1 dX9_put_57 ⟨_, rfl, rfl, rfl, rfl, rfl, h⟩
set_option maxHeartbeats 4000000 in
set_option maxRecDepth 100000 in
theorem q_X9_put_39 {a0 : Nat} {x1 : Int32} {x2 : Int32} {x3 : Int32} {T : kw_T} {n : Nat} {r : kw_R} {w : kw_L} {Q : Int32 → kw_I → Prop} {E : kw_E} {G : kw_G} (hm : kw_m E G cX9_put 8 RX9 (some .int) rm_X9_put "put")  (h0 : T a0 = (0, 9))    (x4 : Int32) (i : kw_I) (h : w_X9_put_39 a0 x1 x2 x3 T n r w Q  x4 i) : kw_K E G 8 0 0 (kw_Z E G 0 0 (kw_PI (fun v T' n' r' i' w' => T = T' ∧ n = n' ∧ r = r' ∧ w = w' ∧ Q v i'))) 39 [(0, kw_a a0), (1, kw_i x1), (2, kw_i x2), (3, kw_i x3), (4, kw_i x4)] [] T n r i w := by
  refine kk_iconst (v := (0 : Int32)) hm.1 dX9_put_39 (by decide) ?_
  exact q_X9_put_40 hm  h0   x4 ((0 : Int32)) i h
set_option maxHeartbeats 4000000 in
set_option maxRecDepth 100000 in
theorem q_X9_put_16 {a0 : Nat} {x1 : Int32} {x2 : Int32} {x3 : Int32} {T : kw_T} {n : Nat} {r : kw_R} {w : kw_L} {Q : Int32 → kw_I → Prop} {E : kw_E} {G : kw_G} (hm : kw_m E G cX9_put 8 RX9 (some .int) rm_X9_put "put")  (h0 : T a0 = (0, 9))    (s0 : Int32) (i : kw_I) (h : w_X9_put_16 a0 x1 x2 x3 T n r w Q  s0 i) : kw_K E G 8 0 0 (kw_Z E G 0 0 (kw_PI (fun v T' n' r' i' w' => T = T' ∧ n = n' ∧ r = r' ∧ w = w' ∧ Q v i'))) 16 [(0, kw_a a0), (1, kw_i x1), (2, kw_i x2), (3, kw_i x3)] [kw_i s0] T n r i w := by
  refine kk_istore (L' := [(4, kw_i s0), (0, kw_a a0), (1, kw_i x1), (2, kw_i x2), (3, kw_i x3)]) hm.1 dX9_put_16 (by decide) rfl ?_
  refine kk_iload_n hm.1 3 dX9_put_18 rfl rfl ?_
  refine kk_iconst (v := (1 : Int32)) hm.1 dX9_put_19 (by decide) ?_
  refine kk_icmp_ne (tgt := 39) hm.1 dX9_put_20 (by decide) (fun c20 => ?_) (fun c20 => ?_)
  · have h := h.1 c20
    refine kk_loc (L' := [(0, kw_a a0), (1, kw_i x1), (2, kw_i x2), (3, kw_i x3), (4, kw_i s0)]) [1, 2, 3, 4, 0] rfl ?_
    exact q_X9_put_39 hm  h0   s0 i h
  · have h := h.2 c20
    refine kk_iload_n hm.1 4 dX9_put_23 rfl rfl ?_
    refine kk_iconst (v := (1 : Int32)) hm.1 dX9_put_24 (by decide) ?_
    refine kk_icmp_lt (tgt := 39) hm.1 dX9_put_25 (by decide) (fun c25 => ?_) (fun c25 => ?_)
    · have h := h.1 c25
      refine kk_loc (L' := [(0, kw_a a0), (1, kw_i x1), (2, kw_i x2), (3, kw_i x3), (4, kw_i s0)]) [1, 2, 3, 4, 0] rfl ?_
      exact q_X9_put_39 hm  h0   s0 i h
    · have h := h.2 c25
      refine kk_iload_n hm.1 4 dX9_put_28 rfl rfl ?_
      refine kk_sipush (v := (256 : Int32)) hm.1 dX9_put_29 (by decide) ?_
      refine kk_icmp_ge (tgt := 39) hm.1 dX9_put_32 (by decide) (fun c32 => ?_) (fun c32 => ?_)
      · have h := h.1 c32
        refine kk_loc (L' := [(0, kw_a a0), (1, kw_i x1), (2, kw_i x2), (3, kw_i x3), (4, kw_i s0)]) [1, 2, 3, 4, 0] rfl ?_
        exact q_X9_put_39 hm  h0   s0 i h
      · have h := h.2 c32
        refine kk_iconst (v := (1 : Int32)) hm.1 dX9_put_35 (by decide) ?_
        refine kk_goto (tgt := 40) hm.1 dX9_put_36 (by decide) ?_
        refine kk_loc (L' := [(0, kw_a a0), (1, kw_i x1), (2, kw_i x2), (3, kw_i x3), (4, kw_i s0)]) [1, 2, 3, 4, 0] rfl ?_
        exact q_X9_put_40 hm  h0   s0 ((1 : Int32)) i h
set_option maxHeartbeats 4000000 in
set_option maxRecDepth 100000 in
theorem q_X9_put_15 {a0 : Nat} {x1 : Int32} {x2 : Int32} {x3 : Int32} {T : kw_T} {n : Nat} {r : kw_R} {w : kw_L} {Q : Int32 → kw_I → Prop} {E : kw_E} {G : kw_G} (hm : kw_m E G cX9_put 8 RX9 (some .int) rm_X9_put "put")  (h0 : T a0 = (0, 9))    (i : kw_I) (h : w_X9_put_15 a0 x1 x2 x3 T n r w Q  i) : kw_K E G 8 0 0 (kw_Z E G 0 0 (kw_PI (fun v T' n' r' i' w' => T = T' ∧ n = n' ∧ r = r' ∧ w = w' ∧ Q v i'))) 15 [(0, kw_a a0), (1, kw_i x1), (2, kw_i x2), (3, kw_i x3)] [] T n r i w := by
  refine kk_iconst (v := (0 : Int32)) hm.1 dX9_put_15 (by decide) ?_
  exact q_X9_put_16 hm  h0   ((0 : Int32)) i h
set_option maxHeartbeats 4000000 in
set_option maxRecDepth 100000 in
theorem t_X9_put {l : Launch} {G : kw_G} {a0 : Nat} {x1 : Int32} {x2 : Int32} {x3 : Int32} {T : kw_T} {n : Nat} {r : kw_R} {i : kw_I} {w : kw_L} {Q : Int32 → kw_I → Prop} (h0 : T a0 = (0, 9)) (h : w_X9_put a0 x1 x2 x3 T n r i w Q) : kw_Met l G yX9_put cX9_put 8 (some .int) rm_X9_put [kw_a a0, kw_i x1, kw_i x2, kw_i x3] (T, n, r, i, w) (kw_PI (fun v T' n' r' i' w' => T = T' ∧ n = n' ∧ r = r' ∧ w = w' ∧ Q v i')) := by
  refine kw_Met.of (by decide) (Nat.le_of_ble_eq_true rfl) fun E hl hRm hE hT hnm => ?_
  have hm : kw_m E G cX9_put 8 RX9 (some .int) rm_X9_put "put" := ⟨hE, hT, hRm, hnm⟩
  subst hl
  show kw_K E G 8 0 0 (kw_Z E G 0 0 (kw_PI (fun v T' n' r' i' w' => T = T' ∧ n = n' ∧ r = r' ∧ w = w' ∧ Q v i'))) 0 [(0, kw_a a0), (1, kw_i x1), (2, kw_i x2), (3, kw_i x3)] [] T n r i w
  refine kk_iload_n hm.1 2 dX9_put_0 rfl rfl ?_
  refine kk_if_ne (tgt := 15) hm.1 dX9_put_1 (by decide) (fun c1 => ?_) (fun c1 => ?_)
  · have h := h.1 c1
    exact q_X9_put_15 hm  h0   i h
  · have h := h.2 c1
    refine kk_iload_n hm.1 3 dX9_put_4 rfl rfl ?_
    refine kk_callSi (cs' := 0) (sl' := 0) (st := []) hm.1 cs_X9_104 (t_X9_isColour h) dX9_put_5 rfl hm.2.2.1 ⟨by decide, by decide⟩ ⟨by decide, by decide⟩ rfl rfl (Nat.le_of_ble_eq_true rfl) rfl ?_
    rintro v5 _ _ _ _ _ ⟨rfl, rfl, rfl, rfl, rfl, h⟩
    refine kk_if_eq (tgt := 15) hm.1 dX9_put_8 (by decide) (fun c8 => ?_) (fun c8 => ?_)
    · have h := h.1 c8
      exact q_X9_put_15 hm  h0   i h
    · have h := h.2 c8
      refine kk_iconst (v := (1 : Int32)) hm.1 dX9_put_11 (by decide) ?_
      refine kk_goto (tgt := 16) hm.1 dX9_put_12 (by decide) ?_
      exact q_X9_put_16 hm  h0   ((1 : Int32)) i h
def w_X9_hole  (a0 : Nat) (x1 : Int32) (x2 : Int32) (x3 : Int32) (x4 : Int32) (x5 : Int32) (T : kw_T) (n : Nat) (r : kw_R) (i : kw_I) (w : kw_L) (Q : Int32 → kw_I → Prop) : Prop :=
  w_X9_isKeyhole x2 x3 x4 x5 T n r i w (fun v6 => (¬ v6 = 0 → w_X9_isVillage a0 x1 T n r i w (fun v20 => (¬ v20 = 0 → T ((r a0 0)) = (0, 6) ∧ (w_X6_setKeyhole (r a0 0) x1 x2 x3 x4 x5 T n r i w (fun i44 => w_X9_changed a0 (0 : Int32) T n r i44 w (fun v49 i49 => Q v49 i49)))) ∧ (v20 = 0 → w_X9_refuse a0 (-2 : Int32) T n r i w (fun v29 i29 => Q v29 i29)))) ∧ (v6 = 0 → w_X9_refuse a0 (-1 : Int32) T n r i w (fun v14 i14 => Q v14 i14)))
abbrev rm_X9_hole : Room := { frames := 3, cells := 0, slots := 0, locals := 104 }
set_option maxHeartbeats 4000000 in
set_option maxRecDepth 100000 in
theorem t_X9_hole {l : Launch} {G : kw_G} {a0 : Nat} {x1 : Int32} {x2 : Int32} {x3 : Int32} {x4 : Int32} {x5 : Int32} {T : kw_T} {n : Nat} {r : kw_R} {i : kw_I} {w : kw_L} {Q : Int32 → kw_I → Prop} (h0 : T a0 = (0, 9)) (h : w_X9_hole a0 x1 x2 x3 x4 x5 T n r i w Q) : kw_Met l G yX9_hole cX9_hole 6 (some .int) rm_X9_hole [kw_a a0, kw_i x1, kw_i x2, kw_i x3, kw_i x4, kw_i x5] (T, n, r, i, w) (kw_PI (fun v T' n' r' i' w' => T = T' ∧ n = n' ∧ r = r' ∧ w = w' ∧ Q v i')) := by
  refine kw_Met.of (by decide) (Nat.le_of_ble_eq_true rfl) fun E hl hRm hE hT hnm => ?_
  have hm : kw_m E G cX9_hole 6 RX9 (some .int) rm_X9_hole "hole" := ⟨hE, hT, hRm, hnm⟩
  subst hl
  show kw_K E G 6 0 0 (kw_Z E G 0 0 (kw_PI (fun v T' n' r' i' w' => T = T' ∧ n = n' ∧ r = r' ∧ w = w' ∧ Q v i'))) 0 [(0, kw_a a0), (1, kw_i x1), (2, kw_i x2), (3, kw_i x3), (4, kw_i x4), (5, kw_i x5)] [] T n r i w
  refine kk_iload_n hm.1 2 dX9_hole_0 rfl rfl ?_
  refine kk_iload_n hm.1 3 dX9_hole_1 rfl rfl ?_
  refine kk_iload hm.1 4 dX9_hole_2 rfl ?_
  refine kk_iload hm.1 5 dX9_hole_4 rfl ?_
  refine kk_callSi (cs' := 0) (sl' := 0) (st := []) hm.1 cs_X9_82 (t_X9_isKeyhole h) dX9_hole_6 rfl hm.2.2.1 ⟨by decide, by decide⟩ ⟨by decide, by decide⟩ rfl rfl (Nat.le_of_ble_eq_true rfl) rfl ?_
  rintro v6 _ _ _ _ _ ⟨rfl, rfl, rfl, rfl, rfl, h⟩
  refine kk_if_ne (tgt := 18) hm.1 dX9_hole_9 (by decide) (fun c9 => ?_) (fun c9 => ?_)
  · have h := h.1 c9
    refine kk_aload_n hm.1 0 dX9_hole_18 rfl rfl ?_
    refine kk_iload_n hm.1 1 dX9_hole_19 rfl rfl ?_
    refine kk_callVi (cs' := 0) (sl' := 0) (st := []) hm.1 cv_X9_108 (t_X9_isVillage h0 h) dX9_hole_20 h0 rfl rfl hm.2.2.1 ⟨by decide, by decide⟩ ⟨by decide, by decide⟩ rfl rfl (Nat.le_of_ble_eq_true rfl) rfl ?_
    rintro v20 _ _ _ _ _ ⟨rfl, rfl, rfl, rfl, rfl, h⟩
    refine kk_if_ne (tgt := 33) hm.1 dX9_hole_23 (by decide) (fun c23 => ?_) (fun c23 => ?_)
    · have h := h.1 c23
      refine kk_aload_n hm.1 0 dX9_hole_33 rfl rfl ?_
      refine kk_getR hm.1 ff_X9_10 dX9_hole_34 h0 ?_
      refine kk_iload_n hm.1 1 dX9_hole_37 rfl rfl ?_
      refine kk_iload_n hm.1 2 dX9_hole_38 rfl rfl ?_
      refine kk_iload_n hm.1 3 dX9_hole_39 rfl rfl ?_
      refine kk_iload hm.1 4 dX9_hole_40 rfl ?_
      refine kk_iload hm.1 5 dX9_hole_42 rfl ?_
      obtain ⟨o44, h⟩ := h
      refine kk_callVv (cs' := 0) (sl' := 0) (st := []) hm.1 cv_X9_93 (t_X6_setKeyhole o44 h) dX9_hole_44 o44 rfl rfl hm.2.2.1 ⟨by decide, by decide⟩ ⟨by decide, by decide⟩ rfl rfl (Nat.le_of_ble_eq_true rfl) rfl ?_
      rintro _ _ _ i44 _ ⟨rfl, rfl, rfl, rfl, h⟩
      refine kk_aload_n hm.1 0 dX9_hole_47 rfl rfl ?_
      refine kk_iconst (v := (0 : Int32)) hm.1 dX9_hole_48 (by decide) ?_
      refine kk_callVi (cs' := 0) (sl' := 0) (st := []) hm.1 cv_X9_101 (t_X9_changed h0 h) dX9_hole_49 h0 rfl rfl hm.2.2.1 ⟨by decide, by decide⟩ ⟨by decide, by decide⟩ rfl rfl (Nat.le_of_ble_eq_true rfl) rfl ?_
      rintro v49 _ _ _ i49 _ ⟨rfl, rfl, rfl, rfl, h⟩
      exact kk_iret hm.1 hm.2.1 dX9_hole_52 ⟨_, rfl, rfl, rfl, rfl, rfl, h⟩
    · have h := h.2 c23
      refine kk_aload_n hm.1 0 dX9_hole_26 rfl rfl ?_
      refine kk_bipush (v := (-2 : Int32)) hm.1 dX9_hole_27 (by decide) ?_
      refine kk_callVi (cs' := 0) (sl' := 0) (st := []) hm.1 cv_X9_86 (t_X9_refuse h0 h) dX9_hole_29 h0 rfl rfl hm.2.2.1 ⟨by decide, by decide⟩ ⟨by decide, by decide⟩ rfl rfl (Nat.le_of_ble_eq_true rfl) rfl ?_
      rintro v29 _ _ _ i29 _ ⟨rfl, rfl, rfl, rfl, h⟩
      exact kk_iret hm.1 hm.2.1 dX9_hole_32 ⟨_, rfl, rfl, rfl, rfl, rfl, h⟩
  · have h := h.2 c9
    refine kk_aload_n hm.1 0 dX9_hole_12 rfl rfl ?_
    refine kk_iconst (v := (-1 : Int32)) hm.1 dX9_hole_13 (by decide) ?_
    refine kk_callVi (cs' := 0) (sl' := 0) (st := []) hm.1 cv_X9_86 (t_X9_refuse h0 h) dX9_hole_14 h0 rfl rfl hm.2.2.1 ⟨by decide, by decide⟩ ⟨by decide, by decide⟩ rfl rfl (Nat.le_of_ble_eq_true rfl) rfl ?_
    rintro v14 _ _ _ i14 _ ⟨rfl, rfl, rfl, rfl, h⟩
    exact kk_iret hm.1 hm.2.1 dX9_hole_17 ⟨_, rfl, rfl, rfl, rfl, rfl, h⟩
def w_X9_of  (a0 : Nat) (x1 : Int32) (x2 : Int32) (T : kw_T) (n : Nat) (r : kw_R) (i : kw_I) (w : kw_L) (Q : Int32 → Prop) : Prop :=
  w_X9_isVillage a0 x1 T n r i w (fun v2 => (v2 = 0 → Q (-1 : Int32)) ∧ (¬ v2 = 0 → (x2 < 0 → Q (-1 : Int32)) ∧ (¬ x2 < 0 → (x2 < (6 : Int32) → T ((r a0 0)) = (0, 6) ∧ (kw_in T 5 (r (r a0 0) 0) x2 ∧ (kw_in T 1 (r (r (r a0 0) 0) (x2).toNatClampNeg) x1 ∧ (Q (i (r (r (r a0 0) 0) (x2).toNatClampNeg) (x1).toNatClampNeg))))) ∧ (¬ x2 < (6 : Int32) → Q (-1 : Int32)))))
abbrev rm_X9_of : Room := { frames := 2, cells := 0, slots := 0, locals := 81 }
set_option maxHeartbeats 4000000 in
set_option maxRecDepth 100000 in
theorem t_X9_of {l : Launch} {G : kw_G} {a0 : Nat} {x1 : Int32} {x2 : Int32} {T : kw_T} {n : Nat} {r : kw_R} {i : kw_I} {w : kw_L} {Q : Int32 → Prop} (h0 : T a0 = (0, 9)) (h : w_X9_of a0 x1 x2 T n r i w Q) : kw_Met l G yX9_of cX9_of 3 (some .int) rm_X9_of [kw_a a0, kw_i x1, kw_i x2] (T, n, r, i, w) (kw_PI (fun v T' n' r' i' w' => T = T' ∧ n = n' ∧ r = r' ∧ i = i' ∧ w = w' ∧ Q v)) := by
  refine kw_Met.of (by decide) (Nat.le_of_ble_eq_true rfl) fun E hl hRm hE hT hnm => ?_
  have hm : kw_m E G cX9_of 3 RX9 (some .int) rm_X9_of "of" := ⟨hE, hT, hRm, hnm⟩
  subst hl
  show kw_K E G 3 0 0 (kw_Z E G 0 0 (kw_PI (fun v T' n' r' i' w' => T = T' ∧ n = n' ∧ r = r' ∧ i = i' ∧ w = w' ∧ Q v))) 0 [(0, kw_a a0), (1, kw_i x1), (2, kw_i x2)] [] T n r i w
  refine kk_aload_n hm.1 0 dX9_of_0 rfl rfl ?_
  refine kk_iload_n hm.1 1 dX9_of_1 rfl rfl ?_
  refine kk_callVi (cs' := 0) (sl' := 0) (st := []) hm.1 cv_X9_108 (t_X9_isVillage h0 h) dX9_of_2 h0 rfl rfl hm.2.2.1 ⟨by decide, by decide⟩ ⟨by decide, by decide⟩ rfl rfl (Nat.le_of_ble_eq_true rfl) rfl ?_
  rintro v2 _ _ _ _ _ ⟨rfl, rfl, rfl, rfl, rfl, h⟩
  refine kk_if_eq (tgt := 18) hm.1 dX9_of_5 (by decide) (fun c5 => ?_) (fun c5 => ?_)
  · have h := h.1 c5
    refine kk_iconst (v := (-1 : Int32)) hm.1 dX9_of_18 (by decide) ?_
    exact kk_iret hm.1 hm.2.1 dX9_of_19 ⟨_, rfl, rfl, rfl, rfl, rfl, rfl, h⟩
  · have h := h.2 c5
    refine kk_iload_n hm.1 2 dX9_of_8 rfl rfl ?_
    refine kk_if_lt (tgt := 18) hm.1 dX9_of_9 (by decide) (fun c9 => ?_) (fun c9 => ?_)
    · have h := h.1 c9
      refine kk_iconst (v := (-1 : Int32)) hm.1 dX9_of_18 (by decide) ?_
      exact kk_iret hm.1 hm.2.1 dX9_of_19 ⟨_, rfl, rfl, rfl, rfl, rfl, rfl, h⟩
    · have h := h.2 c9
      refine kk_iload_n hm.1 2 dX9_of_12 rfl rfl ?_
      refine kk_bipush (v := (6 : Int32)) hm.1 dX9_of_13 (by decide) ?_
      refine kk_icmp_lt (tgt := 20) hm.1 dX9_of_15 (by decide) (fun c15 => ?_) (fun c15 => ?_)
      · have h := h.1 c15
        refine kk_aload_n hm.1 0 dX9_of_20 rfl rfl ?_
        refine kk_getR hm.1 ff_X9_10 dX9_of_21 h0 ?_
        obtain ⟨o24, h⟩ := h
        refine kk_getR hm.1 ff_X9_97 dX9_of_24 o24 ?_
        refine kk_iload_n hm.1 2 dX9_of_27 rfl rfl ?_
        obtain ⟨o28, h⟩ := h
        refine kk_aaload hm.1 5 (by decide) (by decide) rfl rfl dX9_of_28 o28 ?_
        refine kk_iload_n hm.1 1 dX9_of_29 rfl rfl ?_
        obtain ⟨o30, h⟩ := h
        refine kk_iaload hm.1 dX9_of_30 o30 ?_
        exact kk_iret hm.1 hm.2.1 dX9_of_31 ⟨_, rfl, rfl, rfl, rfl, rfl, rfl, h⟩
      · have h := h.2 c15
        refine kk_iconst (v := (-1 : Int32)) hm.1 dX9_of_18 (by decide) ?_
        exact kk_iret hm.1 hm.2.1 dX9_of_19 ⟨_, rfl, rfl, rfl, rfl, rfl, rfl, h⟩
def w_X9_isPicture  (x0 : Int32) (T : kw_T) (n : Nat) (r : kw_R) (i : kw_I) (w : kw_L) (Q : Int32 → Prop) : Prop :=
  (x0 < 0 → Q (0 : Int32)) ∧ (¬ x0 < 0 → ((3 : Int32) ≤ x0 → Q (0 : Int32)) ∧ (¬ (3 : Int32) ≤ x0 → Q (1 : Int32)))
abbrev rm_X9_isPicture : Room := { frames := 1, cells := 0, slots := 0, locals := 60 }
set_option maxHeartbeats 4000000 in
set_option maxRecDepth 100000 in
theorem t_X9_isPicture {l : Launch} {G : kw_G} {x0 : Int32} {T : kw_T} {n : Nat} {r : kw_R} {i : kw_I} {w : kw_L} {Q : Int32 → Prop} (h : w_X9_isPicture x0 T n r i w Q) : kw_Met l G yX9_isPicture cX9_isPicture 1 (some .boolean) rm_X9_isPicture [kw_i x0] (T, n, r, i, w) (kw_PI (fun v T' n' r' i' w' => T = T' ∧ n = n' ∧ r = r' ∧ i = i' ∧ w = w' ∧ Q v)) := by
  refine kw_Met.of (by decide) (Nat.le_of_ble_eq_true rfl) fun E hl hRm hE hT hnm => ?_
  have hm : kw_m E G cX9_isPicture 1 RX9 (some .boolean) rm_X9_isPicture "isPicture" := ⟨hE, hT, hRm, hnm⟩
  subst hl
  show kw_K E G 1 0 0 (kw_Z E G 0 0 (kw_PI (fun v T' n' r' i' w' => T = T' ∧ n = n' ∧ r = r' ∧ i = i' ∧ w = w' ∧ Q v))) 0 [(0, kw_i x0)] [] T n r i w
  refine kk_iload_n hm.1 0 dX9_isPicture_0 rfl rfl ?_
  refine kk_if_lt (tgt := 13) hm.1 dX9_isPicture_1 (by decide) (fun c1 => ?_) (fun c1 => ?_)
  · have h := h.1 c1
    refine kk_iconst (v := (0 : Int32)) hm.1 dX9_isPicture_13 (by decide) ?_
    exact kk_zret hm.1 hm.2.1 dX9_isPicture_14 (Or.inl rfl) ⟨_, rfl, rfl, rfl, rfl, rfl, rfl, h⟩
  · have h := h.2 c1
    refine kk_iload_n hm.1 0 dX9_isPicture_4 rfl rfl ?_
    refine kk_iconst (v := (3 : Int32)) hm.1 dX9_isPicture_5 (by decide) ?_
    refine kk_icmp_ge (tgt := 13) hm.1 dX9_isPicture_6 (by decide) (fun c6 => ?_) (fun c6 => ?_)
    · have h := h.1 c6
      refine kk_iconst (v := (0 : Int32)) hm.1 dX9_isPicture_13 (by decide) ?_
      exact kk_zret hm.1 hm.2.1 dX9_isPicture_14 (Or.inl rfl) ⟨_, rfl, rfl, rfl, rfl, rfl, rfl, h⟩
    · have h := h.2 c6
      refine kk_iconst (v := (1 : Int32)) hm.1 dX9_isPicture_9 (by decide) ?_
      refine kk_goto (tgt := 14) hm.1 dX9_isPicture_10 (by decide) ?_
      exact kk_zret hm.1 hm.2.1 dX9_isPicture_14 (Or.inr rfl) ⟨_, rfl, rfl, rfl, rfl, rfl, rfl, h⟩
def w_X9_paint_21 (a0 : Nat) (x1 : Int32) (x2 : Int32) (x3 : Int32) (T : kw_T) (n : Nat) (r : kw_R) (w : kw_L) (Q : Int32 → kw_I → Prop)  (i : kw_I) : Prop :=
  w_X9_refuse a0 (-1 : Int32) T n r i w (fun v23 i23 => Q v23 i23)
def w_X9_paint  (a0 : Nat) (x1 : Int32) (x2 : Int32) (x3 : Int32) (T : kw_T) (n : Nat) (r : kw_R) (i : kw_I) (w : kw_L) (Q : Int32 → kw_I → Prop) : Prop :=
  w_X9_isPicture x1 T n r i w (fun v1 => (v1 = 0 → w_X9_paint_21 a0 x1 x2 x3 T n r w Q  i) ∧ (¬ v1 = 0 → w_X9_isCell x2 T n r i w (fun v8 => (v8 = 0 → w_X9_paint_21 a0 x1 x2 x3 T n r w Q  i) ∧ (¬ v8 = 0 → w_X9_isColour x3 T n r i w (fun v15 => (¬ v15 = 0 → T ((r a0 0)) = (0, 6) ∧ (kw_in T 5 (r (r a0 0) 1) x1 ∧ (kw_in T 1 (r (r (r a0 0) 1) (x1).toNatClampNeg) x2 ∧ (kw_in T 5 (r (r a0 0) 1) x1 ∧ (kw_in T 1 (r (r (r a0 0) 1) (x1).toNatClampNeg) x2 ∧ (∀ i51 : kw_I, i51 = kw_st i (r (r (r a0 0) 1) (x1).toNatClampNeg) (x2).toNatClampNeg x3 → (w_X9_changed a0 (i (r (r (r a0 0) 1) (x1).toNatClampNeg) (x2).toNatClampNeg) T n r i51 w (fun v55 i55 => Q v55 i55)))))))) ∧ (v15 = 0 → w_X9_paint_21 a0 x1 x2 x3 T n r w Q  i))))))
abbrev rm_X9_paint : Room := { frames := 3, cells := 0, slots := 0, locals := 102 }
set_option maxHeartbeats 4000000 in
set_option maxRecDepth 100000 in
theorem q_X9_paint_21 {a0 : Nat} {x1 : Int32} {x2 : Int32} {x3 : Int32} {T : kw_T} {n : Nat} {r : kw_R} {w : kw_L} {Q : Int32 → kw_I → Prop} {E : kw_E} {G : kw_G} (hm : kw_m E G cX9_paint 5 RX9 (some .int) rm_X9_paint "paint")  (h0 : T a0 = (0, 9))    (i : kw_I) (h : w_X9_paint_21 a0 x1 x2 x3 T n r w Q  i) : kw_K E G 5 0 0 (kw_Z E G 0 0 (kw_PI (fun v T' n' r' i' w' => T = T' ∧ n = n' ∧ r = r' ∧ w = w' ∧ Q v i'))) 21 [(0, kw_a a0), (1, kw_i x1), (2, kw_i x2), (3, kw_i x3)] [] T n r i w := by
  refine kk_aload_n hm.1 0 dX9_paint_21 rfl rfl ?_
  refine kk_iconst (v := (-1 : Int32)) hm.1 dX9_paint_22 (by decide) ?_
  refine kk_callVi (cs' := 0) (sl' := 0) (st := []) hm.1 cv_X9_86 (t_X9_refuse h0 h) dX9_paint_23 h0 rfl rfl hm.2.2.1 ⟨by decide, by decide⟩ ⟨by decide, by decide⟩ rfl rfl (Nat.le_of_ble_eq_true rfl) rfl ?_
  rintro v23 _ _ _ i23 _ ⟨rfl, rfl, rfl, rfl, h⟩
  exact kk_iret hm.1 hm.2.1 dX9_paint_26 ⟨_, rfl, rfl, rfl, rfl, rfl, h⟩
set_option maxHeartbeats 4000000 in
set_option maxRecDepth 100000 in
theorem t_X9_paint {l : Launch} {G : kw_G} {a0 : Nat} {x1 : Int32} {x2 : Int32} {x3 : Int32} {T : kw_T} {n : Nat} {r : kw_R} {i : kw_I} {w : kw_L} {Q : Int32 → kw_I → Prop} (h0 : T a0 = (0, 9)) (h : w_X9_paint a0 x1 x2 x3 T n r i w Q) : kw_Met l G yX9_paint cX9_paint 5 (some .int) rm_X9_paint [kw_a a0, kw_i x1, kw_i x2, kw_i x3] (T, n, r, i, w) (kw_PI (fun v T' n' r' i' w' => T = T' ∧ n = n' ∧ r = r' ∧ w = w' ∧ Q v i')) := by
  refine kw_Met.of (by decide) (Nat.le_of_ble_eq_true rfl) fun E hl hRm hE hT hnm => ?_
  have hm : kw_m E G cX9_paint 5 RX9 (some .int) rm_X9_paint "paint" := ⟨hE, hT, hRm, hnm⟩
  subst hl
  show kw_K E G 5 0 0 (kw_Z E G 0 0 (kw_PI (fun v T' n' r' i' w' => T = T' ∧ n = n' ∧ r = r' ∧ w = w' ∧ Q v i'))) 0 [(0, kw_a a0), (1, kw_i x1), (2, kw_i x2), (3, kw_i x3)] [] T n r i w
  refine kk_iload_n hm.1 1 dX9_paint_0 rfl rfl ?_
  refine kk_callSi (cs' := 0) (sl' := 0) (st := []) hm.1 cs_X9_111 (t_X9_isPicture h) dX9_paint_1 rfl hm.2.2.1 ⟨by decide, by decide⟩ ⟨by decide, by decide⟩ rfl rfl (Nat.le_of_ble_eq_true rfl) rfl ?_
  rintro v1 _ _ _ _ _ ⟨rfl, rfl, rfl, rfl, rfl, h⟩
  refine kk_if_eq (tgt := 21) hm.1 dX9_paint_4 (by decide) (fun c4 => ?_) (fun c4 => ?_)
  · have h := h.1 c4
    exact q_X9_paint_21 hm  h0   i h
  · have h := h.2 c4
    refine kk_iload_n hm.1 2 dX9_paint_7 rfl rfl ?_
    refine kk_callSi (cs' := 0) (sl' := 0) (st := []) hm.1 cs_X9_114 (t_X9_isCell h) dX9_paint_8 rfl hm.2.2.1 ⟨by decide, by decide⟩ ⟨by decide, by decide⟩ rfl rfl (Nat.le_of_ble_eq_true rfl) rfl ?_
    rintro v8 _ _ _ _ _ ⟨rfl, rfl, rfl, rfl, rfl, h⟩
    refine kk_if_eq (tgt := 21) hm.1 dX9_paint_11 (by decide) (fun c11 => ?_) (fun c11 => ?_)
    · have h := h.1 c11
      exact q_X9_paint_21 hm  h0   i h
    · have h := h.2 c11
      refine kk_iload_n hm.1 3 dX9_paint_14 rfl rfl ?_
      refine kk_callSi (cs' := 0) (sl' := 0) (st := []) hm.1 cs_X9_104 (t_X9_isColour h) dX9_paint_15 rfl hm.2.2.1 ⟨by decide, by decide⟩ ⟨by decide, by decide⟩ rfl rfl (Nat.le_of_ble_eq_true rfl) rfl ?_
      rintro v15 _ _ _ _ _ ⟨rfl, rfl, rfl, rfl, rfl, h⟩
      refine kk_if_ne (tgt := 27) hm.1 dX9_paint_18 (by decide) (fun c18 => ?_) (fun c18 => ?_)
      · have h := h.1 c18
        refine kk_aload_n hm.1 0 dX9_paint_27 rfl rfl ?_
        refine kk_getR hm.1 ff_X9_10 dX9_paint_28 h0 ?_
        obtain ⟨o31, h⟩ := h
        refine kk_getR hm.1 ff_X9_117 dX9_paint_31 o31 ?_
        refine kk_iload_n hm.1 1 dX9_paint_34 rfl rfl ?_
        obtain ⟨o35, h⟩ := h
        refine kk_aaload hm.1 5 (by decide) (by decide) rfl rfl dX9_paint_35 o35 ?_
        refine kk_iload_n hm.1 2 dX9_paint_36 rfl rfl ?_
        obtain ⟨o37, h⟩ := h
        refine kk_iaload hm.1 dX9_paint_37 o37 ?_
        refine kk_istore (L' := [(4, kw_i (i (r (r (r a0 0) 1) (x1).toNatClampNeg) (x2).toNatClampNeg)), (0, kw_a a0), (1, kw_i x1), (2, kw_i x2), (3, kw_i x3)]) hm.1 dX9_paint_38 (by decide) rfl ?_
        refine kk_aload_n hm.1 1 dX9_paint_40 rfl rfl ?_
        refine kk_getR hm.1 ff_X9_10 dX9_paint_41 h0 ?_
        refine kk_getR hm.1 ff_X9_117 dX9_paint_44 o31 ?_
        refine kk_iload_n hm.1 2 dX9_paint_47 rfl rfl ?_
        obtain ⟨o48, h⟩ := h
        refine kk_aaload hm.1 5 (by decide) (by decide) rfl rfl dX9_paint_48 o48 ?_
        refine kk_iload_n hm.1 3 dX9_paint_49 rfl rfl ?_
        refine kk_iload_n hm.1 4 dX9_paint_50 rfl rfl ?_
        obtain ⟨o51, h⟩ := h
        refine kn_iastore hm.1 dX9_paint_51 o51 (fun i51 e51 => ?_)
        have h := h i51 e51
        refine kk_aload_n hm.1 1 dX9_paint_52 rfl rfl ?_
        refine kk_iload hm.1 0 dX9_paint_53 rfl ?_
        refine kk_callVi (cs' := 0) (sl' := 0) (st := []) hm.1 cv_X9_101 (t_X9_changed h0 h) dX9_paint_55 h0 rfl rfl hm.2.2.1 ⟨by decide, by decide⟩ ⟨by decide, by decide⟩ rfl rfl (Nat.le_of_ble_eq_true rfl) rfl ?_
        rintro v55 _ _ _ i55 _ ⟨rfl, rfl, rfl, rfl, h⟩
        exact kk_iret hm.1 hm.2.1 dX9_paint_58 ⟨_, rfl, rfl, rfl, rfl, rfl, h⟩
      · have h := h.2 c18
        exact q_X9_paint_21 hm  h0   i h
def w_X9_told  (a0 : Nat) (x1 : Int32) (x2 : Int32) (T : kw_T) (n : Nat) (r : kw_R) (i : kw_I) (w : kw_L) (Q : Int32 → Prop) : Prop :=
  w_X9_isPicture x1 T n r i w (fun v1 => (v1 = 0 → Q (-1 : Int32)) ∧ (¬ v1 = 0 → w_X9_isCell x2 T n r i w (fun v8 => (¬ v8 = 0 → T ((r a0 0)) = (0, 6) ∧ (kw_in T 5 (r (r a0 0) 1) x1 ∧ (kw_in T 1 (r (r (r a0 0) 1) (x1).toNatClampNeg) x2 ∧ (Q (i (r (r (r a0 0) 1) (x1).toNatClampNeg) (x2).toNatClampNeg))))) ∧ (v8 = 0 → Q (-1 : Int32)))))
abbrev rm_X9_told : Room := { frames := 2, cells := 0, slots := 0, locals := 80 }
set_option maxHeartbeats 4000000 in
set_option maxRecDepth 100000 in
theorem t_X9_told {l : Launch} {G : kw_G} {a0 : Nat} {x1 : Int32} {x2 : Int32} {T : kw_T} {n : Nat} {r : kw_R} {i : kw_I} {w : kw_L} {Q : Int32 → Prop} (h0 : T a0 = (0, 9)) (h : w_X9_told a0 x1 x2 T n r i w Q) : kw_Met l G yX9_told cX9_told 3 (some .int) rm_X9_told [kw_a a0, kw_i x1, kw_i x2] (T, n, r, i, w) (kw_PI (fun v T' n' r' i' w' => T = T' ∧ n = n' ∧ r = r' ∧ i = i' ∧ w = w' ∧ Q v)) := by
  refine kw_Met.of (by decide) (Nat.le_of_ble_eq_true rfl) fun E hl hRm hE hT hnm => ?_
  have hm : kw_m E G cX9_told 3 RX9 (some .int) rm_X9_told "told" := ⟨hE, hT, hRm, hnm⟩
  subst hl
  show kw_K E G 3 0 0 (kw_Z E G 0 0 (kw_PI (fun v T' n' r' i' w' => T = T' ∧ n = n' ∧ r = r' ∧ i = i' ∧ w = w' ∧ Q v))) 0 [(0, kw_a a0), (1, kw_i x1), (2, kw_i x2)] [] T n r i w
  refine kk_iload_n hm.1 1 dX9_told_0 rfl rfl ?_
  refine kk_callSi (cs' := 0) (sl' := 0) (st := []) hm.1 cs_X9_111 (t_X9_isPicture h) dX9_told_1 rfl hm.2.2.1 ⟨by decide, by decide⟩ ⟨by decide, by decide⟩ rfl rfl (Nat.le_of_ble_eq_true rfl) rfl ?_
  rintro v1 _ _ _ _ _ ⟨rfl, rfl, rfl, rfl, rfl, h⟩
  refine kk_if_eq (tgt := 14) hm.1 dX9_told_4 (by decide) (fun c4 => ?_) (fun c4 => ?_)
  · have h := h.1 c4
    refine kk_iconst (v := (-1 : Int32)) hm.1 dX9_told_14 (by decide) ?_
    exact kk_iret hm.1 hm.2.1 dX9_told_15 ⟨_, rfl, rfl, rfl, rfl, rfl, rfl, h⟩
  · have h := h.2 c4
    refine kk_iload_n hm.1 2 dX9_told_7 rfl rfl ?_
    refine kk_callSi (cs' := 0) (sl' := 0) (st := []) hm.1 cs_X9_114 (t_X9_isCell h) dX9_told_8 rfl hm.2.2.1 ⟨by decide, by decide⟩ ⟨by decide, by decide⟩ rfl rfl (Nat.le_of_ble_eq_true rfl) rfl ?_
    rintro v8 _ _ _ _ _ ⟨rfl, rfl, rfl, rfl, rfl, h⟩
    refine kk_if_ne (tgt := 16) hm.1 dX9_told_11 (by decide) (fun c11 => ?_) (fun c11 => ?_)
    · have h := h.1 c11
      refine kk_aload_n hm.1 0 dX9_told_16 rfl rfl ?_
      refine kk_getR hm.1 ff_X9_10 dX9_told_17 h0 ?_
      obtain ⟨o20, h⟩ := h
      refine kk_getR hm.1 ff_X9_117 dX9_told_20 o20 ?_
      refine kk_iload_n hm.1 1 dX9_told_23 rfl rfl ?_
      obtain ⟨o24, h⟩ := h
      refine kk_aaload hm.1 5 (by decide) (by decide) rfl rfl dX9_told_24 o24 ?_
      refine kk_iload_n hm.1 2 dX9_told_25 rfl rfl ?_
      obtain ⟨o26, h⟩ := h
      refine kk_iaload hm.1 dX9_told_26 o26 ?_
      exact kk_iret hm.1 hm.2.1 dX9_told_27 ⟨_, rfl, rfl, rfl, rfl, rfl, rfl, h⟩
    · have h := h.2 c11
      refine kk_iconst (v := (-1 : Int32)) hm.1 dX9_told_14 (by decide) ?_
      exact kk_iret hm.1 hm.2.1 dX9_told_15 ⟨_, rfl, rfl, rfl, rfl, rfl, rfl, h⟩
def w_X9_price_17 (a0 : Nat) (x1 : Int32) (x2 : Int32) (T : kw_T) (n : Nat) (r : kw_R) (w : kw_L) (Q : Int32 → kw_I → Prop)  (i : kw_I) : Prop :=
  w_X9_refuse a0 (-1 : Int32) T n r i w (fun v19 i19 => Q v19 i19)
def w_X9_price  (a0 : Nat) (x1 : Int32) (x2 : Int32) (T : kw_T) (n : Nat) (r : kw_R) (i : kw_I) (w : kw_L) (Q : Int32 → kw_I → Prop) : Prop :=
  w_X9_isColour x1 T n r i w (fun v1 => (v1 = 0 → w_X9_price_17 a0 x1 x2 T n r w Q  i) ∧ (¬ v1 = 0 → (x2 < 0 → w_X9_price_17 a0 x1 x2 T n r w Q  i) ∧ (¬ x2 < 0 → (x2 ≤ (99 : Int32) → T ((r a0 0)) = (0, 6) ∧ (kw_in T 1 (r (r a0 0) 2) x1 ∧ (kw_in T 1 (r (r a0 0) 2) x1 ∧ (∀ i42 : kw_I, i42 = kw_st i (r (r a0 0) 2) (x1).toNatClampNeg x2 → (w_X9_allow a0 (i (r (r a0 0) 2) (x1).toNatClampNeg) T n r i42 w (fun v45 i45 => Q v45 i45)))))) ∧ (¬ x2 ≤ (99 : Int32) → w_X9_price_17 a0 x1 x2 T n r w Q  i))))
abbrev rm_X9_price : Room := { frames := 2, cells := 0, slots := 0, locals := 81 }
set_option maxHeartbeats 4000000 in
set_option maxRecDepth 100000 in
theorem q_X9_price_17 {a0 : Nat} {x1 : Int32} {x2 : Int32} {T : kw_T} {n : Nat} {r : kw_R} {w : kw_L} {Q : Int32 → kw_I → Prop} {E : kw_E} {G : kw_G} (hm : kw_m E G cX9_price 4 RX9 (some .int) rm_X9_price "price")  (h0 : T a0 = (0, 9))    (i : kw_I) (h : w_X9_price_17 a0 x1 x2 T n r w Q  i) : kw_K E G 4 0 0 (kw_Z E G 0 0 (kw_PI (fun v T' n' r' i' w' => T = T' ∧ n = n' ∧ r = r' ∧ w = w' ∧ Q v i'))) 17 [(0, kw_a a0), (1, kw_i x1), (2, kw_i x2)] [] T n r i w := by
  refine kk_aload_n hm.1 0 dX9_price_17 rfl rfl ?_
  refine kk_iconst (v := (-1 : Int32)) hm.1 dX9_price_18 (by decide) ?_
  refine kk_callVi (cs' := 0) (sl' := 0) (st := []) hm.1 cv_X9_86 (t_X9_refuse h0 h) dX9_price_19 h0 rfl rfl hm.2.2.1 ⟨by decide, by decide⟩ ⟨by decide, by decide⟩ rfl rfl (Nat.le_of_ble_eq_true rfl) rfl ?_
  rintro v19 _ _ _ i19 _ ⟨rfl, rfl, rfl, rfl, h⟩
  exact kk_iret hm.1 hm.2.1 dX9_price_22 ⟨_, rfl, rfl, rfl, rfl, rfl, h⟩
set_option maxHeartbeats 4000000 in
set_option maxRecDepth 100000 in
theorem t_X9_price {l : Launch} {G : kw_G} {a0 : Nat} {x1 : Int32} {x2 : Int32} {T : kw_T} {n : Nat} {r : kw_R} {i : kw_I} {w : kw_L} {Q : Int32 → kw_I → Prop} (h0 : T a0 = (0, 9)) (h : w_X9_price a0 x1 x2 T n r i w Q) : kw_Met l G yX9_price cX9_price 4 (some .int) rm_X9_price [kw_a a0, kw_i x1, kw_i x2] (T, n, r, i, w) (kw_PI (fun v T' n' r' i' w' => T = T' ∧ n = n' ∧ r = r' ∧ w = w' ∧ Q v i')) := by
  refine kw_Met.of (by decide) (Nat.le_of_ble_eq_true rfl) fun E hl hRm hE hT hnm => ?_
  have hm : kw_m E G cX9_price 4 RX9 (some .int) rm_X9_price "price" := ⟨hE, hT, hRm, hnm⟩
  subst hl
  show kw_K E G 4 0 0 (kw_Z E G 0 0 (kw_PI (fun v T' n' r' i' w' => T = T' ∧ n = n' ∧ r = r' ∧ w = w' ∧ Q v i'))) 0 [(0, kw_a a0), (1, kw_i x1), (2, kw_i x2)] [] T n r i w
  refine kk_iload_n hm.1 1 dX9_price_0 rfl rfl ?_
  refine kk_callSi (cs' := 0) (sl' := 0) (st := []) hm.1 cs_X9_104 (t_X9_isColour h) dX9_price_1 rfl hm.2.2.1 ⟨by decide, by decide⟩ ⟨by decide, by decide⟩ rfl rfl (Nat.le_of_ble_eq_true rfl) rfl ?_
  rintro v1 _ _ _ _ _ ⟨rfl, rfl, rfl, rfl, rfl, h⟩
  refine kk_if_eq (tgt := 17) hm.1 dX9_price_4 (by decide) (fun c4 => ?_) (fun c4 => ?_)
  · have h := h.1 c4
    exact q_X9_price_17 hm  h0   i h
  · have h := h.2 c4
    refine kk_iload_n hm.1 2 dX9_price_7 rfl rfl ?_
    refine kk_if_lt (tgt := 17) hm.1 dX9_price_8 (by decide) (fun c8 => ?_) (fun c8 => ?_)
    · have h := h.1 c8
      exact q_X9_price_17 hm  h0   i h
    · have h := h.2 c8
      refine kk_iload_n hm.1 2 dX9_price_11 rfl rfl ?_
      refine kk_bipush (v := (99 : Int32)) hm.1 dX9_price_12 (by decide) ?_
      refine kk_icmp_le (tgt := 23) hm.1 dX9_price_14 (by decide) (fun c14 => ?_) (fun c14 => ?_)
      · have h := h.1 c14
        refine kk_aload_n hm.1 0 dX9_price_23 rfl rfl ?_
        refine kk_getR hm.1 ff_X9_10 dX9_price_24 h0 ?_
        obtain ⟨o27, h⟩ := h
        refine kk_getR hm.1 ff_X9_120 dX9_price_27 o27 ?_
        refine kk_iload_n hm.1 1 dX9_price_30 rfl rfl ?_
        obtain ⟨o31, h⟩ := h
        refine kk_iaload hm.1 dX9_price_31 o31 ?_
        refine kk_istore_n (L' := [(3, kw_i (i (r (r a0 0) 2) (x1).toNatClampNeg)), (0, kw_a a0), (1, kw_i x1), (2, kw_i x2)]) hm.1 dX9_price_32 rfl (by decide) rfl ?_
        refine kk_aload_n hm.1 1 dX9_price_33 rfl rfl ?_
        refine kk_getR hm.1 ff_X9_10 dX9_price_34 h0 ?_
        refine kk_getR hm.1 ff_X9_120 dX9_price_37 o27 ?_
        refine kk_iload_n hm.1 2 dX9_price_40 rfl rfl ?_
        refine kk_iload_n hm.1 3 dX9_price_41 rfl rfl ?_
        obtain ⟨o42, h⟩ := h
        refine kn_iastore hm.1 dX9_price_42 o42 (fun i42 e42 => ?_)
        have h := h i42 e42
        refine kk_aload_n hm.1 1 dX9_price_43 rfl rfl ?_
        refine kk_iload_n hm.1 0 dX9_price_44 rfl rfl ?_
        refine kk_callVi (cs' := 0) (sl' := 0) (st := []) hm.1 cv_X9_123 (t_X9_allow h0 h) dX9_price_45 h0 rfl rfl hm.2.2.1 ⟨by decide, by decide⟩ ⟨by decide, by decide⟩ rfl rfl (Nat.le_of_ble_eq_true rfl) rfl ?_
        rintro v45 _ _ _ i45 _ ⟨rfl, rfl, rfl, rfl, h⟩
        exact kk_iret hm.1 hm.2.1 dX9_price_48 ⟨_, rfl, rfl, rfl, rfl, rfl, h⟩
      · have h := h.2 c14
        exact q_X9_price_17 hm  h0   i h
def w_X9_terms_57 (a0 : Nat) (x1 : Int32) (x2 : Int32) (T : kw_T) (n : Nat) (r : kw_R) (w : kw_L) (Q : Int32 → kw_I → Prop)  (i : kw_I) : Prop :=
  T ((r a0 0)) = (0, 6) ∧ (kw_in T 1 (r (r a0 0) 3) x1 ∧ (kw_in T 1 (r (r a0 0) 3) x1 ∧ (∀ i77 : kw_I, i77 = kw_st i (r (r a0 0) 3) (x1).toNatClampNeg x2 → (w_X9_changed a0 (i (r (r a0 0) 3) (x1).toNatClampNeg) T n r i77 w (fun v81 i81 => Q v81 i81)))))
def w_X9_terms_40 (a0 : Nat) (x1 : Int32) (x2 : Int32) (T : kw_T) (n : Nat) (r : kw_R) (w : kw_L) (Q : Int32 → kw_I → Prop)  (x3 : Int32) (s0 : Int32) (i : kw_I) : Prop :=
  (¬ x3 = 0 → w_X9_terms_57 a0 x1 x2 T n r w Q  i) ∧ (x3 = 0 → (¬ s0 = 0 → w_X9_terms_57 a0 x1 x2 T n r w Q  i) ∧ (s0 = 0 → w_X9_refuse a0 (-1 : Int32) T n r i w (fun v53 i53 => Q v53 i53)))
def w_X9_terms_39 (a0 : Nat) (x1 : Int32) (x2 : Int32) (T : kw_T) (n : Nat) (r : kw_R) (w : kw_L) (Q : Int32 → kw_I → Prop)  (x3 : Int32) (i : kw_I) : Prop :=
  w_X9_terms_40 a0 x1 x2 T n r w Q  x3 ((0 : Int32)) i
def w_X9_terms_19 (a0 : Nat) (x1 : Int32) (x2 : Int32) (T : kw_T) (n : Nat) (r : kw_R) (w : kw_L) (Q : Int32 → kw_I → Prop)  (s0 : Int32) (i : kw_I) : Prop :=
  (¬ x1 = (1 : Int32) → w_X9_terms_39 a0 x1 x2 T n r w Q  s0 i) ∧ (x1 = (1 : Int32) → (x2 < 0 → w_X9_terms_39 a0 x1 x2 T n r w Q  s0 i) ∧ (¬ x2 < 0 → ((99 : Int32) < x2 → w_X9_terms_39 a0 x1 x2 T n r w Q  s0 i) ∧ (¬ (99 : Int32) < x2 → w_X9_terms_40 a0 x1 x2 T n r w Q  s0 ((1 : Int32)) i)))
def w_X9_terms_18 (a0 : Nat) (x1 : Int32) (x2 : Int32) (T : kw_T) (n : Nat) (r : kw_R) (w : kw_L) (Q : Int32 → kw_I → Prop)  (i : kw_I) : Prop :=
  w_X9_terms_19 a0 x1 x2 T n r w Q  ((0 : Int32)) i
def w_X9_terms  (a0 : Nat) (x1 : Int32) (x2 : Int32) (T : kw_T) (n : Nat) (r : kw_R) (i : kw_I) (w : kw_L) (Q : Int32 → kw_I → Prop) : Prop :=
  (¬ x1 = 0 → w_X9_terms_18 a0 x1 x2 T n r w Q  i) ∧ (x1 = 0 → (x2 < 0 → w_X9_terms_18 a0 x1 x2 T n r w Q  i) ∧ (¬ x2 < 0 → ((100 : Int32) < x2 → w_X9_terms_18 a0 x1 x2 T n r w Q  i) ∧ (¬ (100 : Int32) < x2 → w_X9_terms_19 a0 x1 x2 T n r w Q  ((1 : Int32)) i)))
abbrev rm_X9_terms : Room := { frames := 3, cells := 0, slots := 0, locals := 102 }
set_option maxHeartbeats 4000000 in
set_option maxRecDepth 100000 in
theorem q_X9_terms_57 {a0 : Nat} {x1 : Int32} {x2 : Int32} {T : kw_T} {n : Nat} {r : kw_R} {w : kw_L} {Q : Int32 → kw_I → Prop} {E : kw_E} {G : kw_G} (hm : kw_m E G cX9_terms 6 RX9 (some .int) rm_X9_terms "terms")  (h0 : T a0 = (0, 9))    (i : kw_I) (h : w_X9_terms_57 a0 x1 x2 T n r w Q  i) : kw_K E G 6 0 0 (kw_Z E G 0 0 (kw_PI (fun v T' n' r' i' w' => T = T' ∧ n = n' ∧ r = r' ∧ w = w' ∧ Q v i'))) 57 [(0, kw_a a0), (1, kw_i x1), (2, kw_i x2)] [] T n r i w := by
  refine kk_aload_n hm.1 0 dX9_terms_57 rfl rfl ?_
  refine kk_getR hm.1 ff_X9_10 dX9_terms_58 h0 ?_
  obtain ⟨o61, h⟩ := h
  refine kk_getR hm.1 ff_X9_126 dX9_terms_61 o61 ?_
  refine kk_iload_n hm.1 1 dX9_terms_64 rfl rfl ?_
  obtain ⟨o65, h⟩ := h
  refine kk_iaload hm.1 dX9_terms_65 o65 ?_
  refine kk_istore (L' := [(5, kw_i (i (r (r a0 0) 3) (x1).toNatClampNeg)), (0, kw_a a0), (1, kw_i x1), (2, kw_i x2)]) hm.1 dX9_terms_66 (by decide) rfl ?_
  refine kk_aload_n hm.1 1 dX9_terms_68 rfl rfl ?_
  refine kk_getR hm.1 ff_X9_10 dX9_terms_69 h0 ?_
  refine kk_getR hm.1 ff_X9_126 dX9_terms_72 o61 ?_
  refine kk_iload_n hm.1 2 dX9_terms_75 rfl rfl ?_
  refine kk_iload_n hm.1 3 dX9_terms_76 rfl rfl ?_
  obtain ⟨o77, h⟩ := h
  refine kn_iastore hm.1 dX9_terms_77 o77 (fun i77 e77 => ?_)
  have h := h i77 e77
  refine kk_aload_n hm.1 1 dX9_terms_78 rfl rfl ?_
  refine kk_iload hm.1 0 dX9_terms_79 rfl ?_
  refine kk_callVi (cs' := 0) (sl' := 0) (st := []) hm.1 cv_X9_101 (t_X9_changed h0 h) dX9_terms_81 h0 rfl rfl hm.2.2.1 ⟨by decide, by decide⟩ ⟨by decide, by decide⟩ rfl rfl (Nat.le_of_ble_eq_true rfl) rfl ?_
  rintro v81 _ _ _ i81 _ ⟨rfl, rfl, rfl, rfl, h⟩
  exact kk_iret hm.1 hm.2.1 dX9_terms_84 ⟨_, rfl, rfl, rfl, rfl, rfl, h⟩
set_option maxHeartbeats 4000000 in
set_option maxRecDepth 100000 in
theorem q_X9_terms_40 {a0 : Nat} {x1 : Int32} {x2 : Int32} {T : kw_T} {n : Nat} {r : kw_R} {w : kw_L} {Q : Int32 → kw_I → Prop} {E : kw_E} {G : kw_G} (hm : kw_m E G cX9_terms 6 RX9 (some .int) rm_X9_terms "terms")  (h0 : T a0 = (0, 9))    (x3 : Int32) (s0 : Int32) (i : kw_I) (h : w_X9_terms_40 a0 x1 x2 T n r w Q  x3 s0 i) : kw_K E G 6 0 0 (kw_Z E G 0 0 (kw_PI (fun v T' n' r' i' w' => T = T' ∧ n = n' ∧ r = r' ∧ w = w' ∧ Q v i'))) 40 [(0, kw_a a0), (1, kw_i x1), (2, kw_i x2), (3, kw_i x3)] [kw_i s0] T n r i w := by
  refine kk_istore (L' := [(4, kw_i s0), (0, kw_a a0), (1, kw_i x1), (2, kw_i x2), (3, kw_i x3)]) hm.1 dX9_terms_40 (by decide) rfl ?_
  refine kk_iload_n hm.1 4 dX9_terms_42 rfl rfl ?_
  refine kk_if_ne (tgt := 57) hm.1 dX9_terms_43 (by decide) (fun c43 => ?_) (fun c43 => ?_)
  · have h := h.1 c43
    refine kk_loc (L' := [(0, kw_a a0), (1, kw_i x1), (2, kw_i x2)]) [1, 2, 3] rfl ?_
    exact q_X9_terms_57 hm  h0   i h
  · have h := h.2 c43
    refine kk_iload hm.1 0 dX9_terms_46 rfl ?_
    refine kk_if_ne (tgt := 57) hm.1 dX9_terms_48 (by decide) (fun c48 => ?_) (fun c48 => ?_)
    · have h := h.1 c48
      refine kk_loc (L' := [(0, kw_a a0), (1, kw_i x1), (2, kw_i x2)]) [1, 2, 3] rfl ?_
      exact q_X9_terms_57 hm  h0   i h
    · have h := h.2 c48
      refine kk_aload_n hm.1 1 dX9_terms_51 rfl rfl ?_
      refine kk_iconst (v := (-1 : Int32)) hm.1 dX9_terms_52 (by decide) ?_
      refine kk_callVi (cs' := 0) (sl' := 0) (st := []) hm.1 cv_X9_86 (t_X9_refuse h0 h) dX9_terms_53 h0 rfl rfl hm.2.2.1 ⟨by decide, by decide⟩ ⟨by decide, by decide⟩ rfl rfl (Nat.le_of_ble_eq_true rfl) rfl ?_
      rintro v53 _ _ _ i53 _ ⟨rfl, rfl, rfl, rfl, h⟩
      exact kk_iret hm.1 hm.2.1 dX9_terms_56 ⟨_, rfl, rfl, rfl, rfl, rfl, h⟩
set_option maxHeartbeats 4000000 in
set_option maxRecDepth 100000 in
theorem q_X9_terms_39 {a0 : Nat} {x1 : Int32} {x2 : Int32} {T : kw_T} {n : Nat} {r : kw_R} {w : kw_L} {Q : Int32 → kw_I → Prop} {E : kw_E} {G : kw_G} (hm : kw_m E G cX9_terms 6 RX9 (some .int) rm_X9_terms "terms")  (h0 : T a0 = (0, 9))    (x3 : Int32) (i : kw_I) (h : w_X9_terms_39 a0 x1 x2 T n r w Q  x3 i) : kw_K E G 6 0 0 (kw_Z E G 0 0 (kw_PI (fun v T' n' r' i' w' => T = T' ∧ n = n' ∧ r = r' ∧ w = w' ∧ Q v i'))) 39 [(0, kw_a a0), (1, kw_i x1), (2, kw_i x2), (3, kw_i x3)] [] T n r i w := by
  refine kk_iconst (v := (0 : Int32)) hm.1 dX9_terms_39 (by decide) ?_
  exact q_X9_terms_40 hm  h0   x3 ((0 : Int32)) i h
set_option maxHeartbeats 4000000 in
set_option maxRecDepth 100000 in
theorem q_X9_terms_19 {a0 : Nat} {x1 : Int32} {x2 : Int32} {T : kw_T} {n : Nat} {r : kw_R} {w : kw_L} {Q : Int32 → kw_I → Prop} {E : kw_E} {G : kw_G} (hm : kw_m E G cX9_terms 6 RX9 (some .int) rm_X9_terms "terms")  (h0 : T a0 = (0, 9))    (s0 : Int32) (i : kw_I) (h : w_X9_terms_19 a0 x1 x2 T n r w Q  s0 i) : kw_K E G 6 0 0 (kw_Z E G 0 0 (kw_PI (fun v T' n' r' i' w' => T = T' ∧ n = n' ∧ r = r' ∧ w = w' ∧ Q v i'))) 19 [(0, kw_a a0), (1, kw_i x1), (2, kw_i x2)] [kw_i s0] T n r i w := by
  refine kk_istore_n (L' := [(3, kw_i s0), (0, kw_a a0), (1, kw_i x1), (2, kw_i x2)]) hm.1 dX9_terms_19 rfl (by decide) rfl ?_
  refine kk_iload_n hm.1 2 dX9_terms_20 rfl rfl ?_
  refine kk_iconst (v := (1 : Int32)) hm.1 dX9_terms_21 (by decide) ?_
  refine kk_icmp_ne (tgt := 39) hm.1 dX9_terms_22 (by decide) (fun c22 => ?_) (fun c22 => ?_)
  · have h := h.1 c22
    refine kk_loc (L' := [(0, kw_a a0), (1, kw_i x1), (2, kw_i x2), (3, kw_i s0)]) [1, 2, 3, 0] rfl ?_
    exact q_X9_terms_39 hm  h0   s0 i h
  · have h := h.2 c22
    refine kk_iload_n hm.1 3 dX9_terms_25 rfl rfl ?_
    refine kk_if_lt (tgt := 39) hm.1 dX9_terms_26 (by decide) (fun c26 => ?_) (fun c26 => ?_)
    · have h := h.1 c26
      refine kk_loc (L' := [(0, kw_a a0), (1, kw_i x1), (2, kw_i x2), (3, kw_i s0)]) [1, 2, 3, 0] rfl ?_
      exact q_X9_terms_39 hm  h0   s0 i h
    · have h := h.2 c26
      refine kk_iload_n hm.1 3 dX9_terms_29 rfl rfl ?_
      refine kk_bipush (v := (99 : Int32)) hm.1 dX9_terms_30 (by decide) ?_
      refine kk_icmp_gt (tgt := 39) hm.1 dX9_terms_32 (by decide) (fun c32 => ?_) (fun c32 => ?_)
      · have h := h.1 c32
        refine kk_loc (L' := [(0, kw_a a0), (1, kw_i x1), (2, kw_i x2), (3, kw_i s0)]) [1, 2, 3, 0] rfl ?_
        exact q_X9_terms_39 hm  h0   s0 i h
      · have h := h.2 c32
        refine kk_iconst (v := (1 : Int32)) hm.1 dX9_terms_35 (by decide) ?_
        refine kk_goto (tgt := 40) hm.1 dX9_terms_36 (by decide) ?_
        refine kk_loc (L' := [(0, kw_a a0), (1, kw_i x1), (2, kw_i x2), (3, kw_i s0)]) [1, 2, 3, 0] rfl ?_
        exact q_X9_terms_40 hm  h0   s0 ((1 : Int32)) i h
set_option maxHeartbeats 4000000 in
set_option maxRecDepth 100000 in
theorem q_X9_terms_18 {a0 : Nat} {x1 : Int32} {x2 : Int32} {T : kw_T} {n : Nat} {r : kw_R} {w : kw_L} {Q : Int32 → kw_I → Prop} {E : kw_E} {G : kw_G} (hm : kw_m E G cX9_terms 6 RX9 (some .int) rm_X9_terms "terms")  (h0 : T a0 = (0, 9))    (i : kw_I) (h : w_X9_terms_18 a0 x1 x2 T n r w Q  i) : kw_K E G 6 0 0 (kw_Z E G 0 0 (kw_PI (fun v T' n' r' i' w' => T = T' ∧ n = n' ∧ r = r' ∧ w = w' ∧ Q v i'))) 18 [(0, kw_a a0), (1, kw_i x1), (2, kw_i x2)] [] T n r i w := by
  refine kk_iconst (v := (0 : Int32)) hm.1 dX9_terms_18 (by decide) ?_
  exact q_X9_terms_19 hm  h0   ((0 : Int32)) i h
set_option maxHeartbeats 4000000 in
set_option maxRecDepth 100000 in
theorem t_X9_terms {l : Launch} {G : kw_G} {a0 : Nat} {x1 : Int32} {x2 : Int32} {T : kw_T} {n : Nat} {r : kw_R} {i : kw_I} {w : kw_L} {Q : Int32 → kw_I → Prop} (h0 : T a0 = (0, 9)) (h : w_X9_terms a0 x1 x2 T n r i w Q) : kw_Met l G yX9_terms cX9_terms 6 (some .int) rm_X9_terms [kw_a a0, kw_i x1, kw_i x2] (T, n, r, i, w) (kw_PI (fun v T' n' r' i' w' => T = T' ∧ n = n' ∧ r = r' ∧ w = w' ∧ Q v i')) := by
  refine kw_Met.of (by decide) (Nat.le_of_ble_eq_true rfl) fun E hl hRm hE hT hnm => ?_
  have hm : kw_m E G cX9_terms 6 RX9 (some .int) rm_X9_terms "terms" := ⟨hE, hT, hRm, hnm⟩
  subst hl
  show kw_K E G 6 0 0 (kw_Z E G 0 0 (kw_PI (fun v T' n' r' i' w' => T = T' ∧ n = n' ∧ r = r' ∧ w = w' ∧ Q v i'))) 0 [(0, kw_a a0), (1, kw_i x1), (2, kw_i x2)] [] T n r i w
  refine kk_iload_n hm.1 1 dX9_terms_0 rfl rfl ?_
  refine kk_if_ne (tgt := 18) hm.1 dX9_terms_1 (by decide) (fun c1 => ?_) (fun c1 => ?_)
  · have h := h.1 c1
    exact q_X9_terms_18 hm  h0   i h
  · have h := h.2 c1
    refine kk_iload_n hm.1 2 dX9_terms_4 rfl rfl ?_
    refine kk_if_lt (tgt := 18) hm.1 dX9_terms_5 (by decide) (fun c5 => ?_) (fun c5 => ?_)
    · have h := h.1 c5
      exact q_X9_terms_18 hm  h0   i h
    · have h := h.2 c5
      refine kk_iload_n hm.1 2 dX9_terms_8 rfl rfl ?_
      refine kk_bipush (v := (100 : Int32)) hm.1 dX9_terms_9 (by decide) ?_
      refine kk_icmp_gt (tgt := 18) hm.1 dX9_terms_11 (by decide) (fun c11 => ?_) (fun c11 => ?_)
      · have h := h.1 c11
        exact q_X9_terms_18 hm  h0   i h
      · have h := h.2 c11
        refine kk_iconst (v := (1 : Int32)) hm.1 dX9_terms_14 (by decide) ?_
        refine kk_goto (tgt := 19) hm.1 dX9_terms_15 (by decide) ?_
        exact q_X9_terms_19 hm  h0   ((1 : Int32)) i h
def w_X9_feed  (a0 : Nat) (x1 : Int32) (x2 : Int32) (x3 : Int32) (x4 : Int32) (x5 : Int32) (T : kw_T) (n : Nat) (r : kw_R) (i : kw_I) (w : kw_L) (Q : Int32 → kw_I → Prop) : Prop :=
  T ((r a0 2)) = (0, 7) ∧ ((((i (r a0 2) 1) + (20 : Int32)) ≤ (400 : Int32) → w_X7_add (r a0 2) x1 T n r i w (fun i23 => w_X7_add (r a0 2) x2 T n r i23 w (fun i31 => w_X7_add (r a0 2) x3 T n r i31 w (fun i39 => w_X7_add (r a0 2) x4 T n r i39 w (fun i48 => w_X7_add (r a0 2) x5 T n r i48 w (fun i57 => Q (i57 (r a0 2) 1) i57)))))) ∧ (¬ ((i (r a0 2) 1) + (20 : Int32)) ≤ (400 : Int32) → Q (-1 : Int32) i))
abbrev rm_X9_feed : Room := { frames := 2, cells := 0, slots := 0, locals := 82 }
set_option maxHeartbeats 4000000 in
set_option maxRecDepth 100000 in
theorem t_X9_feed {l : Launch} {G : kw_G} {a0 : Nat} {x1 : Int32} {x2 : Int32} {x3 : Int32} {x4 : Int32} {x5 : Int32} {T : kw_T} {n : Nat} {r : kw_R} {i : kw_I} {w : kw_L} {Q : Int32 → kw_I → Prop} (h0 : T a0 = (0, 9)) (h : w_X9_feed a0 x1 x2 x3 x4 x5 T n r i w Q) : kw_Met l G yX9_feed cX9_feed 6 (some .int) rm_X9_feed [kw_a a0, kw_i x1, kw_i x2, kw_i x3, kw_i x4, kw_i x5] (T, n, r, i, w) (kw_PI (fun v T' n' r' i' w' => T = T' ∧ n = n' ∧ r = r' ∧ w = w' ∧ Q v i')) := by
  refine kw_Met.of (by decide) (Nat.le_of_ble_eq_true rfl) fun E hl hRm hE hT hnm => ?_
  have hm : kw_m E G cX9_feed 6 RX9 (some .int) rm_X9_feed "feed" := ⟨hE, hT, hRm, hnm⟩
  subst hl
  show kw_K E G 6 0 0 (kw_Z E G 0 0 (kw_PI (fun v T' n' r' i' w' => T = T' ∧ n = n' ∧ r = r' ∧ w = w' ∧ Q v i'))) 0 [(0, kw_a a0), (1, kw_i x1), (2, kw_i x2), (3, kw_i x3), (4, kw_i x4), (5, kw_i x5)] [] T n r i w
  refine kk_aload_n hm.1 0 dX9_feed_0 rfl rfl ?_
  refine kk_getR hm.1 ff_X9_23 dX9_feed_1 h0 ?_
  obtain ⟨o4, h⟩ := h
  refine kk_getI hm.1 ff_X9_129 dX9_feed_4 o4 ?_
  refine kk_bipush (v := (20 : Int32)) hm.1 dX9_feed_7 (by decide) ?_
  refine kk_iadd hm.1 dX9_feed_9 ?_
  refine kk_sipush (v := (400 : Int32)) hm.1 dX9_feed_10 (by decide) ?_
  refine kk_icmp_le (tgt := 18) hm.1 dX9_feed_13 (by decide) (fun c13 => ?_) (fun c13 => ?_)
  · have h := h.1 c13
    refine kk_aload_n hm.1 0 dX9_feed_18 rfl rfl ?_
    refine kk_getR hm.1 ff_X9_23 dX9_feed_19 h0 ?_
    refine kk_iload_n hm.1 1 dX9_feed_22 rfl rfl ?_
    refine kk_callVv (cs' := 0) (sl' := 0) (st := []) hm.1 cv_X9_132 (t_X7_add o4 h) dX9_feed_23 o4 rfl rfl hm.2.2.1 ⟨by decide, by decide⟩ ⟨by decide, by decide⟩ rfl rfl (Nat.le_of_ble_eq_true rfl) rfl ?_
    rintro _ _ _ i23 _ ⟨rfl, rfl, rfl, rfl, h⟩
    refine kk_aload_n hm.1 0 dX9_feed_26 rfl rfl ?_
    refine kk_getR hm.1 ff_X9_23 dX9_feed_27 h0 ?_
    refine kk_iload_n hm.1 2 dX9_feed_30 rfl rfl ?_
    refine kk_callVv (cs' := 0) (sl' := 0) (st := []) hm.1 cv_X9_132 (t_X7_add o4 h) dX9_feed_31 o4 rfl rfl hm.2.2.1 ⟨by decide, by decide⟩ ⟨by decide, by decide⟩ rfl rfl (Nat.le_of_ble_eq_true rfl) rfl ?_
    rintro _ _ _ i31 _ ⟨rfl, rfl, rfl, rfl, h⟩
    refine kk_aload_n hm.1 0 dX9_feed_34 rfl rfl ?_
    refine kk_getR hm.1 ff_X9_23 dX9_feed_35 h0 ?_
    refine kk_iload_n hm.1 3 dX9_feed_38 rfl rfl ?_
    refine kk_callVv (cs' := 0) (sl' := 0) (st := []) hm.1 cv_X9_132 (t_X7_add o4 h) dX9_feed_39 o4 rfl rfl hm.2.2.1 ⟨by decide, by decide⟩ ⟨by decide, by decide⟩ rfl rfl (Nat.le_of_ble_eq_true rfl) rfl ?_
    rintro _ _ _ i39 _ ⟨rfl, rfl, rfl, rfl, h⟩
    refine kk_aload_n hm.1 0 dX9_feed_42 rfl rfl ?_
    refine kk_getR hm.1 ff_X9_23 dX9_feed_43 h0 ?_
    refine kk_iload hm.1 4 dX9_feed_46 rfl ?_
    refine kk_callVv (cs' := 0) (sl' := 0) (st := []) hm.1 cv_X9_132 (t_X7_add o4 h) dX9_feed_48 o4 rfl rfl hm.2.2.1 ⟨by decide, by decide⟩ ⟨by decide, by decide⟩ rfl rfl (Nat.le_of_ble_eq_true rfl) rfl ?_
    rintro _ _ _ i48 _ ⟨rfl, rfl, rfl, rfl, h⟩
    refine kk_aload_n hm.1 0 dX9_feed_51 rfl rfl ?_
    refine kk_getR hm.1 ff_X9_23 dX9_feed_52 h0 ?_
    refine kk_iload hm.1 5 dX9_feed_55 rfl ?_
    refine kk_callVv (cs' := 0) (sl' := 0) (st := []) hm.1 cv_X9_132 (t_X7_add o4 h) dX9_feed_57 o4 rfl rfl hm.2.2.1 ⟨by decide, by decide⟩ ⟨by decide, by decide⟩ rfl rfl (Nat.le_of_ble_eq_true rfl) rfl ?_
    rintro _ _ _ i57 _ ⟨rfl, rfl, rfl, rfl, h⟩
    refine kk_aload_n hm.1 0 dX9_feed_60 rfl rfl ?_
    refine kk_getR hm.1 ff_X9_23 dX9_feed_61 h0 ?_
    refine kk_getI hm.1 ff_X9_129 dX9_feed_64 o4 ?_
    exact kk_iret hm.1 hm.2.1 dX9_feed_67 ⟨_, rfl, rfl, rfl, rfl, rfl, h⟩
  · have h := h.2 c13
    refine kk_iconst (v := (-1 : Int32)) hm.1 dX9_feed_16 (by decide) ?_
    exact kk_iret hm.1 hm.2.1 dX9_feed_17 ⟨_, rfl, rfl, rfl, rfl, rfl, h⟩
def w_X9_end  (a0 : Nat) (x1 : Int32) (T : kw_T) (n : Nat) (r : kw_R) (i : kw_I) (w : kw_L) (Q : Int32 → kw_I → Prop) : Prop :=
  (x1 < 0 → Q (-1 : Int32) i) ∧ (¬ x1 < 0 → T ((r a0 2)) = (0, 7) ∧ ((x1 ≤ (i (r a0 2) 1) → ∀ i22 : kw_I, i22 = kw_st i (r a0 2) 1 x1 → (Q x1 i22)) ∧ (¬ x1 ≤ (i (r a0 2) 1) → Q (-1 : Int32) i)))
abbrev rm_X9_end : Room := { frames := 1, cells := 0, slots := 0, locals := 60 }
set_option maxHeartbeats 4000000 in
set_option maxRecDepth 100000 in
theorem t_X9_end {l : Launch} {G : kw_G} {a0 : Nat} {x1 : Int32} {T : kw_T} {n : Nat} {r : kw_R} {i : kw_I} {w : kw_L} {Q : Int32 → kw_I → Prop} (h0 : T a0 = (0, 9)) (h : w_X9_end a0 x1 T n r i w Q) : kw_Met l G yX9_end cX9_end 2 (some .int) rm_X9_end [kw_a a0, kw_i x1] (T, n, r, i, w) (kw_PI (fun v T' n' r' i' w' => T = T' ∧ n = n' ∧ r = r' ∧ w = w' ∧ Q v i')) := by
  refine kw_Met.of (by decide) (Nat.le_of_ble_eq_true rfl) fun E hl hRm hE hT hnm => ?_
  have hm : kw_m E G cX9_end 2 RX9 (some .int) rm_X9_end "end" := ⟨hE, hT, hRm, hnm⟩
  subst hl
  show kw_K E G 2 0 0 (kw_Z E G 0 0 (kw_PI (fun v T' n' r' i' w' => T = T' ∧ n = n' ∧ r = r' ∧ w = w' ∧ Q v i'))) 0 [(0, kw_a a0), (1, kw_i x1)] [] T n r i w
  refine kk_iload_n hm.1 1 dX9_end_0 rfl rfl ?_
  refine kk_if_lt (tgt := 15) hm.1 dX9_end_1 (by decide) (fun c1 => ?_) (fun c1 => ?_)
  · have h := h.1 c1
    refine kk_iconst (v := (-1 : Int32)) hm.1 dX9_end_15 (by decide) ?_
    exact kk_iret hm.1 hm.2.1 dX9_end_16 ⟨_, rfl, rfl, rfl, rfl, rfl, h⟩
  · have h := h.2 c1
    refine kk_iload_n hm.1 1 dX9_end_4 rfl rfl ?_
    refine kk_aload_n hm.1 0 dX9_end_5 rfl rfl ?_
    refine kk_getR hm.1 ff_X9_23 dX9_end_6 h0 ?_
    obtain ⟨o9, h⟩ := h
    refine kk_getI hm.1 ff_X9_129 dX9_end_9 o9 ?_
    refine kk_icmp_le (tgt := 17) hm.1 dX9_end_12 (by decide) (fun c12 => ?_) (fun c12 => ?_)
    · have h := h.1 c12
      refine kk_aload_n hm.1 0 dX9_end_17 rfl rfl ?_
      refine kk_getR hm.1 ff_X9_23 dX9_end_18 h0 ?_
      refine kk_iload_n hm.1 1 dX9_end_21 rfl rfl ?_
      refine kn_putI hm.1 fp_X9_129 dX9_end_22 o9 (fun i22 e22 => ?_)
      have h := h i22 e22
      refine kk_iload_n hm.1 1 dX9_end_25 rfl rfl ?_
      exact kk_iret hm.1 hm.2.1 dX9_end_26 ⟨_, rfl, rfl, rfl, rfl, rfl, h⟩
    · have h := h.2 c12
      refine kk_iconst (v := (-1 : Int32)) hm.1 dX9_end_15 (by decide) ?_
      exact kk_iret hm.1 hm.2.1 dX9_end_16 ⟨_, rfl, rfl, rfl, rfl, rfl, h⟩
