def w_X10_put_29 (a0 : Nat) (x1 : Int32) (x2 : Int32) (x3 : Int32) (T : kw_T) (n : Nat) (r : kw_R) (w : kw_L) (Q : Int32 → kw_I → Prop)  (i : kw_I) : Prop :=
  w_X10_refuses a0 (-1 : Int32) T n r i w (fun v31 i31 => Q v31 i31)
def w_X10_put_23 (a0 : Nat) (x1 : Int32) (x2 : Int32) (x3 : Int32) (T : kw_T) (n : Nat) (r : kw_R) (w : kw_L) (Q : Int32 → kw_I → Prop)  (s0 : Int32) (s1 : Int32) (s2 : Int32) (i : kw_I) : Prop :=
  w_X10_lies s0 s1 s2 T n r i w (fun v23 => (¬ v23 = 0 → w_X10_isVillage a0 x1 T n r i w (fun v37 => (¬ v37 = 0 → w_X10_factOf a0 x1 ((4 : Int32) + x2) T n r i w (fun v55 => kw_in T 1 (r a0 2) ((((6 : Int32) * x1) + (4 : Int32)) + x2) ∧ (∀ i73 : kw_I, i73 = kw_st i (r a0 2) (((((6 : Int32) * x1) + (4 : Int32)) + x2)).toNatClampNeg x3 → (w_X10_good a0 v55 T n r i73 w (fun v77 i77 => Q v77 i77))))) ∧ (v37 = 0 → w_X10_refuses a0 (-2 : Int32) T n r i w (fun v46 i46 => Q v46 i46)))) ∧ (v23 = 0 → w_X10_put_29 a0 x1 x2 x3 T n r w Q  i))
def w_X10_put  (a0 : Nat) (x1 : Int32) (x2 : Int32) (x3 : Int32) (T : kw_T) (n : Nat) (r : kw_R) (i : kw_I) (w : kw_L) (Q : Int32 → kw_I → Prop) : Prop :=
  w_X10_lies x2 (0 : Int32) (1 : Int32) T n r i w (fun v3 => (v3 = 0 → w_X10_put_29 a0 x1 x2 x3 T n r w Q  i) ∧ (¬ v3 = 0 → (¬ x2 = 0 → w_X10_put_23 a0 x1 x2 x3 T n r w Q  x3 x2 ((255 : Int32)) i) ∧ (x2 = 0 → w_X10_put_23 a0 x1 x2 x3 T n r w Q  x3 x2 ((7 : Int32)) i)))
abbrev rm_X10_put : Room := { frames := 3, cells := 0, slots := 0, locals := 103 }
set_option maxHeartbeats 4000000 in
set_option maxRecDepth 100000 in
theorem q_X10_put_29 {a0 : Nat} {x1 : Int32} {x2 : Int32} {x3 : Int32} {T : kw_T} {n : Nat} {r : kw_R} {w : kw_L} {Q : Int32 → kw_I → Prop} {E : kw_E} {G : kw_G} (hm : kw_m E G cX10_put 5 RX10 (some .int) rm_X10_put "put")  (h0 : T a0 = (0, 10))    (i : kw_I) (h : w_X10_put_29 a0 x1 x2 x3 T n r w Q  i) : kw_K E G 5 0 0 (kw_Z E G 0 0 (kw_PI (fun v T' n' r' i' w' => T = T' ∧ n = n' ∧ r = r' ∧ w = w' ∧ Q v i'))) 29 [(0, kw_a a0), (1, kw_i x1), (2, kw_i x2), (3, kw_i x3)] [] T n r i w := by
  refine kk_aload_n hm.1 0 dX10_put_29 rfl rfl ?_
  refine kk_iconst (v := (-1 : Int32)) hm.1 dX10_put_30 (by decide) ?_
  refine kk_callVi (cs' := 0) (sl' := 0) (st := []) hm.1 cv_X10_77 (t_X10_refuses h0 h) dX10_put_31 h0 rfl rfl hm.2.2.1 ⟨by decide, by decide⟩ ⟨by decide, by decide⟩ rfl rfl (Nat.le_of_ble_eq_true rfl) rfl ?_
  rintro v31 _ _ _ i31 _ ⟨rfl, rfl, rfl, rfl, h⟩
  exact kk_iret hm.1 hm.2.1 dX10_put_34 ⟨_, rfl, rfl, rfl, rfl, rfl, h⟩
set_option maxHeartbeats 4000000 in
set_option maxRecDepth 100000 in
theorem q_X10_put_23 {a0 : Nat} {x1 : Int32} {x2 : Int32} {x3 : Int32} {T : kw_T} {n : Nat} {r : kw_R} {w : kw_L} {Q : Int32 → kw_I → Prop} {E : kw_E} {G : kw_G} (hm : kw_m E G cX10_put 5 RX10 (some .int) rm_X10_put "put")  (h0 : T a0 = (0, 10))    (s0 : Int32) (s1 : Int32) (s2 : Int32) (i : kw_I) (h : w_X10_put_23 a0 x1 x2 x3 T n r w Q  s0 s1 s2 i) : kw_K E G 5 0 0 (kw_Z E G 0 0 (kw_PI (fun v T' n' r' i' w' => T = T' ∧ n = n' ∧ r = r' ∧ w = w' ∧ Q v i'))) 23 [(0, kw_a a0), (1, kw_i x1), (2, kw_i x2), (3, kw_i x3)] [kw_i s2, kw_i s1, kw_i s0] T n r i w := by
  refine kk_callSi (cs' := 0) (sl' := 0) (st := []) hm.1 cs_X10_73 (t_X10_lies h) dX10_put_23 rfl hm.2.2.1 ⟨by decide, by decide⟩ ⟨by decide, by decide⟩ rfl rfl (Nat.le_of_ble_eq_true rfl) rfl ?_
  rintro v23 _ _ _ _ _ ⟨rfl, rfl, rfl, rfl, rfl, h⟩
  refine kk_if_ne (tgt := 35) hm.1 dX10_put_26 (by decide) (fun c26 => ?_) (fun c26 => ?_)
  · have h := h.1 c26
    refine kk_aload_n hm.1 0 dX10_put_35 rfl rfl ?_
    refine kk_iload_n hm.1 1 dX10_put_36 rfl rfl ?_
    refine kk_callVi (cs' := 0) (sl' := 0) (st := []) hm.1 cv_X10_96 (t_X10_isVillage h0 h) dX10_put_37 h0 rfl rfl hm.2.2.1 ⟨by decide, by decide⟩ ⟨by decide, by decide⟩ rfl rfl (Nat.le_of_ble_eq_true rfl) rfl ?_
    rintro v37 _ _ _ _ _ ⟨rfl, rfl, rfl, rfl, rfl, h⟩
    refine kk_if_ne (tgt := 50) hm.1 dX10_put_40 (by decide) (fun c40 => ?_) (fun c40 => ?_)
    · have h := h.1 c40
      refine kk_aload_n hm.1 0 dX10_put_50 rfl rfl ?_
      refine kk_iload_n hm.1 1 dX10_put_51 rfl rfl ?_
      refine kk_iconst (v := (4 : Int32)) hm.1 dX10_put_52 (by decide) ?_
      refine kk_iload_n hm.1 2 dX10_put_53 rfl rfl ?_
      refine kk_iadd hm.1 dX10_put_54 ?_
      refine kk_callVi (cs' := 0) (sl' := 0) (st := []) hm.1 cv_X10_100 (t_X10_factOf h0 h) dX10_put_55 h0 rfl rfl hm.2.2.1 ⟨by decide, by decide⟩ ⟨by decide, by decide⟩ rfl rfl (Nat.le_of_ble_eq_true rfl) rfl ?_
      rintro v55 _ _ _ _ _ ⟨rfl, rfl, rfl, rfl, rfl, h⟩
      refine kk_istore (L' := [(4, kw_i v55), (0, kw_a a0), (1, kw_i x1), (2, kw_i x2), (3, kw_i x3)]) hm.1 dX10_put_58 (by decide) rfl ?_
      refine kk_aload_n hm.1 1 dX10_put_60 rfl rfl ?_
      refine kk_getR hm.1 ff_X10_17 dX10_put_61 h0 ?_
      refine kk_bipush (v := (6 : Int32)) hm.1 dX10_put_64 (by decide) ?_
      refine kk_iload_n hm.1 2 dX10_put_66 rfl rfl ?_
      refine kk_imul hm.1 dX10_put_67 ?_
      refine kk_iconst (v := (4 : Int32)) hm.1 dX10_put_68 (by decide) ?_
      refine kk_iadd hm.1 dX10_put_69 ?_
      refine kk_iload_n hm.1 3 dX10_put_70 rfl rfl ?_
      refine kk_iadd hm.1 dX10_put_71 ?_
      refine kk_iload_n hm.1 4 dX10_put_72 rfl rfl ?_
      obtain ⟨o73, h⟩ := h
      refine kn_iastore hm.1 dX10_put_73 o73 (fun i73 e73 => ?_)
      have h := h i73 e73
      refine kk_aload_n hm.1 1 dX10_put_74 rfl rfl ?_
      refine kk_iload hm.1 0 dX10_put_75 rfl ?_
      refine kk_callVi (cs' := 0) (sl' := 0) (st := []) hm.1 cv_X10_81 (t_X10_good h0 h) dX10_put_77 h0 rfl rfl hm.2.2.1 ⟨by decide, by decide⟩ ⟨by decide, by decide⟩ rfl rfl (Nat.le_of_ble_eq_true rfl) rfl ?_
      rintro v77 _ _ _ i77 _ ⟨rfl, rfl, rfl, rfl, h⟩
      exact kk_iret hm.1 hm.2.1 dX10_put_80 ⟨_, rfl, rfl, rfl, rfl, rfl, h⟩
    · have h := h.2 c40
      refine kk_aload_n hm.1 0 dX10_put_43 rfl rfl ?_
      refine kk_bipush (v := (-2 : Int32)) hm.1 dX10_put_44 (by decide) ?_
      refine kk_callVi (cs' := 0) (sl' := 0) (st := []) hm.1 cv_X10_77 (t_X10_refuses h0 h) dX10_put_46 h0 rfl rfl hm.2.2.1 ⟨by decide, by decide⟩ ⟨by decide, by decide⟩ rfl rfl (Nat.le_of_ble_eq_true rfl) rfl ?_
      rintro v46 _ _ _ i46 _ ⟨rfl, rfl, rfl, rfl, h⟩
      exact kk_iret hm.1 hm.2.1 dX10_put_49 ⟨_, rfl, rfl, rfl, rfl, rfl, h⟩
  · have h := h.2 c26
    exact q_X10_put_29 hm  h0   i h
set_option maxHeartbeats 4000000 in
set_option maxRecDepth 100000 in
theorem t_X10_put {l : Launch} {G : kw_G} {a0 : Nat} {x1 : Int32} {x2 : Int32} {x3 : Int32} {T : kw_T} {n : Nat} {r : kw_R} {i : kw_I} {w : kw_L} {Q : Int32 → kw_I → Prop} (h0 : T a0 = (0, 10)) (h : w_X10_put a0 x1 x2 x3 T n r i w Q) : kw_Met l G yX10_put cX10_put 5 (some .int) rm_X10_put [kw_a a0, kw_i x1, kw_i x2, kw_i x3] (T, n, r, i, w) (kw_PI (fun v T' n' r' i' w' => T = T' ∧ n = n' ∧ r = r' ∧ w = w' ∧ Q v i')) := by
  refine kw_Met.of (by decide) (Nat.le_of_ble_eq_true rfl) fun E hl hRm hE hT hnm => ?_
  have hm : kw_m E G cX10_put 5 RX10 (some .int) rm_X10_put "put" := ⟨hE, hT, hRm, hnm⟩
  subst hl
  show kw_K E G 5 0 0 (kw_Z E G 0 0 (kw_PI (fun v T' n' r' i' w' => T = T' ∧ n = n' ∧ r = r' ∧ w = w' ∧ Q v i'))) 0 [(0, kw_a a0), (1, kw_i x1), (2, kw_i x2), (3, kw_i x3)] [] T n r i w
  refine kk_iload_n hm.1 2 dX10_put_0 rfl rfl ?_
  refine kk_iconst (v := (0 : Int32)) hm.1 dX10_put_1 (by decide) ?_
  refine kk_iconst (v := (1 : Int32)) hm.1 dX10_put_2 (by decide) ?_
  refine kk_callSi (cs' := 0) (sl' := 0) (st := []) hm.1 cs_X10_73 (t_X10_lies h) dX10_put_3 rfl hm.2.2.1 ⟨by decide, by decide⟩ ⟨by decide, by decide⟩ rfl rfl (Nat.le_of_ble_eq_true rfl) rfl ?_
  rintro v3 _ _ _ _ _ ⟨rfl, rfl, rfl, rfl, rfl, h⟩
  refine kk_if_eq (tgt := 29) hm.1 dX10_put_6 (by decide) (fun c6 => ?_) (fun c6 => ?_)
  · have h := h.1 c6
    exact q_X10_put_29 hm  h0   i h
  · have h := h.2 c6
    refine kk_iload_n hm.1 3 dX10_put_9 rfl rfl ?_
    refine kk_iload_n hm.1 2 dX10_put_10 rfl rfl ?_
    refine kk_iload_n hm.1 2 dX10_put_11 rfl rfl ?_
    refine kk_if_ne (tgt := 20) hm.1 dX10_put_12 (by decide) (fun c12 => ?_) (fun c12 => ?_)
    · have h := h.1 c12
      refine kk_sipush (v := (255 : Int32)) hm.1 dX10_put_20 (by decide) ?_
      exact q_X10_put_23 hm  h0   x3 x2 ((255 : Int32)) i h
    · have h := h.2 c12
      refine kk_bipush (v := (7 : Int32)) hm.1 dX10_put_15 (by decide) ?_
      refine kk_goto (tgt := 23) hm.1 dX10_put_17 (by decide) ?_
      exact q_X10_put_23 hm  h0   x3 x2 ((7 : Int32)) i h
def w_X10_hole  (a0 : Nat) (x1 : Int32) (x2 : Int32) (x3 : Int32) (x4 : Int32) (x5 : Int32) (T : kw_T) (n : Nat) (r : kw_R) (i : kw_I) (w : kw_L) (Q : Int32 → kw_I → Prop) : Prop :=
  w_X10_isHole x2 x3 x4 x5 T n r i w (fun v6 => (¬ v6 = 0 → w_X10_isVillage a0 x1 T n r i w (fun v20 => (¬ v20 = 0 → w_X10_cuts a0 x1 x2 x3 x4 x5 T n r i w (fun i41 => w_X10_good a0 (0 : Int32) T n r i41 w (fun v46 i46 => Q v46 i46))) ∧ (v20 = 0 → w_X10_refuses a0 (-2 : Int32) T n r i w (fun v29 i29 => Q v29 i29)))) ∧ (v6 = 0 → w_X10_refuses a0 (-1 : Int32) T n r i w (fun v14 i14 => Q v14 i14)))
abbrev rm_X10_hole : Room := { frames := 3, cells := 0, slots := 0, locals := 105 }
set_option maxHeartbeats 4000000 in
set_option maxRecDepth 100000 in
theorem t_X10_hole {l : Launch} {G : kw_G} {a0 : Nat} {x1 : Int32} {x2 : Int32} {x3 : Int32} {x4 : Int32} {x5 : Int32} {T : kw_T} {n : Nat} {r : kw_R} {i : kw_I} {w : kw_L} {Q : Int32 → kw_I → Prop} (h0 : T a0 = (0, 10)) (h : w_X10_hole a0 x1 x2 x3 x4 x5 T n r i w Q) : kw_Met l G yX10_hole cX10_hole 6 (some .int) rm_X10_hole [kw_a a0, kw_i x1, kw_i x2, kw_i x3, kw_i x4, kw_i x5] (T, n, r, i, w) (kw_PI (fun v T' n' r' i' w' => T = T' ∧ n = n' ∧ r = r' ∧ w = w' ∧ Q v i')) := by
  refine kw_Met.of (by decide) (Nat.le_of_ble_eq_true rfl) fun E hl hRm hE hT hnm => ?_
  have hm : kw_m E G cX10_hole 6 RX10 (some .int) rm_X10_hole "hole" := ⟨hE, hT, hRm, hnm⟩
  subst hl
  show kw_K E G 6 0 0 (kw_Z E G 0 0 (kw_PI (fun v T' n' r' i' w' => T = T' ∧ n = n' ∧ r = r' ∧ w = w' ∧ Q v i'))) 0 [(0, kw_a a0), (1, kw_i x1), (2, kw_i x2), (3, kw_i x3), (4, kw_i x4), (5, kw_i x5)] [] T n r i w
  refine kk_iload_n hm.1 2 dX10_hole_0 rfl rfl ?_
  refine kk_iload_n hm.1 3 dX10_hole_1 rfl rfl ?_
  refine kk_iload hm.1 4 dX10_hole_2 rfl ?_
  refine kk_iload hm.1 5 dX10_hole_4 rfl ?_
  refine kk_callSi (cs' := 0) (sl' := 0) (st := []) hm.1 cs_X10_88 (t_X10_isHole h) dX10_hole_6 rfl hm.2.2.1 ⟨by decide, by decide⟩ ⟨by decide, by decide⟩ rfl rfl (Nat.le_of_ble_eq_true rfl) rfl ?_
  rintro v6 _ _ _ _ _ ⟨rfl, rfl, rfl, rfl, rfl, h⟩
  refine kk_if_ne (tgt := 18) hm.1 dX10_hole_9 (by decide) (fun c9 => ?_) (fun c9 => ?_)
  · have h := h.1 c9
    refine kk_aload_n hm.1 0 dX10_hole_18 rfl rfl ?_
    refine kk_iload_n hm.1 1 dX10_hole_19 rfl rfl ?_
    refine kk_callVi (cs' := 0) (sl' := 0) (st := []) hm.1 cv_X10_96 (t_X10_isVillage h0 h) dX10_hole_20 h0 rfl rfl hm.2.2.1 ⟨by decide, by decide⟩ ⟨by decide, by decide⟩ rfl rfl (Nat.le_of_ble_eq_true rfl) rfl ?_
    rintro v20 _ _ _ _ _ ⟨rfl, rfl, rfl, rfl, rfl, h⟩
    refine kk_if_ne (tgt := 33) hm.1 dX10_hole_23 (by decide) (fun c23 => ?_) (fun c23 => ?_)
    · have h := h.1 c23
      refine kk_aload_n hm.1 0 dX10_hole_33 rfl rfl ?_
      refine kk_iload_n hm.1 1 dX10_hole_34 rfl rfl ?_
      refine kk_iload_n hm.1 2 dX10_hole_35 rfl rfl ?_
      refine kk_iload_n hm.1 3 dX10_hole_36 rfl rfl ?_
      refine kk_iload hm.1 4 dX10_hole_37 rfl ?_
      refine kk_iload hm.1 5 dX10_hole_39 rfl ?_
      refine kk_callVv (cs' := 0) (sl' := 0) (st := []) hm.1 cv_X10_92 (t_X10_cuts h0 h) dX10_hole_41 h0 rfl rfl hm.2.2.1 ⟨by decide, by decide⟩ ⟨by decide, by decide⟩ rfl rfl (Nat.le_of_ble_eq_true rfl) rfl ?_
      rintro _ _ _ i41 _ ⟨rfl, rfl, rfl, rfl, h⟩
      refine kk_aload_n hm.1 0 dX10_hole_44 rfl rfl ?_
      refine kk_iconst (v := (0 : Int32)) hm.1 dX10_hole_45 (by decide) ?_
      refine kk_callVi (cs' := 0) (sl' := 0) (st := []) hm.1 cv_X10_81 (t_X10_good h0 h) dX10_hole_46 h0 rfl rfl hm.2.2.1 ⟨by decide, by decide⟩ ⟨by decide, by decide⟩ rfl rfl (Nat.le_of_ble_eq_true rfl) rfl ?_
      rintro v46 _ _ _ i46 _ ⟨rfl, rfl, rfl, rfl, h⟩
      exact kk_iret hm.1 hm.2.1 dX10_hole_49 ⟨_, rfl, rfl, rfl, rfl, rfl, h⟩
    · have h := h.2 c23
      refine kk_aload_n hm.1 0 dX10_hole_26 rfl rfl ?_
      refine kk_bipush (v := (-2 : Int32)) hm.1 dX10_hole_27 (by decide) ?_
      refine kk_callVi (cs' := 0) (sl' := 0) (st := []) hm.1 cv_X10_77 (t_X10_refuses h0 h) dX10_hole_29 h0 rfl rfl hm.2.2.1 ⟨by decide, by decide⟩ ⟨by decide, by decide⟩ rfl rfl (Nat.le_of_ble_eq_true rfl) rfl ?_
      rintro v29 _ _ _ i29 _ ⟨rfl, rfl, rfl, rfl, h⟩
      exact kk_iret hm.1 hm.2.1 dX10_hole_32 ⟨_, rfl, rfl, rfl, rfl, rfl, h⟩
  · have h := h.2 c9
    refine kk_aload_n hm.1 0 dX10_hole_12 rfl rfl ?_
    refine kk_iconst (v := (-1 : Int32)) hm.1 dX10_hole_13 (by decide) ?_
    refine kk_callVi (cs' := 0) (sl' := 0) (st := []) hm.1 cv_X10_77 (t_X10_refuses h0 h) dX10_hole_14 h0 rfl rfl hm.2.2.1 ⟨by decide, by decide⟩ ⟨by decide, by decide⟩ rfl rfl (Nat.le_of_ble_eq_true rfl) rfl ?_
    rintro v14 _ _ _ i14 _ ⟨rfl, rfl, rfl, rfl, h⟩
    exact kk_iret hm.1 hm.2.1 dX10_hole_17 ⟨_, rfl, rfl, rfl, rfl, rfl, h⟩
def w_X10_of  (a0 : Nat) (x1 : Int32) (x2 : Int32) (T : kw_T) (n : Nat) (r : kw_R) (i : kw_I) (w : kw_L) (Q : Int32 → Prop) : Prop :=
  w_X10_isVillage a0 x1 T n r i w (fun v2 => (v2 = 0 → Q (-1 : Int32)) ∧ (¬ v2 = 0 → w_X10_lies x2 (0 : Int32) (5 : Int32) T n r i w (fun v11 => (v11 = 0 → Q (-1 : Int32)) ∧ (¬ v11 = 0 → w_X10_factOf a0 x1 x2 T n r i w (fun v20 => Q v20)))))
abbrev rm_X10_of : Room := { frames := 3, cells := 0, slots := 0, locals := 103 }
set_option maxHeartbeats 4000000 in
set_option maxRecDepth 100000 in
theorem t_X10_of {l : Launch} {G : kw_G} {a0 : Nat} {x1 : Int32} {x2 : Int32} {T : kw_T} {n : Nat} {r : kw_R} {i : kw_I} {w : kw_L} {Q : Int32 → Prop} (h0 : T a0 = (0, 10)) (h : w_X10_of a0 x1 x2 T n r i w Q) : kw_Met l G yX10_of cX10_of 3 (some .int) rm_X10_of [kw_a a0, kw_i x1, kw_i x2] (T, n, r, i, w) (kw_PI (fun v T' n' r' i' w' => T = T' ∧ n = n' ∧ r = r' ∧ i = i' ∧ w = w' ∧ Q v)) := by
  refine kw_Met.of (by decide) (Nat.le_of_ble_eq_true rfl) fun E hl hRm hE hT hnm => ?_
  have hm : kw_m E G cX10_of 3 RX10 (some .int) rm_X10_of "of" := ⟨hE, hT, hRm, hnm⟩
  subst hl
  show kw_K E G 3 0 0 (kw_Z E G 0 0 (kw_PI (fun v T' n' r' i' w' => T = T' ∧ n = n' ∧ r = r' ∧ i = i' ∧ w = w' ∧ Q v))) 0 [(0, kw_a a0), (1, kw_i x1), (2, kw_i x2)] [] T n r i w
  refine kk_aload_n hm.1 0 dX10_of_0 rfl rfl ?_
  refine kk_iload_n hm.1 1 dX10_of_1 rfl rfl ?_
  refine kk_callVi (cs' := 0) (sl' := 0) (st := []) hm.1 cv_X10_96 (t_X10_isVillage h0 h) dX10_of_2 h0 rfl rfl hm.2.2.1 ⟨by decide, by decide⟩ ⟨by decide, by decide⟩ rfl rfl (Nat.le_of_ble_eq_true rfl) rfl ?_
  rintro v2 _ _ _ _ _ ⟨rfl, rfl, rfl, rfl, rfl, h⟩
  refine kk_if_eq (tgt := 26) hm.1 dX10_of_5 (by decide) (fun c5 => ?_) (fun c5 => ?_)
  · have h := h.1 c5
    refine kk_iconst (v := (-1 : Int32)) hm.1 dX10_of_26 (by decide) ?_
    exact kk_iret hm.1 hm.2.1 dX10_of_27 ⟨_, rfl, rfl, rfl, rfl, rfl, rfl, h⟩
  · have h := h.2 c5
    refine kk_iload_n hm.1 2 dX10_of_8 rfl rfl ?_
    refine kk_iconst (v := (0 : Int32)) hm.1 dX10_of_9 (by decide) ?_
    refine kk_iconst (v := (5 : Int32)) hm.1 dX10_of_10 (by decide) ?_
    refine kk_callSi (cs' := 0) (sl' := 0) (st := []) hm.1 cs_X10_73 (t_X10_lies h) dX10_of_11 rfl hm.2.2.1 ⟨by decide, by decide⟩ ⟨by decide, by decide⟩ rfl rfl (Nat.le_of_ble_eq_true rfl) rfl ?_
    rintro v11 _ _ _ _ _ ⟨rfl, rfl, rfl, rfl, rfl, h⟩
    refine kk_if_eq (tgt := 26) hm.1 dX10_of_14 (by decide) (fun c14 => ?_) (fun c14 => ?_)
    · have h := h.1 c14
      refine kk_iconst (v := (-1 : Int32)) hm.1 dX10_of_26 (by decide) ?_
      exact kk_iret hm.1 hm.2.1 dX10_of_27 ⟨_, rfl, rfl, rfl, rfl, rfl, rfl, h⟩
    · have h := h.2 c14
      refine kk_aload_n hm.1 0 dX10_of_17 rfl rfl ?_
      refine kk_iload_n hm.1 1 dX10_of_18 rfl rfl ?_
      refine kk_iload_n hm.1 2 dX10_of_19 rfl rfl ?_
      refine kk_callVi (cs' := 0) (sl' := 0) (st := []) hm.1 cv_X10_100 (t_X10_factOf h0 h) dX10_of_20 h0 rfl rfl hm.2.2.1 ⟨by decide, by decide⟩ ⟨by decide, by decide⟩ rfl rfl (Nat.le_of_ble_eq_true rfl) rfl ?_
      rintro v20 _ _ _ _ _ ⟨rfl, rfl, rfl, rfl, rfl, h⟩
      refine kk_goto (tgt := 27) hm.1 dX10_of_23 (by decide) ?_
      exact kk_iret hm.1 hm.2.1 dX10_of_27 ⟨_, rfl, rfl, rfl, rfl, rfl, rfl, h⟩
def w_X10_isCell  (x0 : Int32) (T : kw_T) (n : Nat) (r : kw_R) (i : kw_I) (w : kw_L) (Q : Int32 → Prop) : Prop :=
  w_X10_lies x0 (0 : Int32) (35 : Int32) T n r i w (fun v4 => kw_b v4 ∧ (Q v4))
abbrev rm_X10_isCell : Room := { frames := 2, cells := 0, slots := 0, locals := 82 }
set_option maxHeartbeats 4000000 in
set_option maxRecDepth 100000 in
theorem t_X10_isCell {l : Launch} {G : kw_G} {x0 : Int32} {T : kw_T} {n : Nat} {r : kw_R} {i : kw_I} {w : kw_L} {Q : Int32 → Prop} (h : w_X10_isCell x0 T n r i w Q) : kw_Met l G yX10_isCell cX10_isCell 1 (some .boolean) rm_X10_isCell [kw_i x0] (T, n, r, i, w) (kw_PI (fun v T' n' r' i' w' => T = T' ∧ n = n' ∧ r = r' ∧ i = i' ∧ w = w' ∧ Q v)) := by
  refine kw_Met.of (by decide) (Nat.le_of_ble_eq_true rfl) fun E hl hRm hE hT hnm => ?_
  have hm : kw_m E G cX10_isCell 1 RX10 (some .boolean) rm_X10_isCell "isCell" := ⟨hE, hT, hRm, hnm⟩
  subst hl
  show kw_K E G 1 0 0 (kw_Z E G 0 0 (kw_PI (fun v T' n' r' i' w' => T = T' ∧ n = n' ∧ r = r' ∧ i = i' ∧ w = w' ∧ Q v))) 0 [(0, kw_i x0)] [] T n r i w
  refine kk_iload_n hm.1 0 dX10_isCell_0 rfl rfl ?_
  refine kk_iconst (v := (0 : Int32)) hm.1 dX10_isCell_1 (by decide) ?_
  refine kk_bipush (v := (35 : Int32)) hm.1 dX10_isCell_2 (by decide) ?_
  refine kk_callSi (cs' := 0) (sl' := 0) (st := []) hm.1 cs_X10_73 (t_X10_lies h) dX10_isCell_4 rfl hm.2.2.1 ⟨by decide, by decide⟩ ⟨by decide, by decide⟩ rfl rfl (Nat.le_of_ble_eq_true rfl) rfl ?_
  rintro v4 _ _ _ _ _ ⟨rfl, rfl, rfl, rfl, rfl, h⟩
  obtain ⟨b7, h⟩ := h
  exact kk_zret hm.1 hm.2.1 dX10_isCell_7 b7 ⟨_, rfl, rfl, rfl, rfl, rfl, rfl, h⟩
def w_X10_isColour  (x0 : Int32) (T : kw_T) (n : Nat) (r : kw_R) (i : kw_I) (w : kw_L) (Q : Int32 → Prop) : Prop :=
  w_X10_lies x0 (0 : Int32) (7 : Int32) T n r i w (fun v4 => kw_b v4 ∧ (Q v4))
abbrev rm_X10_isColour : Room := { frames := 2, cells := 0, slots := 0, locals := 82 }
set_option maxHeartbeats 4000000 in
set_option maxRecDepth 100000 in
theorem t_X10_isColour {l : Launch} {G : kw_G} {x0 : Int32} {T : kw_T} {n : Nat} {r : kw_R} {i : kw_I} {w : kw_L} {Q : Int32 → Prop} (h : w_X10_isColour x0 T n r i w Q) : kw_Met l G yX10_isColour cX10_isColour 1 (some .boolean) rm_X10_isColour [kw_i x0] (T, n, r, i, w) (kw_PI (fun v T' n' r' i' w' => T = T' ∧ n = n' ∧ r = r' ∧ i = i' ∧ w = w' ∧ Q v)) := by
  refine kw_Met.of (by decide) (Nat.le_of_ble_eq_true rfl) fun E hl hRm hE hT hnm => ?_
  have hm : kw_m E G cX10_isColour 1 RX10 (some .boolean) rm_X10_isColour "isColour" := ⟨hE, hT, hRm, hnm⟩
  subst hl
  show kw_K E G 1 0 0 (kw_Z E G 0 0 (kw_PI (fun v T' n' r' i' w' => T = T' ∧ n = n' ∧ r = r' ∧ i = i' ∧ w = w' ∧ Q v))) 0 [(0, kw_i x0)] [] T n r i w
  refine kk_iload_n hm.1 0 dX10_isColour_0 rfl rfl ?_
  refine kk_iconst (v := (0 : Int32)) hm.1 dX10_isColour_1 (by decide) ?_
  refine kk_bipush (v := (7 : Int32)) hm.1 dX10_isColour_2 (by decide) ?_
  refine kk_callSi (cs' := 0) (sl' := 0) (st := []) hm.1 cs_X10_73 (t_X10_lies h) dX10_isColour_4 rfl hm.2.2.1 ⟨by decide, by decide⟩ ⟨by decide, by decide⟩ rfl rfl (Nat.le_of_ble_eq_true rfl) rfl ?_
  rintro v4 _ _ _ _ _ ⟨rfl, rfl, rfl, rfl, rfl, h⟩
  obtain ⟨b7, h⟩ := h
  exact kk_zret hm.1 hm.2.1 dX10_isColour_7 b7 ⟨_, rfl, rfl, rfl, rfl, rfl, rfl, h⟩
def w_X10_paint_23 (a0 : Nat) (x1 : Int32) (x2 : Int32) (x3 : Int32) (T : kw_T) (n : Nat) (r : kw_R) (w : kw_L) (Q : Int32 → kw_I → Prop)  (i : kw_I) : Prop :=
  w_X10_refuses a0 (-1 : Int32) T n r i w (fun v25 i25 => Q v25 i25)
def w_X10_paint  (a0 : Nat) (x1 : Int32) (x2 : Int32) (x3 : Int32) (T : kw_T) (n : Nat) (r : kw_R) (i : kw_I) (w : kw_L) (Q : Int32 → kw_I → Prop) : Prop :=
  w_X10_lies x1 (0 : Int32) (2 : Int32) T n r i w (fun v3 => (v3 = 0 → w_X10_paint_23 a0 x1 x2 x3 T n r w Q  i) ∧ (¬ v3 = 0 → w_X10_isCell x2 T n r i w (fun v10 => (v10 = 0 → w_X10_paint_23 a0 x1 x2 x3 T n r w Q  i) ∧ (¬ v10 = 0 → w_X10_isColour x3 T n r i w (fun v17 => (¬ v17 = 0 → kw_in T 1 (r a0 2) (((60 : Int32) + ((36 : Int32) * x1)) + x2) ∧ (kw_in T 1 (r a0 2) (((60 : Int32) + ((36 : Int32) * x1)) + x2) ∧ (∀ i56 : kw_I, i56 = kw_st i (r a0 2) ((((60 : Int32) + ((36 : Int32) * x1)) + x2)).toNatClampNeg x3 → (w_X10_good a0 (i (r a0 2) ((((60 : Int32) + ((36 : Int32) * x1)) + x2)).toNatClampNeg) T n r i56 w (fun v60 i60 => Q v60 i60))))) ∧ (v17 = 0 → w_X10_paint_23 a0 x1 x2 x3 T n r w Q  i))))))
abbrev rm_X10_paint : Room := { frames := 3, cells := 0, slots := 0, locals := 102 }
set_option maxHeartbeats 4000000 in
set_option maxRecDepth 100000 in
theorem q_X10_paint_23 {a0 : Nat} {x1 : Int32} {x2 : Int32} {x3 : Int32} {T : kw_T} {n : Nat} {r : kw_R} {w : kw_L} {Q : Int32 → kw_I → Prop} {E : kw_E} {G : kw_G} (hm : kw_m E G cX10_paint 6 RX10 (some .int) rm_X10_paint "paint")  (h0 : T a0 = (0, 10))    (i : kw_I) (h : w_X10_paint_23 a0 x1 x2 x3 T n r w Q  i) : kw_K E G 6 0 0 (kw_Z E G 0 0 (kw_PI (fun v T' n' r' i' w' => T = T' ∧ n = n' ∧ r = r' ∧ w = w' ∧ Q v i'))) 23 [(0, kw_a a0), (1, kw_i x1), (2, kw_i x2), (3, kw_i x3)] [] T n r i w := by
  refine kk_aload_n hm.1 0 dX10_paint_23 rfl rfl ?_
  refine kk_iconst (v := (-1 : Int32)) hm.1 dX10_paint_24 (by decide) ?_
  refine kk_callVi (cs' := 0) (sl' := 0) (st := []) hm.1 cv_X10_77 (t_X10_refuses h0 h) dX10_paint_25 h0 rfl rfl hm.2.2.1 ⟨by decide, by decide⟩ ⟨by decide, by decide⟩ rfl rfl (Nat.le_of_ble_eq_true rfl) rfl ?_
  rintro v25 _ _ _ i25 _ ⟨rfl, rfl, rfl, rfl, h⟩
  exact kk_iret hm.1 hm.2.1 dX10_paint_28 ⟨_, rfl, rfl, rfl, rfl, rfl, h⟩
set_option maxHeartbeats 4000000 in
set_option maxRecDepth 100000 in
theorem t_X10_paint {l : Launch} {G : kw_G} {a0 : Nat} {x1 : Int32} {x2 : Int32} {x3 : Int32} {T : kw_T} {n : Nat} {r : kw_R} {i : kw_I} {w : kw_L} {Q : Int32 → kw_I → Prop} (h0 : T a0 = (0, 10)) (h : w_X10_paint a0 x1 x2 x3 T n r i w Q) : kw_Met l G yX10_paint cX10_paint 6 (some .int) rm_X10_paint [kw_a a0, kw_i x1, kw_i x2, kw_i x3] (T, n, r, i, w) (kw_PI (fun v T' n' r' i' w' => T = T' ∧ n = n' ∧ r = r' ∧ w = w' ∧ Q v i')) := by
  refine kw_Met.of (by decide) (Nat.le_of_ble_eq_true rfl) fun E hl hRm hE hT hnm => ?_
  have hm : kw_m E G cX10_paint 6 RX10 (some .int) rm_X10_paint "paint" := ⟨hE, hT, hRm, hnm⟩
  subst hl
  show kw_K E G 6 0 0 (kw_Z E G 0 0 (kw_PI (fun v T' n' r' i' w' => T = T' ∧ n = n' ∧ r = r' ∧ w = w' ∧ Q v i'))) 0 [(0, kw_a a0), (1, kw_i x1), (2, kw_i x2), (3, kw_i x3)] [] T n r i w
  refine kk_iload_n hm.1 1 dX10_paint_0 rfl rfl ?_
  refine kk_iconst (v := (0 : Int32)) hm.1 dX10_paint_1 (by decide) ?_
  refine kk_iconst (v := (2 : Int32)) hm.1 dX10_paint_2 (by decide) ?_
  refine kk_callSi (cs' := 0) (sl' := 0) (st := []) hm.1 cs_X10_73 (t_X10_lies h) dX10_paint_3 rfl hm.2.2.1 ⟨by decide, by decide⟩ ⟨by decide, by decide⟩ rfl rfl (Nat.le_of_ble_eq_true rfl) rfl ?_
  rintro v3 _ _ _ _ _ ⟨rfl, rfl, rfl, rfl, rfl, h⟩
  refine kk_if_eq (tgt := 23) hm.1 dX10_paint_6 (by decide) (fun c6 => ?_) (fun c6 => ?_)
  · have h := h.1 c6
    exact q_X10_paint_23 hm  h0   i h
  · have h := h.2 c6
    refine kk_iload_n hm.1 2 dX10_paint_9 rfl rfl ?_
    refine kk_callSi (cs' := 0) (sl' := 0) (st := []) hm.1 cs_X10_104 (t_X10_isCell h) dX10_paint_10 rfl hm.2.2.1 ⟨by decide, by decide⟩ ⟨by decide, by decide⟩ rfl rfl (Nat.le_of_ble_eq_true rfl) rfl ?_
    rintro v10 _ _ _ _ _ ⟨rfl, rfl, rfl, rfl, rfl, h⟩
    refine kk_if_eq (tgt := 23) hm.1 dX10_paint_13 (by decide) (fun c13 => ?_) (fun c13 => ?_)
    · have h := h.1 c13
      exact q_X10_paint_23 hm  h0   i h
    · have h := h.2 c13
      refine kk_iload_n hm.1 3 dX10_paint_16 rfl rfl ?_
      refine kk_callSi (cs' := 0) (sl' := 0) (st := []) hm.1 cs_X10_107 (t_X10_isColour h) dX10_paint_17 rfl hm.2.2.1 ⟨by decide, by decide⟩ ⟨by decide, by decide⟩ rfl rfl (Nat.le_of_ble_eq_true rfl) rfl ?_
      rintro v17 _ _ _ _ _ ⟨rfl, rfl, rfl, rfl, rfl, h⟩
      refine kk_if_ne (tgt := 29) hm.1 dX10_paint_20 (by decide) (fun c20 => ?_) (fun c20 => ?_)
      · have h := h.1 c20
        refine kk_bipush (v := (60 : Int32)) hm.1 dX10_paint_29 (by decide) ?_
        refine kk_bipush (v := (36 : Int32)) hm.1 dX10_paint_31 (by decide) ?_
        refine kk_iload_n hm.1 1 dX10_paint_33 rfl rfl ?_
        refine kk_imul hm.1 dX10_paint_34 ?_
        refine kk_iadd hm.1 dX10_paint_35 ?_
        refine kk_iload_n hm.1 2 dX10_paint_36 rfl rfl ?_
        refine kk_iadd hm.1 dX10_paint_37 ?_
        refine kk_istore (L' := [(4, kw_i (((60 : Int32) + ((36 : Int32) * x1)) + x2)), (0, kw_a a0), (1, kw_i x1), (2, kw_i x2), (3, kw_i x3)]) hm.1 dX10_paint_38 (by decide) rfl ?_
        refine kk_aload_n hm.1 1 dX10_paint_40 rfl rfl ?_
        refine kk_getR hm.1 ff_X10_17 dX10_paint_41 h0 ?_
        refine kk_iload hm.1 0 dX10_paint_44 rfl ?_
        obtain ⟨o46, h⟩ := h
        refine kk_iaload hm.1 dX10_paint_46 o46 ?_
        refine kk_istore (L' := [(5, kw_i (i (r a0 2) ((((60 : Int32) + ((36 : Int32) * x1)) + x2)).toNatClampNeg)), (4, kw_i (((60 : Int32) + ((36 : Int32) * x1)) + x2)), (0, kw_a a0), (1, kw_i x1), (2, kw_i x2), (3, kw_i x3)]) hm.1 dX10_paint_47 (by decide) rfl ?_
        refine kk_aload_n hm.1 2 dX10_paint_49 rfl rfl ?_
        refine kk_getR hm.1 ff_X10_17 dX10_paint_50 h0 ?_
        refine kk_iload hm.1 1 dX10_paint_53 rfl ?_
        refine kk_iload_n hm.1 5 dX10_paint_55 rfl rfl ?_
        obtain ⟨o56, h⟩ := h
        refine kn_iastore hm.1 dX10_paint_56 o56 (fun i56 e56 => ?_)
        have h := h i56 e56
        refine kk_aload_n hm.1 2 dX10_paint_57 rfl rfl ?_
        refine kk_iload hm.1 0 dX10_paint_58 rfl ?_
        refine kk_callVi (cs' := 0) (sl' := 0) (st := []) hm.1 cv_X10_81 (t_X10_good h0 h) dX10_paint_60 h0 rfl rfl hm.2.2.1 ⟨by decide, by decide⟩ ⟨by decide, by decide⟩ rfl rfl (Nat.le_of_ble_eq_true rfl) rfl ?_
        rintro v60 _ _ _ i60 _ ⟨rfl, rfl, rfl, rfl, h⟩
        exact kk_iret hm.1 hm.2.1 dX10_paint_63 ⟨_, rfl, rfl, rfl, rfl, rfl, h⟩
      · have h := h.2 c20
        exact q_X10_paint_23 hm  h0   i h
def w_X10_told  (a0 : Nat) (x1 : Int32) (x2 : Int32) (T : kw_T) (n : Nat) (r : kw_R) (i : kw_I) (w : kw_L) (Q : Int32 → Prop) : Prop :=
  w_X10_lies x1 (0 : Int32) (2 : Int32) T n r i w (fun v3 => (v3 = 0 → Q (-1 : Int32)) ∧ (¬ v3 = 0 → w_X10_isCell x2 T n r i w (fun v10 => (v10 = 0 → Q (-1 : Int32)) ∧ (¬ v10 = 0 → kw_in T 1 (r a0 2) (((60 : Int32) + ((36 : Int32) * x1)) + x2) ∧ (Q (i (r a0 2) ((((60 : Int32) + ((36 : Int32) * x1)) + x2)).toNatClampNeg))))))
abbrev rm_X10_told : Room := { frames := 3, cells := 0, slots := 0, locals := 102 }
set_option maxHeartbeats 4000000 in
set_option maxRecDepth 100000 in
theorem t_X10_told {l : Launch} {G : kw_G} {a0 : Nat} {x1 : Int32} {x2 : Int32} {T : kw_T} {n : Nat} {r : kw_R} {i : kw_I} {w : kw_L} {Q : Int32 → Prop} (h0 : T a0 = (0, 10)) (h : w_X10_told a0 x1 x2 T n r i w Q) : kw_Met l G yX10_told cX10_told 3 (some .int) rm_X10_told [kw_a a0, kw_i x1, kw_i x2] (T, n, r, i, w) (kw_PI (fun v T' n' r' i' w' => T = T' ∧ n = n' ∧ r = r' ∧ i = i' ∧ w = w' ∧ Q v)) := by
  refine kw_Met.of (by decide) (Nat.le_of_ble_eq_true rfl) fun E hl hRm hE hT hnm => ?_
  have hm : kw_m E G cX10_told 3 RX10 (some .int) rm_X10_told "told" := ⟨hE, hT, hRm, hnm⟩
  subst hl
  show kw_K E G 3 0 0 (kw_Z E G 0 0 (kw_PI (fun v T' n' r' i' w' => T = T' ∧ n = n' ∧ r = r' ∧ i = i' ∧ w = w' ∧ Q v))) 0 [(0, kw_a a0), (1, kw_i x1), (2, kw_i x2)] [] T n r i w
  refine kk_iload_n hm.1 1 dX10_told_0 rfl rfl ?_
  refine kk_iconst (v := (0 : Int32)) hm.1 dX10_told_1 (by decide) ?_
  refine kk_iconst (v := (2 : Int32)) hm.1 dX10_told_2 (by decide) ?_
  refine kk_callSi (cs' := 0) (sl' := 0) (st := []) hm.1 cs_X10_73 (t_X10_lies h) dX10_told_3 rfl hm.2.2.1 ⟨by decide, by decide⟩ ⟨by decide, by decide⟩ rfl rfl (Nat.le_of_ble_eq_true rfl) rfl ?_
  rintro v3 _ _ _ _ _ ⟨rfl, rfl, rfl, rfl, rfl, h⟩
  refine kk_if_eq (tgt := 33) hm.1 dX10_told_6 (by decide) (fun c6 => ?_) (fun c6 => ?_)
  · have h := h.1 c6
    refine kk_iconst (v := (-1 : Int32)) hm.1 dX10_told_33 (by decide) ?_
    exact kk_iret hm.1 hm.2.1 dX10_told_34 ⟨_, rfl, rfl, rfl, rfl, rfl, rfl, h⟩
  · have h := h.2 c6
    refine kk_iload_n hm.1 2 dX10_told_9 rfl rfl ?_
    refine kk_callSi (cs' := 0) (sl' := 0) (st := []) hm.1 cs_X10_104 (t_X10_isCell h) dX10_told_10 rfl hm.2.2.1 ⟨by decide, by decide⟩ ⟨by decide, by decide⟩ rfl rfl (Nat.le_of_ble_eq_true rfl) rfl ?_
    rintro v10 _ _ _ _ _ ⟨rfl, rfl, rfl, rfl, rfl, h⟩
    refine kk_if_eq (tgt := 33) hm.1 dX10_told_13 (by decide) (fun c13 => ?_) (fun c13 => ?_)
    · have h := h.1 c13
      refine kk_iconst (v := (-1 : Int32)) hm.1 dX10_told_33 (by decide) ?_
      exact kk_iret hm.1 hm.2.1 dX10_told_34 ⟨_, rfl, rfl, rfl, rfl, rfl, rfl, h⟩
    · have h := h.2 c13
      refine kk_aload_n hm.1 0 dX10_told_16 rfl rfl ?_
      refine kk_getR hm.1 ff_X10_17 dX10_told_17 h0 ?_
      refine kk_bipush (v := (60 : Int32)) hm.1 dX10_told_20 (by decide) ?_
      refine kk_bipush (v := (36 : Int32)) hm.1 dX10_told_22 (by decide) ?_
      refine kk_iload_n hm.1 1 dX10_told_24 rfl rfl ?_
      refine kk_imul hm.1 dX10_told_25 ?_
      refine kk_iadd hm.1 dX10_told_26 ?_
      refine kk_iload_n hm.1 2 dX10_told_27 rfl rfl ?_
      refine kk_iadd hm.1 dX10_told_28 ?_
      obtain ⟨o29, h⟩ := h
      refine kk_iaload hm.1 dX10_told_29 o29 ?_
      refine kk_goto (tgt := 34) hm.1 dX10_told_30 (by decide) ?_
      exact kk_iret hm.1 hm.2.1 dX10_told_34 ⟨_, rfl, rfl, rfl, rfl, rfl, rfl, h⟩
def w_X10_price_17 (a0 : Nat) (x1 : Int32) (x2 : Int32) (T : kw_T) (n : Nat) (r : kw_R) (w : kw_L) (Q : Int32 → kw_I → Prop)  (i : kw_I) : Prop :=
  w_X10_refuses a0 (-1 : Int32) T n r i w (fun v19 i19 => Q v19 i19)
def w_X10_price  (a0 : Nat) (x1 : Int32) (x2 : Int32) (T : kw_T) (n : Nat) (r : kw_R) (i : kw_I) (w : kw_L) (Q : Int32 → kw_I → Prop) : Prop :=
  w_X10_isColour x1 T n r i w (fun v1 => (v1 = 0 → w_X10_price_17 a0 x1 x2 T n r w Q  i) ∧ (¬ v1 = 0 → w_X10_lies x2 (0 : Int32) (99 : Int32) T n r i w (fun v11 => (¬ v11 = 0 → kw_in T 1 (r a0 2) ((168 : Int32) + x1) ∧ (kw_in T 1 (r a0 2) ((168 : Int32) + x1) ∧ (∀ i44 : kw_I, i44 = kw_st i (r a0 2) (((168 : Int32) + x1)).toNatClampNeg x2 → (w_X10_good a0 (i (r a0 2) (((168 : Int32) + x1)).toNatClampNeg) T n r i44 w (fun v47 i47 => Q v47 i47))))) ∧ (v11 = 0 → w_X10_price_17 a0 x1 x2 T n r w Q  i))))
abbrev rm_X10_price : Room := { frames := 3, cells := 0, slots := 0, locals := 102 }
set_option maxHeartbeats 4000000 in
set_option maxRecDepth 100000 in
theorem q_X10_price_17 {a0 : Nat} {x1 : Int32} {x2 : Int32} {T : kw_T} {n : Nat} {r : kw_R} {w : kw_L} {Q : Int32 → kw_I → Prop} {E : kw_E} {G : kw_G} (hm : kw_m E G cX10_price 4 RX10 (some .int) rm_X10_price "price")  (h0 : T a0 = (0, 10))    (i : kw_I) (h : w_X10_price_17 a0 x1 x2 T n r w Q  i) : kw_K E G 4 0 0 (kw_Z E G 0 0 (kw_PI (fun v T' n' r' i' w' => T = T' ∧ n = n' ∧ r = r' ∧ w = w' ∧ Q v i'))) 17 [(0, kw_a a0), (1, kw_i x1), (2, kw_i x2)] [] T n r i w := by
  refine kk_aload_n hm.1 0 dX10_price_17 rfl rfl ?_
  refine kk_iconst (v := (-1 : Int32)) hm.1 dX10_price_18 (by decide) ?_
  refine kk_callVi (cs' := 0) (sl' := 0) (st := []) hm.1 cv_X10_77 (t_X10_refuses h0 h) dX10_price_19 h0 rfl rfl hm.2.2.1 ⟨by decide, by decide⟩ ⟨by decide, by decide⟩ rfl rfl (Nat.le_of_ble_eq_true rfl) rfl ?_
  rintro v19 _ _ _ i19 _ ⟨rfl, rfl, rfl, rfl, h⟩
  exact kk_iret hm.1 hm.2.1 dX10_price_22 ⟨_, rfl, rfl, rfl, rfl, rfl, h⟩
set_option maxHeartbeats 4000000 in
set_option maxRecDepth 100000 in
theorem t_X10_price {l : Launch} {G : kw_G} {a0 : Nat} {x1 : Int32} {x2 : Int32} {T : kw_T} {n : Nat} {r : kw_R} {i : kw_I} {w : kw_L} {Q : Int32 → kw_I → Prop} (h0 : T a0 = (0, 10)) (h : w_X10_price a0 x1 x2 T n r i w Q) : kw_Met l G yX10_price cX10_price 4 (some .int) rm_X10_price [kw_a a0, kw_i x1, kw_i x2] (T, n, r, i, w) (kw_PI (fun v T' n' r' i' w' => T = T' ∧ n = n' ∧ r = r' ∧ w = w' ∧ Q v i')) := by
  refine kw_Met.of (by decide) (Nat.le_of_ble_eq_true rfl) fun E hl hRm hE hT hnm => ?_
  have hm : kw_m E G cX10_price 4 RX10 (some .int) rm_X10_price "price" := ⟨hE, hT, hRm, hnm⟩
  subst hl
  show kw_K E G 4 0 0 (kw_Z E G 0 0 (kw_PI (fun v T' n' r' i' w' => T = T' ∧ n = n' ∧ r = r' ∧ w = w' ∧ Q v i'))) 0 [(0, kw_a a0), (1, kw_i x1), (2, kw_i x2)] [] T n r i w
  refine kk_iload_n hm.1 1 dX10_price_0 rfl rfl ?_
  refine kk_callSi (cs' := 0) (sl' := 0) (st := []) hm.1 cs_X10_107 (t_X10_isColour h) dX10_price_1 rfl hm.2.2.1 ⟨by decide, by decide⟩ ⟨by decide, by decide⟩ rfl rfl (Nat.le_of_ble_eq_true rfl) rfl ?_
  rintro v1 _ _ _ _ _ ⟨rfl, rfl, rfl, rfl, rfl, h⟩
  refine kk_if_eq (tgt := 17) hm.1 dX10_price_4 (by decide) (fun c4 => ?_) (fun c4 => ?_)
  · have h := h.1 c4
    exact q_X10_price_17 hm  h0   i h
  · have h := h.2 c4
    refine kk_iload_n hm.1 2 dX10_price_7 rfl rfl ?_
    refine kk_iconst (v := (0 : Int32)) hm.1 dX10_price_8 (by decide) ?_
    refine kk_bipush (v := (99 : Int32)) hm.1 dX10_price_9 (by decide) ?_
    refine kk_callSi (cs' := 0) (sl' := 0) (st := []) hm.1 cs_X10_73 (t_X10_lies h) dX10_price_11 rfl hm.2.2.1 ⟨by decide, by decide⟩ ⟨by decide, by decide⟩ rfl rfl (Nat.le_of_ble_eq_true rfl) rfl ?_
    rintro v11 _ _ _ _ _ ⟨rfl, rfl, rfl, rfl, rfl, h⟩
    refine kk_if_ne (tgt := 23) hm.1 dX10_price_14 (by decide) (fun c14 => ?_) (fun c14 => ?_)
    · have h := h.1 c14
      refine kk_aload_n hm.1 0 dX10_price_23 rfl rfl ?_
      refine kk_getR hm.1 ff_X10_17 dX10_price_24 h0 ?_
      refine kk_sipush (v := (168 : Int32)) hm.1 dX10_price_27 (by decide) ?_
      refine kk_iload_n hm.1 1 dX10_price_30 rfl rfl ?_
      refine kk_iadd hm.1 dX10_price_31 ?_
      obtain ⟨o32, h⟩ := h
      refine kk_iaload hm.1 dX10_price_32 o32 ?_
      refine kk_istore_n (L' := [(3, kw_i (i (r a0 2) (((168 : Int32) + x1)).toNatClampNeg)), (0, kw_a a0), (1, kw_i x1), (2, kw_i x2)]) hm.1 dX10_price_33 rfl (by decide) rfl ?_
      refine kk_aload_n hm.1 1 dX10_price_34 rfl rfl ?_
      refine kk_getR hm.1 ff_X10_17 dX10_price_35 h0 ?_
      refine kk_sipush (v := (168 : Int32)) hm.1 dX10_price_38 (by decide) ?_
      refine kk_iload_n hm.1 2 dX10_price_41 rfl rfl ?_
      refine kk_iadd hm.1 dX10_price_42 ?_
      refine kk_iload_n hm.1 3 dX10_price_43 rfl rfl ?_
      obtain ⟨o44, h⟩ := h
      refine kn_iastore hm.1 dX10_price_44 o44 (fun i44 e44 => ?_)
      have h := h i44 e44
      refine kk_aload_n hm.1 1 dX10_price_45 rfl rfl ?_
      refine kk_iload_n hm.1 0 dX10_price_46 rfl rfl ?_
      refine kk_callVi (cs' := 0) (sl' := 0) (st := []) hm.1 cv_X10_81 (t_X10_good h0 h) dX10_price_47 h0 rfl rfl hm.2.2.1 ⟨by decide, by decide⟩ ⟨by decide, by decide⟩ rfl rfl (Nat.le_of_ble_eq_true rfl) rfl ?_
      rintro v47 _ _ _ i47 _ ⟨rfl, rfl, rfl, rfl, h⟩
      exact kk_iret hm.1 hm.2.1 dX10_price_50 ⟨_, rfl, rfl, rfl, rfl, rfl, h⟩
    · have h := h.2 c14
      exact q_X10_price_17 hm  h0   i h
def w_X10_terms_28 (a0 : Nat) (x1 : Int32) (x2 : Int32) (T : kw_T) (n : Nat) (r : kw_R) (w : kw_L) (Q : Int32 → kw_I → Prop)  (i : kw_I) : Prop :=
  w_X10_refuses a0 (-1 : Int32) T n r i w (fun v30 i30 => Q v30 i30)
def w_X10_terms_22 (a0 : Nat) (x1 : Int32) (x2 : Int32) (T : kw_T) (n : Nat) (r : kw_R) (w : kw_L) (Q : Int32 → kw_I → Prop)  (s0 : Int32) (s1 : Int32) (s2 : Int32) (i : kw_I) : Prop :=
  w_X10_lies s0 s1 s2 T n r i w (fun v22 => (¬ v22 = 0 → kw_in T 1 (r a0 2) ((176 : Int32) + x1) ∧ (kw_in T 1 (r a0 2) ((176 : Int32) + x1) ∧ (∀ i55 : kw_I, i55 = kw_st i (r a0 2) (((176 : Int32) + x1)).toNatClampNeg x2 → (w_X10_good a0 (i (r a0 2) (((176 : Int32) + x1)).toNatClampNeg) T n r i55 w (fun v58 i58 => Q v58 i58))))) ∧ (v22 = 0 → w_X10_terms_28 a0 x1 x2 T n r w Q  i))
def w_X10_terms  (a0 : Nat) (x1 : Int32) (x2 : Int32) (T : kw_T) (n : Nat) (r : kw_R) (i : kw_I) (w : kw_L) (Q : Int32 → kw_I → Prop) : Prop :=
  w_X10_lies x1 (0 : Int32) (1 : Int32) T n r i w (fun v3 => (v3 = 0 → w_X10_terms_28 a0 x1 x2 T n r w Q  i) ∧ (¬ v3 = 0 → (¬ x1 = 0 → w_X10_terms_22 a0 x1 x2 T n r w Q  x2 ((0 : Int32)) ((99 : Int32)) i) ∧ (x1 = 0 → w_X10_terms_22 a0 x1 x2 T n r w Q  x2 ((0 : Int32)) ((100 : Int32)) i)))
abbrev rm_X10_terms : Room := { frames := 2, cells := 0, slots := 0, locals := 82 }
set_option maxHeartbeats 4000000 in
set_option maxRecDepth 100000 in
theorem q_X10_terms_28 {a0 : Nat} {x1 : Int32} {x2 : Int32} {T : kw_T} {n : Nat} {r : kw_R} {w : kw_L} {Q : Int32 → kw_I → Prop} {E : kw_E} {G : kw_G} (hm : kw_m E G cX10_terms 4 RX10 (some .int) rm_X10_terms "terms")  (h0 : T a0 = (0, 10))    (i : kw_I) (h : w_X10_terms_28 a0 x1 x2 T n r w Q  i) : kw_K E G 4 0 0 (kw_Z E G 0 0 (kw_PI (fun v T' n' r' i' w' => T = T' ∧ n = n' ∧ r = r' ∧ w = w' ∧ Q v i'))) 28 [(0, kw_a a0), (1, kw_i x1), (2, kw_i x2)] [] T n r i w := by
  refine kk_aload_n hm.1 0 dX10_terms_28 rfl rfl ?_
  refine kk_iconst (v := (-1 : Int32)) hm.1 dX10_terms_29 (by decide) ?_
  refine kk_callVi (cs' := 0) (sl' := 0) (st := []) hm.1 cv_X10_77 (t_X10_refuses h0 h) dX10_terms_30 h0 rfl rfl hm.2.2.1 ⟨by decide, by decide⟩ ⟨by decide, by decide⟩ rfl rfl (Nat.le_of_ble_eq_true rfl) rfl ?_
  rintro v30 _ _ _ i30 _ ⟨rfl, rfl, rfl, rfl, h⟩
  exact kk_iret hm.1 hm.2.1 dX10_terms_33 ⟨_, rfl, rfl, rfl, rfl, rfl, h⟩
set_option maxHeartbeats 4000000 in
set_option maxRecDepth 100000 in
theorem q_X10_terms_22 {a0 : Nat} {x1 : Int32} {x2 : Int32} {T : kw_T} {n : Nat} {r : kw_R} {w : kw_L} {Q : Int32 → kw_I → Prop} {E : kw_E} {G : kw_G} (hm : kw_m E G cX10_terms 4 RX10 (some .int) rm_X10_terms "terms")  (h0 : T a0 = (0, 10))    (s0 : Int32) (s1 : Int32) (s2 : Int32) (i : kw_I) (h : w_X10_terms_22 a0 x1 x2 T n r w Q  s0 s1 s2 i) : kw_K E G 4 0 0 (kw_Z E G 0 0 (kw_PI (fun v T' n' r' i' w' => T = T' ∧ n = n' ∧ r = r' ∧ w = w' ∧ Q v i'))) 22 [(0, kw_a a0), (1, kw_i x1), (2, kw_i x2)] [kw_i s2, kw_i s1, kw_i s0] T n r i w := by
  refine kk_callSi (cs' := 0) (sl' := 0) (st := []) hm.1 cs_X10_73 (t_X10_lies h) dX10_terms_22 rfl hm.2.2.1 ⟨by decide, by decide⟩ ⟨by decide, by decide⟩ rfl rfl (Nat.le_of_ble_eq_true rfl) rfl ?_
  rintro v22 _ _ _ _ _ ⟨rfl, rfl, rfl, rfl, rfl, h⟩
  refine kk_if_ne (tgt := 34) hm.1 dX10_terms_25 (by decide) (fun c25 => ?_) (fun c25 => ?_)
  · have h := h.1 c25
    refine kk_aload_n hm.1 0 dX10_terms_34 rfl rfl ?_
    refine kk_getR hm.1 ff_X10_17 dX10_terms_35 h0 ?_
    refine kk_sipush (v := (176 : Int32)) hm.1 dX10_terms_38 (by decide) ?_
    refine kk_iload_n hm.1 1 dX10_terms_41 rfl rfl ?_
    refine kk_iadd hm.1 dX10_terms_42 ?_
    obtain ⟨o43, h⟩ := h
    refine kk_iaload hm.1 dX10_terms_43 o43 ?_
    refine kk_istore_n (L' := [(3, kw_i (i (r a0 2) (((176 : Int32) + x1)).toNatClampNeg)), (0, kw_a a0), (1, kw_i x1), (2, kw_i x2)]) hm.1 dX10_terms_44 rfl (by decide) rfl ?_
    refine kk_aload_n hm.1 1 dX10_terms_45 rfl rfl ?_
    refine kk_getR hm.1 ff_X10_17 dX10_terms_46 h0 ?_
    refine kk_sipush (v := (176 : Int32)) hm.1 dX10_terms_49 (by decide) ?_
    refine kk_iload_n hm.1 2 dX10_terms_52 rfl rfl ?_
    refine kk_iadd hm.1 dX10_terms_53 ?_
    refine kk_iload_n hm.1 3 dX10_terms_54 rfl rfl ?_
    obtain ⟨o55, h⟩ := h
    refine kn_iastore hm.1 dX10_terms_55 o55 (fun i55 e55 => ?_)
    have h := h i55 e55
    refine kk_aload_n hm.1 1 dX10_terms_56 rfl rfl ?_
    refine kk_iload_n hm.1 0 dX10_terms_57 rfl rfl ?_
    refine kk_callVi (cs' := 0) (sl' := 0) (st := []) hm.1 cv_X10_81 (t_X10_good h0 h) dX10_terms_58 h0 rfl rfl hm.2.2.1 ⟨by decide, by decide⟩ ⟨by decide, by decide⟩ rfl rfl (Nat.le_of_ble_eq_true rfl) rfl ?_
    rintro v58 _ _ _ i58 _ ⟨rfl, rfl, rfl, rfl, h⟩
    exact kk_iret hm.1 hm.2.1 dX10_terms_61 ⟨_, rfl, rfl, rfl, rfl, rfl, h⟩
  · have h := h.2 c25
    exact q_X10_terms_28 hm  h0   i h
set_option maxHeartbeats 4000000 in
set_option maxRecDepth 100000 in
theorem t_X10_terms {l : Launch} {G : kw_G} {a0 : Nat} {x1 : Int32} {x2 : Int32} {T : kw_T} {n : Nat} {r : kw_R} {i : kw_I} {w : kw_L} {Q : Int32 → kw_I → Prop} (h0 : T a0 = (0, 10)) (h : w_X10_terms a0 x1 x2 T n r i w Q) : kw_Met l G yX10_terms cX10_terms 4 (some .int) rm_X10_terms [kw_a a0, kw_i x1, kw_i x2] (T, n, r, i, w) (kw_PI (fun v T' n' r' i' w' => T = T' ∧ n = n' ∧ r = r' ∧ w = w' ∧ Q v i')) := by
  refine kw_Met.of (by decide) (Nat.le_of_ble_eq_true rfl) fun E hl hRm hE hT hnm => ?_
  have hm : kw_m E G cX10_terms 4 RX10 (some .int) rm_X10_terms "terms" := ⟨hE, hT, hRm, hnm⟩
  subst hl
  show kw_K E G 4 0 0 (kw_Z E G 0 0 (kw_PI (fun v T' n' r' i' w' => T = T' ∧ n = n' ∧ r = r' ∧ w = w' ∧ Q v i'))) 0 [(0, kw_a a0), (1, kw_i x1), (2, kw_i x2)] [] T n r i w
  refine kk_iload_n hm.1 1 dX10_terms_0 rfl rfl ?_
  refine kk_iconst (v := (0 : Int32)) hm.1 dX10_terms_1 (by decide) ?_
  refine kk_iconst (v := (1 : Int32)) hm.1 dX10_terms_2 (by decide) ?_
  refine kk_callSi (cs' := 0) (sl' := 0) (st := []) hm.1 cs_X10_73 (t_X10_lies h) dX10_terms_3 rfl hm.2.2.1 ⟨by decide, by decide⟩ ⟨by decide, by decide⟩ rfl rfl (Nat.le_of_ble_eq_true rfl) rfl ?_
  rintro v3 _ _ _ _ _ ⟨rfl, rfl, rfl, rfl, rfl, h⟩
  refine kk_if_eq (tgt := 28) hm.1 dX10_terms_6 (by decide) (fun c6 => ?_) (fun c6 => ?_)
  · have h := h.1 c6
    exact q_X10_terms_28 hm  h0   i h
  · have h := h.2 c6
    refine kk_iload_n hm.1 2 dX10_terms_9 rfl rfl ?_
    refine kk_iconst (v := (0 : Int32)) hm.1 dX10_terms_10 (by decide) ?_
    refine kk_iload_n hm.1 1 dX10_terms_11 rfl rfl ?_
    refine kk_if_ne (tgt := 20) hm.1 dX10_terms_12 (by decide) (fun c12 => ?_) (fun c12 => ?_)
    · have h := h.1 c12
      refine kk_bipush (v := (99 : Int32)) hm.1 dX10_terms_20 (by decide) ?_
      exact q_X10_terms_22 hm  h0   x2 ((0 : Int32)) ((99 : Int32)) i h
    · have h := h.2 c12
      refine kk_bipush (v := (100 : Int32)) hm.1 dX10_terms_15 (by decide) ?_
      refine kk_goto (tgt := 22) hm.1 dX10_terms_17 (by decide) ?_
      exact q_X10_terms_22 hm  h0   x2 ((0 : Int32)) ((100 : Int32)) i h
def w_X10_row_28 (a0 : Nat) (T : kw_T) (n : Nat) (r : kw_R) (w : kw_L) (Q : Int32 → kw_I → Prop)  (i : kw_I) : Prop :=
  w_X10_refuses a0 (-6 : Int32) T n r i w (fun v31 i31 => Q v31 i31)
def w_X10_row_99 (a0 : Nat) (T : kw_T) (n : Nat) (r : kw_R) (w : kw_L) (Q : Int32 → kw_I → Prop) (k39 : Int32 → Int32 → Int32 → kw_I → Prop) (x1 : Int32) (x2 : Int32) (x3 : Int32) (i : kw_I) : Prop :=
  k39 x1 x2 ((x3 + (1 : Int32))) i
def w_X10_row_124 (a0 : Nat) (T : kw_T) (n : Nat) (r : kw_R) (w : kw_L) (Q : Int32 → kw_I → Prop)  (x2 : Int32) (s0 : Nat) (s1 : Int32) (i : kw_I) : Prop :=
  T s0 = (0, 10) ∧ (∀ i124 : kw_I, i124 = kw_st i s0 5 s1 → (w_X10_good a0 x2 T n r i124 w (fun v129 i129 => Q v129 i129)))
def w_X10_row_105 (a0 : Nat) (T : kw_T) (n : Nat) (r : kw_R) (w : kw_L) (Q : Int32 → kw_I → Prop)  (x1 : Int32) (x2 : Int32) (i : kw_I) : Prop :=
  ((x1 - (1 : Int32)) ≤ (36 : Int32) → w_X10_row_124 a0 T n r w Q  x2 a0 ((0 : Int32)) i) ∧ (¬ (x1 - (1 : Int32)) ≤ (36 : Int32) → w_X10_row_124 a0 T n r w Q  x2 a0 (((x1 - (1 : Int32)) - (36 : Int32))) i)
def s_X10_row_39 (a0 : Nat) (T : kw_T) (n : Nat) (r : kw_R) (w : kw_L) (Q : Int32 → kw_I → Prop)  (k39 : Int32 → Int32 → Int32 → kw_I → Prop) (x1 : Int32) (x2 : Int32) (x3 : Int32) (i : kw_I) : Prop :=
  ((36 : Int32) ≤ x3 → w_X10_row_105 a0 T n r w Q  x1 x2 i) ∧ (¬ (36 : Int32) ≤ x3 → (x1 ≤ (x3 + (1 : Int32)) → w_X10_row_105 a0 T n r w Q  x1 x2 i) ∧ (¬ x1 ≤ (x3 + (1 : Int32)) → kw_in T 2 (r a0 7) (x3 + (1 : Int32)) ∧ (w_X10_isColour (i (r a0 7) ((x3 + (1 : Int32))).toNatClampNeg) T n r i w (fun v60 => (¬ v60 = 0 → kw_in T 2 (r a0 7) (0 : Int32) ∧ (kw_in T 2 (r a0 7) (x3 + (1 : Int32)) ∧ (kw_in T 1 (r a0 2) (((60 : Int32) + ((36 : Int32) * (i (r a0 7) ((0 : Int32)).toNatClampNeg))) + x3) ∧ (∀ i95 : kw_I, i95 = kw_st i (r a0 2) ((((60 : Int32) + ((36 : Int32) * (i (r a0 7) ((0 : Int32)).toNatClampNeg))) + x3)).toNatClampNeg (i (r a0 7) ((x3 + (1 : Int32))).toNatClampNeg) → (w_X10_row_99 a0 T n r w Q k39 x1 ((x2 + (1 : Int32))) x3 i95))))) ∧ (v60 = 0 → w_X10_row_99 a0 T n r w Q k39 x1 x2 x3 i)))))
def w_X10_row_39 (a0 : Nat) (T : kw_T) (n : Nat) (r : kw_R) (w : kw_L) (Q : Int32 → kw_I → Prop)  : Nat → Int32 → Int32 → Int32 → kw_I → Prop
  | 0 => fun _ _ _ _ => False
  | N + 1 => s_X10_row_39 a0 T n r w Q  (w_X10_row_39 a0 T n r w Q  N)
def w_X10_row  (a0 : Nat) (T : kw_T) (n : Nat) (r : kw_R) (i : kw_I) (w : kw_L) (Q : Int32 → kw_I → Prop) : Prop :=
  ∀ i7 : kw_I, i7 = kw_st i a0 9 (0 : Int32) → (((i a0 9) = 0 → w_X10_row_28 a0 T n r w Q  i7) ∧ (¬ (i a0 9) = 0 → kw_in T 2 (r a0 7) (0 : Int32) ∧ (w_X10_lies (i7 (r a0 7) ((0 : Int32)).toNatClampNeg) (0 : Int32) (2 : Int32) T n r i7 w (fun v22 => (¬ v22 = 0 → ∃ N, w_X10_row_39 a0 T n r w Q  N ((i a0 9)) ((0 : Int32)) ((0 : Int32)) i7) ∧ (v22 = 0 → w_X10_row_28 a0 T n r w Q  i7)))))
abbrev rm_X10_row : Room := { frames := 3, cells := 0, slots := 0, locals := 102 }
set_option maxHeartbeats 4000000 in
set_option maxRecDepth 100000 in
theorem q_X10_row_28 {a0 : Nat} {T : kw_T} {n : Nat} {r : kw_R} {w : kw_L} {Q : Int32 → kw_I → Prop} {E : kw_E} {G : kw_G} (hm : kw_m E G cX10_row 4 RX10 (some .int) rm_X10_row "row")  (h0 : T a0 = (0, 10))    (i : kw_I) (h : w_X10_row_28 a0 T n r w Q  i) : kw_K E G 4 0 0 (kw_Z E G 0 0 (kw_PI (fun v T' n' r' i' w' => T = T' ∧ n = n' ∧ r = r' ∧ w = w' ∧ Q v i'))) 28 [(0, kw_a a0)] [] T n r i w := by
  refine kk_aload_n hm.1 0 dX10_row_28 rfl rfl ?_
  refine kk_bipush (v := (-6 : Int32)) hm.1 dX10_row_29 (by decide) ?_
  refine kk_callVi (cs' := 0) (sl' := 0) (st := []) hm.1 cv_X10_77 (t_X10_refuses h0 h) dX10_row_31 h0 rfl rfl hm.2.2.1 ⟨by decide, by decide⟩ ⟨by decide, by decide⟩ rfl rfl (Nat.le_of_ble_eq_true rfl) rfl ?_
  rintro v31 _ _ _ i31 _ ⟨rfl, rfl, rfl, rfl, h⟩
  exact kk_iret hm.1 hm.2.1 dX10_row_34 ⟨_, rfl, rfl, rfl, rfl, rfl, h⟩
set_option maxHeartbeats 4000000 in
set_option maxRecDepth 100000 in
theorem q_X10_row_99 {a0 : Nat} {T : kw_T} {n : Nat} {r : kw_R} {w : kw_L} {Q : Int32 → kw_I → Prop} {E : kw_E} {G : kw_G} (hm : kw_m E G cX10_row 4 RX10 (some .int) rm_X10_row "row")  (h0 : T a0 = (0, 10))  {k39 : Int32 → Int32 → Int32 → kw_I → Prop} (hk39 : ∀ (x1 : Int32) (x2 : Int32) (x3 : Int32) (i : kw_I), k39 x1 x2 x3 i → kw_K E G 4 0 0 (kw_Z E G 0 0 (kw_PI (fun v T' n' r' i' w' => T = T' ∧ n = n' ∧ r = r' ∧ w = w' ∧ Q v i'))) 39 [(0, kw_a a0), (1, kw_i x1), (2, kw_i x2), (3, kw_i x3)] [] T n r i w) (x1 : Int32) (x2 : Int32) (x3 : Int32) (i : kw_I) (h : w_X10_row_99 a0 T n r w Q k39 x1 x2 x3 i) : kw_K E G 4 0 0 (kw_Z E G 0 0 (kw_PI (fun v T' n' r' i' w' => T = T' ∧ n = n' ∧ r = r' ∧ w = w' ∧ Q v i'))) 99 [(0, kw_a a0), (1, kw_i x1), (2, kw_i x2), (3, kw_i x3)] [] T n r i w := by
  refine kk_iinc (v := (x3 + (1 : Int32))) (L' := [(3, kw_i (x3 + (1 : Int32))), (0, kw_a a0), (1, kw_i x1), (2, kw_i x2)]) hm.1 3 dX10_row_99 rfl rfl (by decide) rfl ?_
  refine kk_goto (tgt := 39) hm.1 dX10_row_102 (by decide) ?_
  refine kk_loc (L' := [(0, kw_a a0), (1, kw_i x1), (2, kw_i x2), (3, kw_i (x3 + (1 : Int32)))]) [1, 2, 3, 0] rfl ?_
  exact hk39 x1 x2 ((x3 + (1 : Int32))) i h
set_option maxHeartbeats 4000000 in
set_option maxRecDepth 100000 in
theorem q_X10_row_124 {a0 : Nat} {T : kw_T} {n : Nat} {r : kw_R} {w : kw_L} {Q : Int32 → kw_I → Prop} {E : kw_E} {G : kw_G} (hm : kw_m E G cX10_row 4 RX10 (some .int) rm_X10_row "row")  (h0 : T a0 = (0, 10))    (x2 : Int32) (s0 : Nat) (s1 : Int32) (i : kw_I) (h : w_X10_row_124 a0 T n r w Q  x2 s0 s1 i) : kw_K E G 4 0 0 (kw_Z E G 0 0 (kw_PI (fun v T' n' r' i' w' => T = T' ∧ n = n' ∧ r = r' ∧ w = w' ∧ Q v i'))) 124 [(0, kw_a a0), (2, kw_i x2)] [kw_i s1, kw_a s0] T n r i w := by
  obtain ⟨o124, h⟩ := h
  refine kn_putI hm.1 fp_X10_113 dX10_row_124 o124 (fun i124 e124 => ?_)
  have h := h i124 e124
  refine kk_aload_n hm.1 0 dX10_row_127 rfl rfl ?_
  refine kk_iload_n hm.1 1 dX10_row_128 rfl rfl ?_
  refine kk_callVi (cs' := 0) (sl' := 0) (st := []) hm.1 cv_X10_81 (t_X10_good h0 h) dX10_row_129 h0 rfl rfl hm.2.2.1 ⟨by decide, by decide⟩ ⟨by decide, by decide⟩ rfl rfl (Nat.le_of_ble_eq_true rfl) rfl ?_
  rintro v129 _ _ _ i129 _ ⟨rfl, rfl, rfl, rfl, h⟩
  exact kk_iret hm.1 hm.2.1 dX10_row_132 ⟨_, rfl, rfl, rfl, rfl, rfl, h⟩
set_option maxHeartbeats 4000000 in
set_option maxRecDepth 100000 in
theorem q_X10_row_105 {a0 : Nat} {T : kw_T} {n : Nat} {r : kw_R} {w : kw_L} {Q : Int32 → kw_I → Prop} {E : kw_E} {G : kw_G} (hm : kw_m E G cX10_row 4 RX10 (some .int) rm_X10_row "row")  (h0 : T a0 = (0, 10))    (x1 : Int32) (x2 : Int32) (i : kw_I) (h : w_X10_row_105 a0 T n r w Q  x1 x2 i) : kw_K E G 4 0 0 (kw_Z E G 0 0 (kw_PI (fun v T' n' r' i' w' => T = T' ∧ n = n' ∧ r = r' ∧ w = w' ∧ Q v i'))) 105 [(0, kw_a a0), (1, kw_i x1), (2, kw_i x2)] [] T n r i w := by
  refine kk_aload_n hm.1 0 dX10_row_105 rfl rfl ?_
  refine kk_iload_n hm.1 1 dX10_row_106 rfl rfl ?_
  refine kk_iconst (v := (1 : Int32)) hm.1 dX10_row_107 (by decide) ?_
  refine kk_isub hm.1 dX10_row_108 ?_
  refine kk_bipush (v := (36 : Int32)) hm.1 dX10_row_109 (by decide) ?_
  refine kk_icmp_le (tgt := 123) hm.1 dX10_row_111 (by decide) (fun c111 => ?_) (fun c111 => ?_)
  · have h := h.1 c111
    refine kk_iconst (v := (0 : Int32)) hm.1 dX10_row_123 (by decide) ?_
    refine kk_loc (L' := [(0, kw_a a0), (2, kw_i x2)]) [0, 2] rfl ?_
    exact q_X10_row_124 hm  h0   x2 a0 ((0 : Int32)) i h
  · have h := h.2 c111
    refine kk_iload_n hm.1 1 dX10_row_114 rfl rfl ?_
    refine kk_iconst (v := (1 : Int32)) hm.1 dX10_row_115 (by decide) ?_
    refine kk_isub hm.1 dX10_row_116 ?_
    refine kk_bipush (v := (36 : Int32)) hm.1 dX10_row_117 (by decide) ?_
    refine kk_isub hm.1 dX10_row_119 ?_
    refine kk_goto (tgt := 124) hm.1 dX10_row_120 (by decide) ?_
    refine kk_loc (L' := [(0, kw_a a0), (2, kw_i x2)]) [0, 2] rfl ?_
    exact q_X10_row_124 hm  h0   x2 a0 (((x1 - (1 : Int32)) - (36 : Int32))) i h
set_option maxHeartbeats 4000000 in
set_option maxRecDepth 100000 in
theorem qs_X10_row_39 {a0 : Nat} {T : kw_T} {n : Nat} {r : kw_R} {w : kw_L} {Q : Int32 → kw_I → Prop} {E : kw_E} {G : kw_G} (hm : kw_m E G cX10_row 4 RX10 (some .int) rm_X10_row "row")  (h0 : T a0 = (0, 10))    {k39 : Int32 → Int32 → Int32 → kw_I → Prop} (hk39 : ∀ (x1 : Int32) (x2 : Int32) (x3 : Int32) (i : kw_I), k39 x1 x2 x3 i → kw_K E G 4 0 0 (kw_Z E G 0 0 (kw_PI (fun v T' n' r' i' w' => T = T' ∧ n = n' ∧ r = r' ∧ w = w' ∧ Q v i'))) 39 [(0, kw_a a0), (1, kw_i x1), (2, kw_i x2), (3, kw_i x3)] [] T n r i w) (x1 : Int32) (x2 : Int32) (x3 : Int32) (i : kw_I) (h : s_X10_row_39 a0 T n r w Q  k39 x1 x2 x3 i) : kw_K E G 4 0 0 (kw_Z E G 0 0 (kw_PI (fun v T' n' r' i' w' => T = T' ∧ n = n' ∧ r = r' ∧ w = w' ∧ Q v i'))) 39 [(0, kw_a a0), (1, kw_i x1), (2, kw_i x2), (3, kw_i x3)] [] T n r i w := by
  refine kk_iload_n hm.1 3 dX10_row_39 rfl rfl ?_
  refine kk_bipush (v := (36 : Int32)) hm.1 dX10_row_40 (by decide) ?_
  refine kk_icmp_ge (tgt := 105) hm.1 dX10_row_42 (by decide) (fun c42 => ?_) (fun c42 => ?_)
  · have h := h.1 c42
    refine kk_loc (L' := [(0, kw_a a0), (1, kw_i x1), (2, kw_i x2)]) [0, 1, 2] rfl ?_
    exact q_X10_row_105 hm  h0   x1 x2 i h
  · have h := h.2 c42
    refine kk_iload_n hm.1 3 dX10_row_45 rfl rfl ?_
    refine kk_iconst (v := (1 : Int32)) hm.1 dX10_row_46 (by decide) ?_
    refine kk_iadd hm.1 dX10_row_47 ?_
    refine kk_iload_n hm.1 1 dX10_row_48 rfl rfl ?_
    refine kk_icmp_ge (tgt := 105) hm.1 dX10_row_49 (by decide) (fun c49 => ?_) (fun c49 => ?_)
    · have h := h.1 c49
      refine kk_loc (L' := [(0, kw_a a0), (1, kw_i x1), (2, kw_i x2)]) [0, 1, 2] rfl ?_
      exact q_X10_row_105 hm  h0   x1 x2 i h
    · have h := h.2 c49
      refine kk_aload_n hm.1 0 dX10_row_52 rfl rfl ?_
      refine kk_getR hm.1 ff_X10_31 dX10_row_53 h0 ?_
      refine kk_iload_n hm.1 3 dX10_row_56 rfl rfl ?_
      refine kk_iconst (v := (1 : Int32)) hm.1 dX10_row_57 (by decide) ?_
      refine kk_iadd hm.1 dX10_row_58 ?_
      obtain ⟨o59, h⟩ := h
      refine kk_baload hm.1 dX10_row_59 o59 ?_
      refine kk_callSi (cs' := 0) (sl' := 0) (st := []) hm.1 cs_X10_107 (t_X10_isColour h) dX10_row_60 rfl hm.2.2.1 ⟨by decide, by decide⟩ ⟨by decide, by decide⟩ rfl rfl (Nat.le_of_ble_eq_true rfl) rfl ?_
      rintro v60 _ _ _ _ _ ⟨rfl, rfl, rfl, rfl, rfl, h⟩
      refine kk_if_ne (tgt := 69) hm.1 dX10_row_63 (by decide) (fun c63 => ?_) (fun c63 => ?_)
      · have h := h.1 c63
        refine kk_aload_n hm.1 0 dX10_row_69 rfl rfl ?_
        refine kk_getR hm.1 ff_X10_17 dX10_row_70 h0 ?_
        refine kk_bipush (v := (60 : Int32)) hm.1 dX10_row_73 (by decide) ?_
        refine kk_bipush (v := (36 : Int32)) hm.1 dX10_row_75 (by decide) ?_
        refine kk_aload_n hm.1 0 dX10_row_77 rfl rfl ?_
        refine kk_getR hm.1 ff_X10_31 dX10_row_78 h0 ?_
        refine kk_iconst (v := (0 : Int32)) hm.1 dX10_row_81 (by decide) ?_
        obtain ⟨o82, h⟩ := h
        refine kk_baload hm.1 dX10_row_82 o82 ?_
        refine kk_imul hm.1 dX10_row_83 ?_
        refine kk_iadd hm.1 dX10_row_84 ?_
        refine kk_iload_n hm.1 3 dX10_row_85 rfl rfl ?_
        refine kk_iadd hm.1 dX10_row_86 ?_
        refine kk_aload_n hm.1 0 dX10_row_87 rfl rfl ?_
        refine kk_getR hm.1 ff_X10_31 dX10_row_88 h0 ?_
        refine kk_iload_n hm.1 3 dX10_row_91 rfl rfl ?_
        refine kk_iconst (v := (1 : Int32)) hm.1 dX10_row_92 (by decide) ?_
        refine kk_iadd hm.1 dX10_row_93 ?_
        obtain ⟨o94, h⟩ := h
        refine kk_baload hm.1 dX10_row_94 o94 ?_
        obtain ⟨o95, h⟩ := h
        refine kn_iastore hm.1 dX10_row_95 o95 (fun i95 e95 => ?_)
        have h := h i95 e95
        refine kk_iinc (v := (x2 + (1 : Int32))) (L' := [(2, kw_i (x2 + (1 : Int32))), (0, kw_a a0), (1, kw_i x1), (3, kw_i x3)]) hm.1 2 dX10_row_96 rfl rfl (by decide) rfl ?_
        refine kk_loc (L' := [(0, kw_a a0), (1, kw_i x1), (2, kw_i (x2 + (1 : Int32))), (3, kw_i x3)]) [1, 2, 0, 3] rfl ?_
        exact q_X10_row_99 hm  h0  hk39 x1 ((x2 + (1 : Int32))) x3 i95 h
      · have h := h.2 c63
        refine kk_goto (tgt := 99) hm.1 dX10_row_66 (by decide) ?_
        exact q_X10_row_99 hm  h0  hk39 x1 x2 x3 i h
set_option maxHeartbeats 4000000 in
set_option maxRecDepth 100000 in
theorem q_X10_row_39 {a0 : Nat} {T : kw_T} {n : Nat} {r : kw_R} {w : kw_L} {Q : Int32 → kw_I → Prop} {E : kw_E} {G : kw_G} (hm : kw_m E G cX10_row 4 RX10 (some .int) rm_X10_row "row")  (h0 : T a0 = (0, 10))    : ∀ (N : Nat) (x1 : Int32) (x2 : Int32) (x3 : Int32) (i : kw_I), w_X10_row_39 a0 T n r w Q  N x1 x2 x3 i → kw_K E G 4 0 0 (kw_Z E G 0 0 (kw_PI (fun v T' n' r' i' w' => T = T' ∧ n = n' ∧ r = r' ∧ w = w' ∧ Q v i'))) 39 [(0, kw_a a0), (1, kw_i x1), (2, kw_i x2), (3, kw_i x3)] [] T n r i w := by
  intro N
  induction N with
  | zero => intro x1 x2 x3 i h; exact h.elim
  | succ N ih => intro x1 x2 x3 i h; exact qs_X10_row_39 hm  h0  ih x1 x2 x3 i h
set_option maxHeartbeats 4000000 in
set_option maxRecDepth 100000 in
theorem t_X10_row {l : Launch} {G : kw_G} {a0 : Nat} {T : kw_T} {n : Nat} {r : kw_R} {i : kw_I} {w : kw_L} {Q : Int32 → kw_I → Prop} (h0 : T a0 = (0, 10)) (h : w_X10_row a0 T n r i w Q) : kw_Met l G yX10_row cX10_row 4 (some .int) rm_X10_row [kw_a a0] (T, n, r, i, w) (kw_PI (fun v T' n' r' i' w' => T = T' ∧ n = n' ∧ r = r' ∧ w = w' ∧ Q v i')) := by
  refine kw_Met.of (by decide) (Nat.le_of_ble_eq_true rfl) fun E hl hRm hE hT hnm => ?_
  have hm : kw_m E G cX10_row 4 RX10 (some .int) rm_X10_row "row" := ⟨hE, hT, hRm, hnm⟩
  subst hl
  show kw_K E G 4 0 0 (kw_Z E G 0 0 (kw_PI (fun v T' n' r' i' w' => T = T' ∧ n = n' ∧ r = r' ∧ w = w' ∧ Q v i'))) 0 [(0, kw_a a0)] [] T n r i w
  refine kk_aload_n hm.1 0 dX10_row_0 rfl rfl ?_
  refine kk_getI hm.1 ff_X10_110 dX10_row_1 h0 ?_
  refine kk_istore_n (L' := [(1, kw_i (i a0 9)), (0, kw_a a0)]) hm.1 dX10_row_4 rfl (by decide) rfl ?_
  refine kk_aload_n hm.1 1 dX10_row_5 rfl rfl ?_
  refine kk_iconst (v := (0 : Int32)) hm.1 dX10_row_6 (by decide) ?_
  refine kn_putI hm.1 fp_X10_110 dX10_row_7 h0 (fun i7 e7 => ?_)
  have h := h i7 e7
  refine kk_iload_n hm.1 0 dX10_row_10 rfl rfl ?_
  refine kk_if_eq (tgt := 28) hm.1 dX10_row_11 (by decide) (fun c11 => ?_) (fun c11 => ?_)
  · have h := h.1 c11
    refine kk_loc (L' := [(0, kw_a a0)]) [1] rfl ?_
    exact q_X10_row_28 hm  h0   i7 h
  · have h := h.2 c11
    refine kk_aload_n hm.1 1 dX10_row_14 rfl rfl ?_
    refine kk_getR hm.1 ff_X10_31 dX10_row_15 h0 ?_
    refine kk_iconst (v := (0 : Int32)) hm.1 dX10_row_18 (by decide) ?_
    obtain ⟨o19, h⟩ := h
    refine kk_baload hm.1 dX10_row_19 o19 ?_
    refine kk_iconst (v := (0 : Int32)) hm.1 dX10_row_20 (by decide) ?_
    refine kk_iconst (v := (2 : Int32)) hm.1 dX10_row_21 (by decide) ?_
    refine kk_callSi (cs' := 0) (sl' := 0) (st := []) hm.1 cs_X10_73 (t_X10_lies h) dX10_row_22 rfl hm.2.2.1 ⟨by decide, by decide⟩ ⟨by decide, by decide⟩ rfl rfl (Nat.le_of_ble_eq_true rfl) rfl ?_
    rintro v22 _ _ _ _ _ ⟨rfl, rfl, rfl, rfl, rfl, h⟩
    refine kk_if_ne (tgt := 35) hm.1 dX10_row_25 (by decide) (fun c25 => ?_) (fun c25 => ?_)
    · have h := h.1 c25
      refine kk_iconst (v := (0 : Int32)) hm.1 dX10_row_35 (by decide) ?_
      refine kk_istore_n (L' := [(2, kw_i (0 : Int32)), (1, kw_i (i a0 9)), (0, kw_a a0)]) hm.1 dX10_row_36 rfl (by decide) rfl ?_
      refine kk_iconst (v := (0 : Int32)) hm.1 dX10_row_37 (by decide) ?_
      refine kk_istore_n (L' := [(3, kw_i (0 : Int32)), (2, kw_i (0 : Int32)), (1, kw_i (i a0 9)), (0, kw_a a0)]) hm.1 dX10_row_38 rfl (by decide) rfl ?_
      refine kk_loc (L' := [(0, kw_a a0), (1, kw_i (i a0 9)), (2, kw_i (0 : Int32)), (3, kw_i (0 : Int32))]) [3, 2, 1, 0] rfl ?_
      obtain ⟨N, h⟩ := h
      exact q_X10_row_39 hm  h0   N ((i a0 9)) ((0 : Int32)) ((0 : Int32)) i7 h
    · have h := h.2 c25
      refine kk_loc (L' := [(0, kw_a a0)]) [1] rfl ?_
      exact q_X10_row_28 hm  h0   i7 h
def w_X10_lint  (a0 : Nat) (T : kw_T) (n : Nat) (r : kw_R) (i : kw_I) (w : kw_L) (Q : Int32 → Prop) : Prop :=
  Q (i a0 5)
abbrev rm_X10_lint : Room := { frames := 1, cells := 0, slots := 0, locals := 60 }
set_option maxHeartbeats 4000000 in
set_option maxRecDepth 100000 in
theorem t_X10_lint {l : Launch} {G : kw_G} {a0 : Nat} {T : kw_T} {n : Nat} {r : kw_R} {i : kw_I} {w : kw_L} {Q : Int32 → Prop} (h0 : T a0 = (0, 10)) (h : w_X10_lint a0 T n r i w Q) : kw_Met l G yX10_lint cX10_lint 1 (some .int) rm_X10_lint [kw_a a0] (T, n, r, i, w) (kw_PI (fun v T' n' r' i' w' => T = T' ∧ n = n' ∧ r = r' ∧ i = i' ∧ w = w' ∧ Q v)) := by
  refine kw_Met.of (by decide) (Nat.le_of_ble_eq_true rfl) fun E hl hRm hE hT hnm => ?_
  have hm : kw_m E G cX10_lint 1 RX10 (some .int) rm_X10_lint "lint" := ⟨hE, hT, hRm, hnm⟩
  subst hl
  show kw_K E G 1 0 0 (kw_Z E G 0 0 (kw_PI (fun v T' n' r' i' w' => T = T' ∧ n = n' ∧ r = r' ∧ i = i' ∧ w = w' ∧ Q v))) 0 [(0, kw_a a0)] [] T n r i w
  refine kk_aload_n hm.1 0 dX10_lint_0 rfl rfl ?_
  refine kk_getI hm.1 ff_X10_113 dX10_lint_1 h0 ?_
  exact kk_iret hm.1 hm.2.1 dX10_lint_4 ⟨_, rfl, rfl, rfl, rfl, rfl, rfl, h⟩
def s_X10_feed_55 (a0 : Nat) (x1 : Int32) (x2 : Int32) (x3 : Int32) (x4 : Int32) (x5 : Int32) (T : kw_T) (n : Nat) (r : kw_R) (w : kw_L) (Q : Int32 → kw_I → Prop)  (k55 : Int32 → kw_I → Prop) (x6 : Int32) (i : kw_I) : Prop :=
  ((20 : Int32) ≤ x6 → ∀ i109 : kw_I, i109 = kw_st i a0 9 ((i a0 9) + (20 : Int32)) → (Q (i109 a0 9) i109)) ∧ (¬ (20 : Int32) ≤ x6 → kw_in T 1 (r a0 8) (x6 / (4 : Int32)) ∧ (kw_in T 2 (r a0 7) ((i a0 9) + x6) ∧ (∀ i94 : kw_I, i94 = kw_st i (r a0 7) (((i a0 9) + x6)).toNatClampNeg (vp_nar .byte (((i (r a0 8) ((x6 / (4 : Int32))).toNatClampNeg) >>> (((24 : Int32) - ((8 : Int32) * (x6 - x6 / (4 : Int32) * (4 : Int32)))) &&& 31)).toInt8.toInt32)) → (k55 ((x6 + (1 : Int32))) i94))))
def w_X10_feed_55 (a0 : Nat) (x1 : Int32) (x2 : Int32) (x3 : Int32) (x4 : Int32) (x5 : Int32) (T : kw_T) (n : Nat) (r : kw_R) (w : kw_L) (Q : Int32 → kw_I → Prop)  : Nat → Int32 → kw_I → Prop
  | 0 => fun _ _ => False
  | N + 1 => s_X10_feed_55 a0 x1 x2 x3 x4 x5 T n r w Q  (w_X10_feed_55 a0 x1 x2 x3 x4 x5 T n r w Q  N)
def w_X10_feed  (a0 : Nat) (x1 : Int32) (x2 : Int32) (x3 : Int32) (x4 : Int32) (x5 : Int32) (T : kw_T) (n : Nat) (r : kw_R) (i : kw_I) (w : kw_L) (Q : Int32 → kw_I → Prop) : Prop :=
  (((i a0 9) + (20 : Int32)) ≤ (400 : Int32) → kw_in T 1 (r a0 8) (0 : Int32) ∧ (∀ i21 : kw_I, i21 = kw_st i (r a0 8) ((0 : Int32)).toNatClampNeg x1 → (kw_in T 1 (r a0 8) (1 : Int32) ∧ (∀ i28 : kw_I, i28 = kw_st i21 (r a0 8) ((1 : Int32)).toNatClampNeg x2 → (kw_in T 1 (r a0 8) (2 : Int32) ∧ (∀ i35 : kw_I, i35 = kw_st i28 (r a0 8) ((2 : Int32)).toNatClampNeg x3 → (kw_in T 1 (r a0 8) (3 : Int32) ∧ (∀ i43 : kw_I, i43 = kw_st i35 (r a0 8) ((3 : Int32)).toNatClampNeg x4 → (kw_in T 1 (r a0 8) (4 : Int32) ∧ (∀ i51 : kw_I, i51 = kw_st i43 (r a0 8) ((4 : Int32)).toNatClampNeg x5 → (∃ N, w_X10_feed_55 a0 x1 x2 x3 x4 x5 T n r w Q  N ((0 : Int32)) i51))))))))))) ∧ (¬ ((i a0 9) + (20 : Int32)) ≤ (400 : Int32) → Q (-1 : Int32) i)
abbrev rm_X10_feed : Room := { frames := 1, cells := 0, slots := 0, locals := 60 }
set_option maxHeartbeats 4000000 in
set_option maxRecDepth 100000 in
theorem qs_X10_feed_55 {a0 : Nat} {x1 : Int32} {x2 : Int32} {x3 : Int32} {x4 : Int32} {x5 : Int32} {T : kw_T} {n : Nat} {r : kw_R} {w : kw_L} {Q : Int32 → kw_I → Prop} {E : kw_E} {G : kw_G} (hm : kw_m E G cX10_feed 7 RX10 (some .int) rm_X10_feed "feed")  (h0 : T a0 = (0, 10))    {k55 : Int32 → kw_I → Prop} (hk55 : ∀ (x6 : Int32) (i : kw_I), k55 x6 i → kw_K E G 7 0 0 (kw_Z E G 0 0 (kw_PI (fun v T' n' r' i' w' => T = T' ∧ n = n' ∧ r = r' ∧ w = w' ∧ Q v i'))) 55 [(0, kw_a a0), (1, kw_i x1), (2, kw_i x2), (3, kw_i x3), (4, kw_i x4), (5, kw_i x5), (6, kw_i x6)] [] T n r i w) (x6 : Int32) (i : kw_I) (h : s_X10_feed_55 a0 x1 x2 x3 x4 x5 T n r w Q  k55 x6 i) : kw_K E G 7 0 0 (kw_Z E G 0 0 (kw_PI (fun v T' n' r' i' w' => T = T' ∧ n = n' ∧ r = r' ∧ w = w' ∧ Q v i'))) 55 [(0, kw_a a0), (1, kw_i x1), (2, kw_i x2), (3, kw_i x3), (4, kw_i x4), (5, kw_i x5), (6, kw_i x6)] [] T n r i w := by
  refine kk_iload hm.1 6 dX10_feed_55 rfl ?_
  refine kk_bipush (v := (20 : Int32)) hm.1 dX10_feed_57 (by decide) ?_
  refine kk_icmp_ge (tgt := 101) hm.1 dX10_feed_59 (by decide) (fun c59 => ?_) (fun c59 => ?_)
  · have h := h.1 c59
    refine kk_aload_n hm.1 0 dX10_feed_101 rfl rfl ?_
    refine kk_dup hm.1 dX10_feed_102 rfl ?_
    refine kk_getI hm.1 ff_X10_110 dX10_feed_103 h0 ?_
    refine kk_bipush (v := (20 : Int32)) hm.1 dX10_feed_106 (by decide) ?_
    refine kk_iadd hm.1 dX10_feed_108 ?_
    refine kn_putI hm.1 fp_X10_110 dX10_feed_109 h0 (fun i109 e109 => ?_)
    have h := h i109 e109
    refine kk_aload_n hm.1 0 dX10_feed_112 rfl rfl ?_
    refine kk_getI hm.1 ff_X10_110 dX10_feed_113 h0 ?_
    exact kk_iret hm.1 hm.2.1 dX10_feed_116 ⟨_, rfl, rfl, rfl, rfl, rfl, h⟩
  · have h := h.2 c59
    refine kk_aload_n hm.1 0 dX10_feed_62 rfl rfl ?_
    refine kk_getR hm.1 ff_X10_31 dX10_feed_63 h0 ?_
    refine kk_aload_n hm.1 0 dX10_feed_66 rfl rfl ?_
    refine kk_getI hm.1 ff_X10_110 dX10_feed_67 h0 ?_
    refine kk_iload hm.1 6 dX10_feed_70 rfl ?_
    refine kk_iadd hm.1 dX10_feed_72 ?_
    refine kk_aload_n hm.1 0 dX10_feed_73 rfl rfl ?_
    refine kk_getR hm.1 ff_X10_34 dX10_feed_74 h0 ?_
    refine kk_iload hm.1 6 dX10_feed_77 rfl ?_
    refine kk_iconst (v := (4 : Int32)) hm.1 dX10_feed_79 (by decide) ?_
    refine kk_idiv hm.1 dX10_feed_80 (by decide) ?_
    obtain ⟨o81, h⟩ := h
    refine kk_iaload hm.1 dX10_feed_81 o81 ?_
    refine kk_bipush (v := (24 : Int32)) hm.1 dX10_feed_82 (by decide) ?_
    refine kk_bipush (v := (8 : Int32)) hm.1 dX10_feed_84 (by decide) ?_
    refine kk_iload hm.1 6 dX10_feed_86 rfl ?_
    refine kk_iconst (v := (4 : Int32)) hm.1 dX10_feed_88 (by decide) ?_
    refine kk_irem hm.1 dX10_feed_89 (by decide) ?_
    refine kk_imul hm.1 dX10_feed_90 ?_
    refine kk_isub hm.1 dX10_feed_91 ?_
    refine kk_ishr hm.1 dX10_feed_92 ?_
    refine kk_i2b hm.1 dX10_feed_93 ?_
    obtain ⟨o94, h⟩ := h
    refine kn_bastore hm.1 dX10_feed_94 o94 (fun i94 e94 => ?_)
    have h := h i94 e94
    refine kk_iinc (v := (x6 + (1 : Int32))) (L' := [(6, kw_i (x6 + (1 : Int32))), (0, kw_a a0), (1, kw_i x1), (2, kw_i x2), (3, kw_i x3), (4, kw_i x4), (5, kw_i x5)]) hm.1 6 dX10_feed_95 rfl rfl (by decide) rfl ?_
    refine kk_goto (tgt := 55) hm.1 dX10_feed_98 (by decide) ?_
    refine kk_loc (L' := [(0, kw_a a0), (1, kw_i x1), (2, kw_i x2), (3, kw_i x3), (4, kw_i x4), (5, kw_i x5), (6, kw_i (x6 + (1 : Int32)))]) [1, 2, 3, 4, 5, 6, 0] rfl ?_
    exact hk55 ((x6 + (1 : Int32))) i94 h
set_option maxHeartbeats 4000000 in
set_option maxRecDepth 100000 in
theorem q_X10_feed_55 {a0 : Nat} {x1 : Int32} {x2 : Int32} {x3 : Int32} {x4 : Int32} {x5 : Int32} {T : kw_T} {n : Nat} {r : kw_R} {w : kw_L} {Q : Int32 → kw_I → Prop} {E : kw_E} {G : kw_G} (hm : kw_m E G cX10_feed 7 RX10 (some .int) rm_X10_feed "feed")  (h0 : T a0 = (0, 10))    : ∀ (N : Nat) (x6 : Int32) (i : kw_I), w_X10_feed_55 a0 x1 x2 x3 x4 x5 T n r w Q  N x6 i → kw_K E G 7 0 0 (kw_Z E G 0 0 (kw_PI (fun v T' n' r' i' w' => T = T' ∧ n = n' ∧ r = r' ∧ w = w' ∧ Q v i'))) 55 [(0, kw_a a0), (1, kw_i x1), (2, kw_i x2), (3, kw_i x3), (4, kw_i x4), (5, kw_i x5), (6, kw_i x6)] [] T n r i w := by
  intro N
  induction N with
  | zero => intro x6 i h; exact h.elim
  | succ N ih => intro x6 i h; exact qs_X10_feed_55 hm  h0  ih x6 i h
set_option maxHeartbeats 4000000 in
set_option maxRecDepth 100000 in
theorem t_X10_feed {l : Launch} {G : kw_G} {a0 : Nat} {x1 : Int32} {x2 : Int32} {x3 : Int32} {x4 : Int32} {x5 : Int32} {T : kw_T} {n : Nat} {r : kw_R} {i : kw_I} {w : kw_L} {Q : Int32 → kw_I → Prop} (h0 : T a0 = (0, 10)) (h : w_X10_feed a0 x1 x2 x3 x4 x5 T n r i w Q) : kw_Met l G yX10_feed cX10_feed 7 (some .int) rm_X10_feed [kw_a a0, kw_i x1, kw_i x2, kw_i x3, kw_i x4, kw_i x5] (T, n, r, i, w) (kw_PI (fun v T' n' r' i' w' => T = T' ∧ n = n' ∧ r = r' ∧ w = w' ∧ Q v i')) := by
  refine kw_Met.of (by decide) (Nat.le_of_ble_eq_true rfl) fun E hl hRm hE hT hnm => ?_
  have hm : kw_m E G cX10_feed 7 RX10 (some .int) rm_X10_feed "feed" := ⟨hE, hT, hRm, hnm⟩
  subst hl
  show kw_K E G 7 0 0 (kw_Z E G 0 0 (kw_PI (fun v T' n' r' i' w' => T = T' ∧ n = n' ∧ r = r' ∧ w = w' ∧ Q v i'))) 0 [(0, kw_a a0), (1, kw_i x1), (2, kw_i x2), (3, kw_i x3), (4, kw_i x4), (5, kw_i x5)] [] T n r i w
  refine kk_aload_n hm.1 0 dX10_feed_0 rfl rfl ?_
  refine kk_getI hm.1 ff_X10_110 dX10_feed_1 h0 ?_
  refine kk_bipush (v := (20 : Int32)) hm.1 dX10_feed_4 (by decide) ?_
  refine kk_iadd hm.1 dX10_feed_6 ?_
  refine kk_sipush (v := (400 : Int32)) hm.1 dX10_feed_7 (by decide) ?_
  refine kk_icmp_le (tgt := 15) hm.1 dX10_feed_10 (by decide) (fun c10 => ?_) (fun c10 => ?_)
  · have h := h.1 c10
    refine kk_aload_n hm.1 0 dX10_feed_15 rfl rfl ?_
    refine kk_getR hm.1 ff_X10_34 dX10_feed_16 h0 ?_
    refine kk_iconst (v := (0 : Int32)) hm.1 dX10_feed_19 (by decide) ?_
    refine kk_iload_n hm.1 1 dX10_feed_20 rfl rfl ?_
    obtain ⟨o21, h⟩ := h
    refine kn_iastore hm.1 dX10_feed_21 o21 (fun i21 e21 => ?_)
    have h := h i21 e21
    refine kk_aload_n hm.1 0 dX10_feed_22 rfl rfl ?_
    refine kk_getR hm.1 ff_X10_34 dX10_feed_23 h0 ?_
    refine kk_iconst (v := (1 : Int32)) hm.1 dX10_feed_26 (by decide) ?_
    refine kk_iload_n hm.1 2 dX10_feed_27 rfl rfl ?_
    obtain ⟨o28, h⟩ := h
    refine kn_iastore hm.1 dX10_feed_28 o28 (fun i28 e28 => ?_)
    have h := h i28 e28
    refine kk_aload_n hm.1 0 dX10_feed_29 rfl rfl ?_
    refine kk_getR hm.1 ff_X10_34 dX10_feed_30 h0 ?_
    refine kk_iconst (v := (2 : Int32)) hm.1 dX10_feed_33 (by decide) ?_
    refine kk_iload_n hm.1 3 dX10_feed_34 rfl rfl ?_
    obtain ⟨o35, h⟩ := h
    refine kn_iastore hm.1 dX10_feed_35 o35 (fun i35 e35 => ?_)
    have h := h i35 e35
    refine kk_aload_n hm.1 0 dX10_feed_36 rfl rfl ?_
    refine kk_getR hm.1 ff_X10_34 dX10_feed_37 h0 ?_
    refine kk_iconst (v := (3 : Int32)) hm.1 dX10_feed_40 (by decide) ?_
    refine kk_iload hm.1 4 dX10_feed_41 rfl ?_
    obtain ⟨o43, h⟩ := h
    refine kn_iastore hm.1 dX10_feed_43 o43 (fun i43 e43 => ?_)
    have h := h i43 e43
    refine kk_aload_n hm.1 0 dX10_feed_44 rfl rfl ?_
    refine kk_getR hm.1 ff_X10_34 dX10_feed_45 h0 ?_
    refine kk_iconst (v := (4 : Int32)) hm.1 dX10_feed_48 (by decide) ?_
    refine kk_iload hm.1 5 dX10_feed_49 rfl ?_
    obtain ⟨o51, h⟩ := h
    refine kn_iastore hm.1 dX10_feed_51 o51 (fun i51 e51 => ?_)
    have h := h i51 e51
    refine kk_iconst (v := (0 : Int32)) hm.1 dX10_feed_52 (by decide) ?_
    refine kk_istore (L' := [(6, kw_i (0 : Int32)), (0, kw_a a0), (1, kw_i x1), (2, kw_i x2), (3, kw_i x3), (4, kw_i x4), (5, kw_i x5)]) hm.1 dX10_feed_53 (by decide) rfl ?_
    refine kk_loc (L' := [(0, kw_a a0), (1, kw_i x1), (2, kw_i x2), (3, kw_i x3), (4, kw_i x4), (5, kw_i x5), (6, kw_i (0 : Int32))]) [1, 2, 3, 4, 5, 6, 0] rfl ?_
    obtain ⟨N, h⟩ := h
    exact q_X10_feed_55 hm  h0   N ((0 : Int32)) i51 h
  · have h := h.2 c10
    refine kk_iconst (v := (-1 : Int32)) hm.1 dX10_feed_13 (by decide) ?_
    exact kk_iret hm.1 hm.2.1 dX10_feed_14 ⟨_, rfl, rfl, rfl, rfl, rfl, h⟩
def w_X10_end  (a0 : Nat) (x1 : Int32) (T : kw_T) (n : Nat) (r : kw_R) (i : kw_I) (w : kw_L) (Q : Int32 → kw_I → Prop) : Prop :=
  w_X10_lies x1 (0 : Int32) (i a0 9) T n r i w (fun v6 => (¬ v6 = 0 → ∀ i16 : kw_I, i16 = kw_st i a0 9 x1 → (Q x1 i16)) ∧ (v6 = 0 → Q (-1 : Int32) i))
abbrev rm_X10_end : Room := { frames := 2, cells := 0, slots := 0, locals := 82 }
set_option maxHeartbeats 4000000 in
set_option maxRecDepth 100000 in
theorem t_X10_end {l : Launch} {G : kw_G} {a0 : Nat} {x1 : Int32} {T : kw_T} {n : Nat} {r : kw_R} {i : kw_I} {w : kw_L} {Q : Int32 → kw_I → Prop} (h0 : T a0 = (0, 10)) (h : w_X10_end a0 x1 T n r i w Q) : kw_Met l G yX10_end cX10_end 2 (some .int) rm_X10_end [kw_a a0, kw_i x1] (T, n, r, i, w) (kw_PI (fun v T' n' r' i' w' => T = T' ∧ n = n' ∧ r = r' ∧ w = w' ∧ Q v i')) := by
  refine kw_Met.of (by decide) (Nat.le_of_ble_eq_true rfl) fun E hl hRm hE hT hnm => ?_
  have hm : kw_m E G cX10_end 2 RX10 (some .int) rm_X10_end "end" := ⟨hE, hT, hRm, hnm⟩
  subst hl
  show kw_K E G 2 0 0 (kw_Z E G 0 0 (kw_PI (fun v T' n' r' i' w' => T = T' ∧ n = n' ∧ r = r' ∧ w = w' ∧ Q v i'))) 0 [(0, kw_a a0), (1, kw_i x1)] [] T n r i w
  refine kk_iload_n hm.1 1 dX10_end_0 rfl rfl ?_
  refine kk_iconst (v := (0 : Int32)) hm.1 dX10_end_1 (by decide) ?_
  refine kk_aload_n hm.1 0 dX10_end_2 rfl rfl ?_
  refine kk_getI hm.1 ff_X10_110 dX10_end_3 h0 ?_
  refine kk_callSi (cs' := 0) (sl' := 0) (st := []) hm.1 cs_X10_73 (t_X10_lies h) dX10_end_6 rfl hm.2.2.1 ⟨by decide, by decide⟩ ⟨by decide, by decide⟩ rfl rfl (Nat.le_of_ble_eq_true rfl) rfl ?_
  rintro v6 _ _ _ _ _ ⟨rfl, rfl, rfl, rfl, rfl, h⟩
  refine kk_if_ne (tgt := 14) hm.1 dX10_end_9 (by decide) (fun c9 => ?_) (fun c9 => ?_)
  · have h := h.1 c9
    refine kk_aload_n hm.1 0 dX10_end_14 rfl rfl ?_
    refine kk_iload_n hm.1 1 dX10_end_15 rfl rfl ?_
    refine kn_putI hm.1 fp_X10_110 dX10_end_16 h0 (fun i16 e16 => ?_)
    have h := h i16 e16
    refine kk_iload_n hm.1 1 dX10_end_19 rfl rfl ?_
    exact kk_iret hm.1 hm.2.1 dX10_end_20 ⟨_, rfl, rfl, rfl, rfl, rfl, h⟩
  · have h := h.2 c9
    refine kk_iconst (v := (-1 : Int32)) hm.1 dX10_end_12 (by decide) ?_
    exact kk_iret hm.1 hm.2.1 dX10_end_13 ⟨_, rfl, rfl, rfl, rfl, rfl, h⟩
def w_X10_isSmall  (x0 : Int32) (T : kw_T) (n : Nat) (r : kw_R) (i : kw_I) (w : kw_L) (Q : Int32 → Prop) : Prop :=
  (x0 < (97 : Int32) → Q (0 : Int32)) ∧ (¬ x0 < (97 : Int32) → ((122 : Int32) < x0 → Q (0 : Int32)) ∧ (¬ (122 : Int32) < x0 → Q (1 : Int32)))
abbrev rm_X10_isSmall : Room := { frames := 1, cells := 0, slots := 0, locals := 60 }
set_option maxHeartbeats 4000000 in
set_option maxRecDepth 100000 in
theorem t_X10_isSmall {l : Launch} {G : kw_G} {x0 : Int32} {T : kw_T} {n : Nat} {r : kw_R} {i : kw_I} {w : kw_L} {Q : Int32 → Prop} (h : w_X10_isSmall x0 T n r i w Q) : kw_Met l G yX10_isSmall cX10_isSmall 1 (some .boolean) rm_X10_isSmall [kw_i x0] (T, n, r, i, w) (kw_PI (fun v T' n' r' i' w' => T = T' ∧ n = n' ∧ r = r' ∧ i = i' ∧ w = w' ∧ Q v)) := by
  refine kw_Met.of (by decide) (Nat.le_of_ble_eq_true rfl) fun E hl hRm hE hT hnm => ?_
  have hm : kw_m E G cX10_isSmall 1 RX10 (some .boolean) rm_X10_isSmall "isSmall" := ⟨hE, hT, hRm, hnm⟩
  subst hl
  show kw_K E G 1 0 0 (kw_Z E G 0 0 (kw_PI (fun v T' n' r' i' w' => T = T' ∧ n = n' ∧ r = r' ∧ i = i' ∧ w = w' ∧ Q v))) 0 [(0, kw_i x0)] [] T n r i w
  refine kk_iload_n hm.1 0 dX10_isSmall_0 rfl rfl ?_
  refine kk_bipush (v := (97 : Int32)) hm.1 dX10_isSmall_1 (by decide) ?_
  refine kk_icmp_lt (tgt := 16) hm.1 dX10_isSmall_3 (by decide) (fun c3 => ?_) (fun c3 => ?_)
  · have h := h.1 c3
    refine kk_iconst (v := (0 : Int32)) hm.1 dX10_isSmall_16 (by decide) ?_
    exact kk_zret hm.1 hm.2.1 dX10_isSmall_17 (Or.inl rfl) ⟨_, rfl, rfl, rfl, rfl, rfl, rfl, h⟩
  · have h := h.2 c3
    refine kk_iload_n hm.1 0 dX10_isSmall_6 rfl rfl ?_
    refine kk_bipush (v := (122 : Int32)) hm.1 dX10_isSmall_7 (by decide) ?_
    refine kk_icmp_gt (tgt := 16) hm.1 dX10_isSmall_9 (by decide) (fun c9 => ?_) (fun c9 => ?_)
    · have h := h.1 c9
      refine kk_iconst (v := (0 : Int32)) hm.1 dX10_isSmall_16 (by decide) ?_
      exact kk_zret hm.1 hm.2.1 dX10_isSmall_17 (Or.inl rfl) ⟨_, rfl, rfl, rfl, rfl, rfl, rfl, h⟩
    · have h := h.2 c9
      refine kk_iconst (v := (1 : Int32)) hm.1 dX10_isSmall_12 (by decide) ?_
      refine kk_goto (tgt := 17) hm.1 dX10_isSmall_13 (by decide) ?_
      exact kk_zret hm.1 hm.2.1 dX10_isSmall_17 (Or.inr rfl) ⟨_, rfl, rfl, rfl, rfl, rfl, rfl, h⟩
def w_X10_isDigit  (x0 : Int32) (T : kw_T) (n : Nat) (r : kw_R) (i : kw_I) (w : kw_L) (Q : Int32 → Prop) : Prop :=
  (x0 < (48 : Int32) → Q (0 : Int32)) ∧ (¬ x0 < (48 : Int32) → ((57 : Int32) < x0 → Q (0 : Int32)) ∧ (¬ (57 : Int32) < x0 → Q (1 : Int32)))
abbrev rm_X10_isDigit : Room := { frames := 1, cells := 0, slots := 0, locals := 60 }
set_option maxHeartbeats 4000000 in
set_option maxRecDepth 100000 in
theorem t_X10_isDigit {l : Launch} {G : kw_G} {x0 : Int32} {T : kw_T} {n : Nat} {r : kw_R} {i : kw_I} {w : kw_L} {Q : Int32 → Prop} (h : w_X10_isDigit x0 T n r i w Q) : kw_Met l G yX10_isDigit cX10_isDigit 1 (some .boolean) rm_X10_isDigit [kw_i x0] (T, n, r, i, w) (kw_PI (fun v T' n' r' i' w' => T = T' ∧ n = n' ∧ r = r' ∧ i = i' ∧ w = w' ∧ Q v)) := by
  refine kw_Met.of (by decide) (Nat.le_of_ble_eq_true rfl) fun E hl hRm hE hT hnm => ?_
  have hm : kw_m E G cX10_isDigit 1 RX10 (some .boolean) rm_X10_isDigit "isDigit" := ⟨hE, hT, hRm, hnm⟩
  subst hl
  show kw_K E G 1 0 0 (kw_Z E G 0 0 (kw_PI (fun v T' n' r' i' w' => T = T' ∧ n = n' ∧ r = r' ∧ i = i' ∧ w = w' ∧ Q v))) 0 [(0, kw_i x0)] [] T n r i w
  refine kk_iload_n hm.1 0 dX10_isDigit_0 rfl rfl ?_
  refine kk_bipush (v := (48 : Int32)) hm.1 dX10_isDigit_1 (by decide) ?_
  refine kk_icmp_lt (tgt := 16) hm.1 dX10_isDigit_3 (by decide) (fun c3 => ?_) (fun c3 => ?_)
  · have h := h.1 c3
    refine kk_iconst (v := (0 : Int32)) hm.1 dX10_isDigit_16 (by decide) ?_
    exact kk_zret hm.1 hm.2.1 dX10_isDigit_17 (Or.inl rfl) ⟨_, rfl, rfl, rfl, rfl, rfl, rfl, h⟩
  · have h := h.2 c3
    refine kk_iload_n hm.1 0 dX10_isDigit_6 rfl rfl ?_
    refine kk_bipush (v := (57 : Int32)) hm.1 dX10_isDigit_7 (by decide) ?_
    refine kk_icmp_gt (tgt := 16) hm.1 dX10_isDigit_9 (by decide) (fun c9 => ?_) (fun c9 => ?_)
    · have h := h.1 c9
      refine kk_iconst (v := (0 : Int32)) hm.1 dX10_isDigit_16 (by decide) ?_
      exact kk_zret hm.1 hm.2.1 dX10_isDigit_17 (Or.inl rfl) ⟨_, rfl, rfl, rfl, rfl, rfl, rfl, h⟩
    · have h := h.2 c9
      refine kk_iconst (v := (1 : Int32)) hm.1 dX10_isDigit_12 (by decide) ?_
      refine kk_goto (tgt := 17) hm.1 dX10_isDigit_13 (by decide) ?_
      exact kk_zret hm.1 hm.2.1 dX10_isDigit_17 (Or.inr rfl) ⟨_, rfl, rfl, rfl, rfl, rfl, rfl, h⟩
