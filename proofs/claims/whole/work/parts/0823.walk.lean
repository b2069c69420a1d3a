def w_X10_drawn_28 (a0 : Nat) (x1 : Int32) (x2 : Int32) (T : kw_T) (n : Nat) (r : kw_R) (i : kw_I) (w : kw_L) (Q : Int32 → Prop)   : Prop :=
  (¬ x2 = (-1 : Int32) → kw_in T 1 (r a0 25) (((36 : Int32) * (x1 + (1 : Int32))) + x2) ∧ (Q (i (r a0 25) ((((36 : Int32) * (x1 + (1 : Int32))) + x2)).toNatClampNeg))) ∧ (x2 = (-1 : Int32) → kw_in T 1 (r a0 26) x1 ∧ (Q (i (r a0 26) (x1).toNatClampNeg)))
def w_X10_drawn  (a0 : Nat) (x1 : Int32) (x2 : Int32) (T : kw_T) (n : Nat) (r : kw_R) (i : kw_I) (w : kw_L) (Q : Int32 → Prop) : Prop :=
  w_X10_lies x1 (0 : Int32) ((i a0 36) - (1 : Int32)) T n r i w (fun v8 => (v8 = 0 → Q (-1 : Int32)) ∧ (¬ v8 = 0 → (x2 = (-1 : Int32) → w_X10_drawn_28 a0 x1 x2 T n r i w Q  ) ∧ (¬ x2 = (-1 : Int32) → w_X10_isCell x2 T n r i w (fun v20 => (¬ v20 = 0 → w_X10_drawn_28 a0 x1 x2 T n r i w Q  ) ∧ (v20 = 0 → Q (-1 : Int32))))))
abbrev rm_X10_drawn : Room := { frames := 3, cells := 0, slots := 0, locals := 102 }
set_option maxHeartbeats 4000000 in
set_option maxRecDepth 100000 in
theorem q_X10_drawn_28 {a0 : Nat} {x1 : Int32} {x2 : Int32} {T : kw_T} {n : Nat} {r : kw_R} {i : kw_I} {w : kw_L} {Q : Int32 → Prop} {E : kw_E} {G : kw_G} (hm : kw_m E G cX10_drawn 3 RX10 (some .int) rm_X10_drawn "drawn")  (h0 : T a0 = (0, 10))     (h : w_X10_drawn_28 a0 x1 x2 T n r i w Q  ) : kw_K E G 3 0 0 (kw_Z E G 0 0 (kw_PI (fun v T' n' r' i' w' => T = T' ∧ n = n' ∧ r = r' ∧ i = i' ∧ w = w' ∧ Q v))) 28 [(0, kw_a a0), (1, kw_i x1), (2, kw_i x2)] [] T n r i w := by
  refine kk_iload_n hm.1 2 dX10_drawn_28 rfl rfl ?_
  refine kk_iconst (v := (-1 : Int32)) hm.1 dX10_drawn_29 (by decide) ?_
  refine kk_icmp_ne (tgt := 42) hm.1 dX10_drawn_30 (by decide) (fun c30 => ?_) (fun c30 => ?_)
  · have h := h.1 c30
    refine kk_aload_n hm.1 0 dX10_drawn_42 rfl rfl ?_
    refine kk_getR hm.1 ff_X10_61 dX10_drawn_43 h0 ?_
    refine kk_bipush (v := (36 : Int32)) hm.1 dX10_drawn_46 (by decide) ?_
    refine kk_iload_n hm.1 1 dX10_drawn_48 rfl rfl ?_
    refine kk_iconst (v := (1 : Int32)) hm.1 dX10_drawn_49 (by decide) ?_
    refine kk_iadd hm.1 dX10_drawn_50 ?_
    refine kk_imul hm.1 dX10_drawn_51 ?_
    refine kk_iload_n hm.1 2 dX10_drawn_52 rfl rfl ?_
    refine kk_iadd hm.1 dX10_drawn_53 ?_
    obtain ⟨o54, h⟩ := h
    refine kk_iaload hm.1 dX10_drawn_54 o54 ?_
    exact kk_iret hm.1 hm.2.1 dX10_drawn_55 ⟨_, rfl, rfl, rfl, rfl, rfl, rfl, h⟩
  · have h := h.2 c30
    refine kk_aload_n hm.1 0 dX10_drawn_33 rfl rfl ?_
    refine kk_getR hm.1 ff_X10_64 dX10_drawn_34 h0 ?_
    refine kk_iload_n hm.1 1 dX10_drawn_37 rfl rfl ?_
    obtain ⟨o38, h⟩ := h
    refine kk_iaload hm.1 dX10_drawn_38 o38 ?_
    refine kk_goto (tgt := 55) hm.1 dX10_drawn_39 (by decide) ?_
    exact kk_iret hm.1 hm.2.1 dX10_drawn_55 ⟨_, rfl, rfl, rfl, rfl, rfl, rfl, h⟩
set_option maxHeartbeats 4000000 in
set_option maxRecDepth 100000 in
theorem t_X10_drawn {l : Launch} {G : kw_G} {a0 : Nat} {x1 : Int32} {x2 : Int32} {T : kw_T} {n : Nat} {r : kw_R} {i : kw_I} {w : kw_L} {Q : Int32 → Prop} (h0 : T a0 = (0, 10)) (h : w_X10_drawn a0 x1 x2 T n r i w Q) : kw_Met l G yX10_drawn cX10_drawn 3 (some .int) rm_X10_drawn [kw_a a0, kw_i x1, kw_i x2] (T, n, r, i, w) (kw_PI (fun v T' n' r' i' w' => T = T' ∧ n = n' ∧ r = r' ∧ i = i' ∧ w = w' ∧ Q v)) := by
  refine kw_Met.of (by decide) (Nat.le_of_ble_eq_true rfl) fun E hl hRm hE hT hnm => ?_
  have hm : kw_m E G cX10_drawn 3 RX10 (some .int) rm_X10_drawn "drawn" := ⟨hE, hT, hRm, hnm⟩
  subst hl
  show kw_K E G 3 0 0 (kw_Z E G 0 0 (kw_PI (fun v T' n' r' i' w' => T = T' ∧ n = n' ∧ r = r' ∧ i = i' ∧ w = w' ∧ Q v))) 0 [(0, kw_a a0), (1, kw_i x1), (2, kw_i x2)] [] T n r i w
  refine kk_iload_n hm.1 1 dX10_drawn_0 rfl rfl ?_
  refine kk_iconst (v := (0 : Int32)) hm.1 dX10_drawn_1 (by decide) ?_
  refine kk_aload_n hm.1 0 dX10_drawn_2 rfl rfl ?_
  refine kk_getI hm.1 ff_X10_322 dX10_drawn_3 h0 ?_
  refine kk_iconst (v := (1 : Int32)) hm.1 dX10_drawn_6 (by decide) ?_
  refine kk_isub hm.1 dX10_drawn_7 ?_
  refine kk_callSi (cs' := 0) (sl' := 0) (st := []) hm.1 cs_X10_73 (t_X10_lies h) dX10_drawn_8 rfl hm.2.2.1 ⟨by decide, by decide⟩ ⟨by decide, by decide⟩ rfl rfl (Nat.le_of_ble_eq_true rfl) rfl ?_
  rintro v8 _ _ _ _ _ ⟨rfl, rfl, rfl, rfl, rfl, h⟩
  refine kk_if_eq (tgt := 26) hm.1 dX10_drawn_11 (by decide) (fun c11 => ?_) (fun c11 => ?_)
  · have h := h.1 c11
    refine kk_iconst (v := (-1 : Int32)) hm.1 dX10_drawn_26 (by decide) ?_
    exact kk_iret hm.1 hm.2.1 dX10_drawn_27 ⟨_, rfl, rfl, rfl, rfl, rfl, rfl, h⟩
  · have h := h.2 c11
    refine kk_iload_n hm.1 2 dX10_drawn_14 rfl rfl ?_
    refine kk_iconst (v := (-1 : Int32)) hm.1 dX10_drawn_15 (by decide) ?_
    refine kk_icmp_eq (tgt := 28) hm.1 dX10_drawn_16 (by decide) (fun c16 => ?_) (fun c16 => ?_)
    · have h := h.1 c16
      exact q_X10_drawn_28 hm  h0    h
    · have h := h.2 c16
      refine kk_iload_n hm.1 2 dX10_drawn_19 rfl rfl ?_
      refine kk_callSi (cs' := 0) (sl' := 0) (st := []) hm.1 cs_X10_104 (t_X10_isCell h) dX10_drawn_20 rfl hm.2.2.1 ⟨by decide, by decide⟩ ⟨by decide, by decide⟩ rfl rfl (Nat.le_of_ble_eq_true rfl) rfl ?_
      rintro v20 _ _ _ _ _ ⟨rfl, rfl, rfl, rfl, rfl, h⟩
      refine kk_if_ne (tgt := 28) hm.1 dX10_drawn_23 (by decide) (fun c23 => ?_) (fun c23 => ?_)
      · have h := h.1 c23
        exact q_X10_drawn_28 hm  h0    h
      · have h := h.2 c23
        refine kk_iconst (v := (-1 : Int32)) hm.1 dX10_drawn_26 (by decide) ?_
        exact kk_iret hm.1 hm.2.1 dX10_drawn_27 ⟨_, rfl, rfl, rfl, rfl, rfl, rfl, h⟩
def w_X10_count  (a0 : Nat) (x1 : Int32) (T : kw_T) (n : Nat) (r : kw_R) (i : kw_I) (w : kw_L) (Q : Int32 → Prop) : Prop :=
  (x1 = (0 : Int32) → w_X10_villages a0 T n r i w (fun v57 => Q v57)) ∧ (x1 = (1 : Int32) → kw_in T 1 (r a0 2) (179 : Int32) ∧ (Q (i (r a0 2) ((179 : Int32)).toNatClampNeg))) ∧ (x1 = (2 : Int32) → Q (i a0 9)) ∧ (x1 = (3 : Int32) → kw_in T 1 (r a0 1) (x1 - (2 : Int32)) ∧ (Q (i (r a0 1) ((x1 - (2 : Int32))).toNatClampNeg))) ∧ (x1 = (4 : Int32) → kw_in T 1 (r a0 1) (x1 - (2 : Int32)) ∧ (Q (i (r a0 1) ((x1 - (2 : Int32))).toNatClampNeg))) ∧ (x1 = (5 : Int32) → kw_in T 1 (r a0 1) x1 ∧ (Q (i (r a0 1) (x1).toNatClampNeg))) ∧ (x1 = (6 : Int32) → kw_in T 1 (r a0 1) x1 ∧ (Q (i (r a0 1) (x1).toNatClampNeg))) ∧ (x1 = (7 : Int32) → kw_in T 1 (r a0 2) (180 : Int32) ∧ (Q (i (r a0 2) ((180 : Int32)).toNatClampNeg))) ∧ (x1 = (8 : Int32) → kw_in T 1 (r a0 2) (((176 : Int32) + x1) - (8 : Int32)) ∧ (Q (i (r a0 2) ((((176 : Int32) + x1) - (8 : Int32))).toNatClampNeg))) ∧ (x1 = (9 : Int32) → kw_in T 1 (r a0 2) (((176 : Int32) + x1) - (8 : Int32)) ∧ (Q (i (r a0 2) ((((176 : Int32) + x1) - (8 : Int32))).toNatClampNeg))) ∧ ((x1.toInt < 0 ∨ 9 < x1.toInt) → Q (-1 : Int32))
abbrev rm_X10_count : Room := { frames := 2, cells := 0, slots := 0, locals := 80 }
set_option maxHeartbeats 4000000 in
set_option maxRecDepth 100000 in
theorem t_X10_count {l : Launch} {G : kw_G} {a0 : Nat} {x1 : Int32} {T : kw_T} {n : Nat} {r : kw_R} {i : kw_I} {w : kw_L} {Q : Int32 → Prop} (h0 : T a0 = (0, 10)) (h : w_X10_count a0 x1 T n r i w Q) : kw_Met l G yX10_count cX10_count 2 (some .int) rm_X10_count [kw_a a0, kw_i x1] (T, n, r, i, w) (kw_PI (fun v T' n' r' i' w' => T = T' ∧ n = n' ∧ r = r' ∧ i = i' ∧ w = w' ∧ Q v)) := by
  refine kw_Met.of (by decide) (Nat.le_of_ble_eq_true rfl) fun E hl hRm hE hT hnm => ?_
  have hm : kw_m E G cX10_count 2 RX10 (some .int) rm_X10_count "count" := ⟨hE, hT, hRm, hnm⟩
  subst hl
  show kw_K E G 2 0 0 (kw_Z E G 0 0 (kw_PI (fun v T' n' r' i' w' => T = T' ∧ n = n' ∧ r = r' ∧ i = i' ∧ w = w' ∧ Q v))) 0 [(0, kw_a a0), (1, kw_i x1)] [] T n r i w
  refine kk_iload_n hm.1 1 dX10_count_0 rfl rfl ?_
  by_cases c1_0 : x1 = (0 : Int32)
  · have h := h.1 c1_0
    refine kk_tin (tgt := 56) hm.1 dX10_count_1 (by rw [c1_0]; decide) (by rw [c1_0]; decide) (by rw [c1_0]; rfl) (by decide) ?_
    refine kk_aload_n hm.1 0 dX10_count_56 rfl rfl ?_
    refine kk_callVi (cs' := 0) (sl' := 0) (st := []) hm.1 cv_X10_84 (t_X10_villages h0 h) dX10_count_57 h0 rfl rfl hm.2.2.1 ⟨by decide, by decide⟩ ⟨by decide, by decide⟩ rfl rfl (Nat.le_of_ble_eq_true rfl) rfl ?_
    rintro v57 _ _ _ _ _ ⟨rfl, rfl, rfl, rfl, rfl, h⟩
    exact kk_iret hm.1 hm.2.1 dX10_count_60 ⟨_, rfl, rfl, rfl, rfl, rfl, rfl, h⟩
  by_cases c1_1 : x1 = (1 : Int32)
  · have h := h.2.1 c1_1
    refine kk_tin (tgt := 61) hm.1 dX10_count_1 (by rw [c1_1]; decide) (by rw [c1_1]; decide) (by rw [c1_1]; rfl) (by decide) ?_
    refine kk_aload_n hm.1 0 dX10_count_61 rfl rfl ?_
    refine kk_getR hm.1 ff_X10_17 dX10_count_62 h0 ?_
    refine kk_sipush (v := (179 : Int32)) hm.1 dX10_count_65 (by decide) ?_
    obtain ⟨o68, h⟩ := h
    refine kk_iaload hm.1 dX10_count_68 o68 ?_
    exact kk_iret hm.1 hm.2.1 dX10_count_69 ⟨_, rfl, rfl, rfl, rfl, rfl, rfl, h⟩
  by_cases c1_2 : x1 = (2 : Int32)
  · have h := h.2.2.1 c1_2
    refine kk_tin (tgt := 70) hm.1 dX10_count_1 (by rw [c1_2]; decide) (by rw [c1_2]; decide) (by rw [c1_2]; rfl) (by decide) ?_
    refine kk_aload_n hm.1 0 dX10_count_70 rfl rfl ?_
    refine kk_getI hm.1 ff_X10_110 dX10_count_71 h0 ?_
    exact kk_iret hm.1 hm.2.1 dX10_count_74 ⟨_, rfl, rfl, rfl, rfl, rfl, rfl, h⟩
  by_cases c1_3 : x1 = (3 : Int32)
  · have h := h.2.2.2.1 c1_3
    refine kk_tin (tgt := 75) hm.1 dX10_count_1 (by rw [c1_3]; decide) (by rw [c1_3]; decide) (by rw [c1_3]; rfl) (by decide) ?_
    refine kk_aload_n hm.1 0 dX10_count_75 rfl rfl ?_
    refine kk_getR hm.1 ff_X10_7 dX10_count_76 h0 ?_
    refine kk_iload_n hm.1 1 dX10_count_79 rfl rfl ?_
    refine kk_iconst (v := (2 : Int32)) hm.1 dX10_count_80 (by decide) ?_
    refine kk_isub hm.1 dX10_count_81 ?_
    obtain ⟨o82, h⟩ := h
    refine kk_iaload hm.1 dX10_count_82 o82 ?_
    exact kk_iret hm.1 hm.2.1 dX10_count_83 ⟨_, rfl, rfl, rfl, rfl, rfl, rfl, h⟩
  by_cases c1_4 : x1 = (4 : Int32)
  · have h := h.2.2.2.2.1 c1_4
    refine kk_tin (tgt := 75) hm.1 dX10_count_1 (by rw [c1_4]; decide) (by rw [c1_4]; decide) (by rw [c1_4]; rfl) (by decide) ?_
    refine kk_aload_n hm.1 0 dX10_count_75 rfl rfl ?_
    refine kk_getR hm.1 ff_X10_7 dX10_count_76 h0 ?_
    refine kk_iload_n hm.1 1 dX10_count_79 rfl rfl ?_
    refine kk_iconst (v := (2 : Int32)) hm.1 dX10_count_80 (by decide) ?_
    refine kk_isub hm.1 dX10_count_81 ?_
    obtain ⟨o82, h⟩ := h
    refine kk_iaload hm.1 dX10_count_82 o82 ?_
    exact kk_iret hm.1 hm.2.1 dX10_count_83 ⟨_, rfl, rfl, rfl, rfl, rfl, rfl, h⟩
  by_cases c1_5 : x1 = (5 : Int32)
  · have h := h.2.2.2.2.2.1 c1_5
    refine kk_tin (tgt := 84) hm.1 dX10_count_1 (by rw [c1_5]; decide) (by rw [c1_5]; decide) (by rw [c1_5]; rfl) (by decide) ?_
    refine kk_aload_n hm.1 0 dX10_count_84 rfl rfl ?_
    refine kk_getR hm.1 ff_X10_7 dX10_count_85 h0 ?_
    refine kk_iload_n hm.1 1 dX10_count_88 rfl rfl ?_
    obtain ⟨o89, h⟩ := h
    refine kk_iaload hm.1 dX10_count_89 o89 ?_
    exact kk_iret hm.1 hm.2.1 dX10_count_90 ⟨_, rfl, rfl, rfl, rfl, rfl, rfl, h⟩
  by_cases c1_6 : x1 = (6 : Int32)
  · have h := h.2.2.2.2.2.2.1 c1_6
    refine kk_tin (tgt := 84) hm.1 dX10_count_1 (by rw [c1_6]; decide) (by rw [c1_6]; decide) (by rw [c1_6]; rfl) (by decide) ?_
    refine kk_aload_n hm.1 0 dX10_count_84 rfl rfl ?_
    refine kk_getR hm.1 ff_X10_7 dX10_count_85 h0 ?_
    refine kk_iload_n hm.1 1 dX10_count_88 rfl rfl ?_
    obtain ⟨o89, h⟩ := h
    refine kk_iaload hm.1 dX10_count_89 o89 ?_
    exact kk_iret hm.1 hm.2.1 dX10_count_90 ⟨_, rfl, rfl, rfl, rfl, rfl, rfl, h⟩
  by_cases c1_7 : x1 = (7 : Int32)
  · have h := h.2.2.2.2.2.2.2.1 c1_7
    refine kk_tin (tgt := 91) hm.1 dX10_count_1 (by rw [c1_7]; decide) (by rw [c1_7]; decide) (by rw [c1_7]; rfl) (by decide) ?_
    refine kk_aload_n hm.1 0 dX10_count_91 rfl rfl ?_
    refine kk_getR hm.1 ff_X10_17 dX10_count_92 h0 ?_
    refine kk_sipush (v := (180 : Int32)) hm.1 dX10_count_95 (by decide) ?_
    obtain ⟨o98, h⟩ := h
    refine kk_iaload hm.1 dX10_count_98 o98 ?_
    exact kk_iret hm.1 hm.2.1 dX10_count_99 ⟨_, rfl, rfl, rfl, rfl, rfl, rfl, h⟩
  by_cases c1_8 : x1 = (8 : Int32)
  · have h := h.2.2.2.2.2.2.2.2.1 c1_8
    refine kk_tin (tgt := 100) hm.1 dX10_count_1 (by rw [c1_8]; decide) (by rw [c1_8]; decide) (by rw [c1_8]; rfl) (by decide) ?_
    refine kk_aload_n hm.1 0 dX10_count_100 rfl rfl ?_
    refine kk_getR hm.1 ff_X10_17 dX10_count_101 h0 ?_
    refine kk_sipush (v := (176 : Int32)) hm.1 dX10_count_104 (by decide) ?_
    refine kk_iload_n hm.1 1 dX10_count_107 rfl rfl ?_
    refine kk_iadd hm.1 dX10_count_108 ?_
    refine kk_bipush (v := (8 : Int32)) hm.1 dX10_count_109 (by decide) ?_
    refine kk_isub hm.1 dX10_count_111 ?_
    obtain ⟨o112, h⟩ := h
    refine kk_iaload hm.1 dX10_count_112 o112 ?_
    exact kk_iret hm.1 hm.2.1 dX10_count_113 ⟨_, rfl, rfl, rfl, rfl, rfl, rfl, h⟩
  by_cases c1_9 : x1 = (9 : Int32)
  · have h := h.2.2.2.2.2.2.2.2.2.1 c1_9
    refine kk_tin (tgt := 100) hm.1 dX10_count_1 (by rw [c1_9]; decide) (by rw [c1_9]; decide) (by rw [c1_9]; rfl) (by decide) ?_
    refine kk_aload_n hm.1 0 dX10_count_100 rfl rfl ?_
    refine kk_getR hm.1 ff_X10_17 dX10_count_101 h0 ?_
    refine kk_sipush (v := (176 : Int32)) hm.1 dX10_count_104 (by decide) ?_
    refine kk_iload_n hm.1 1 dX10_count_107 rfl rfl ?_
    refine kk_iadd hm.1 dX10_count_108 ?_
    refine kk_bipush (v := (8 : Int32)) hm.1 dX10_count_109 (by decide) ?_
    refine kk_isub hm.1 dX10_count_111 ?_
    obtain ⟨o112, h⟩ := h
    refine kk_iaload hm.1 dX10_count_112 o112 ?_
    exact kk_iret hm.1 hm.2.1 dX10_count_113 ⟨_, rfl, rfl, rfl, rfl, rfl, rfl, h⟩
  have c1 : x1.toInt < 0 ∨ 9 < x1.toInt := by
    have e0 := lv_neT c1_0 (a := 0) rfl
    have e1 := lv_neT c1_1 (a := 1) rfl
    have e2 := lv_neT c1_2 (a := 2) rfl
    have e3 := lv_neT c1_3 (a := 3) rfl
    have e4 := lv_neT c1_4 (a := 4) rfl
    have e5 := lv_neT c1_5 (a := 5) rfl
    have e6 := lv_neT c1_6 (a := 6) rfl
    have e7 := lv_neT c1_7 (a := 7) rfl
    have e8 := lv_neT c1_8 (a := 8) rfl
    have e9 := lv_neT c1_9 (a := 9) rfl
    omega
  have h := h.2.2.2.2.2.2.2.2.2.2 c1
  refine kk_tout (tgt := 114) hm.1 dX10_count_1 c1 (by decide) ?_
  refine kk_iconst (v := (-1 : Int32)) hm.1 dX10_count_114 (by decide) ?_
  exact kk_iret hm.1 hm.2.1 dX10_count_115 ⟨_, rfl, rfl, rfl, rfl, rfl, rfl, h⟩
def w_X10_status  (a0 : Nat) (T : kw_T) (n : Nat) (r : kw_R) (i : kw_I) (w : kw_L) (Q : Int32 → Prop) : Prop :=
  Q (i a0 0)
abbrev rm_X10_status : Room := { frames := 1, cells := 0, slots := 0, locals := 60 }
set_option maxHeartbeats 4000000 in
set_option maxRecDepth 100000 in
theorem t_X10_status {l : Launch} {G : kw_G} {a0 : Nat} {T : kw_T} {n : Nat} {r : kw_R} {i : kw_I} {w : kw_L} {Q : Int32 → Prop} (h0 : T a0 = (0, 10)) (h : w_X10_status a0 T n r i w Q) : kw_Met l G yX10_status cX10_status 1 (some .int) rm_X10_status [kw_a a0] (T, n, r, i, w) (kw_PI (fun v T' n' r' i' w' => T = T' ∧ n = n' ∧ r = r' ∧ i = i' ∧ w = w' ∧ Q v)) := by
  refine kw_Met.of (by decide) (Nat.le_of_ble_eq_true rfl) fun E hl hRm hE hT hnm => ?_
  have hm : kw_m E G cX10_status 1 RX10 (some .int) rm_X10_status "status" := ⟨hE, hT, hRm, hnm⟩
  subst hl
  show kw_K E G 1 0 0 (kw_Z E G 0 0 (kw_PI (fun v T' n' r' i' w' => T = T' ∧ n = n' ∧ r = r' ∧ i = i' ∧ w = w' ∧ Q v))) 0 [(0, kw_a a0)] [] T n r i w
  refine kk_aload_n hm.1 0 dX10_status_0 rfl rfl ?_
  refine kk_getI hm.1 ff_X10_3 dX10_status_1 h0 ?_
  exact kk_iret hm.1 hm.2.1 dX10_status_4 ⟨_, rfl, rfl, rfl, rfl, rfl, rfl, h⟩
