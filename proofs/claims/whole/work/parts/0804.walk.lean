def w_X3_seamsAround_76 (a0 : Nat) (x1 : Int32) (T : kw_T) (n : Nat) (r : kw_R) (i : kw_I) (w : kw_L) (Q : Int32 → Prop)  (x2 : Int32) (x3 : Int32) : Prop :=
  ((36 : Int32) ≤ (x1 + (6 : Int32)) → Q x3) ∧ (¬ (36 : Int32) ≤ (x1 + (6 : Int32)) → kw_in T 1 (r a0 4) (x1 + (6 : Int32)) ∧ (w_X9_seam x2 (i (r a0 4) ((x1 + (6 : Int32))).toNatClampNeg) T n r i w (fun v96 => Q (x3 + v96))))
def w_X3_seamsAround_54 (a0 : Nat) (x1 : Int32) (T : kw_T) (n : Nat) (r : kw_R) (i : kw_I) (w : kw_L) (Q : Int32 → Prop)  (x2 : Int32) (x3 : Int32) : Prop :=
  (x1 < (6 : Int32) → w_X3_seamsAround_76 a0 x1 T n r i w Q  x2 x3) ∧ (¬ x1 < (6 : Int32) → kw_in T 1 (r a0 4) (x1 - (6 : Int32)) ∧ (w_X9_seam x2 (i (r a0 4) ((x1 - (6 : Int32))).toNatClampNeg) T n r i w (fun v71 => w_X3_seamsAround_76 a0 x1 T n r i w Q  x2 ((x3 + v71)))))
def w_X3_seamsAround_31 (a0 : Nat) (x1 : Int32) (T : kw_T) (n : Nat) (r : kw_R) (i : kw_I) (w : kw_L) (Q : Int32 → Prop)  (x2 : Int32) (x3 : Int32) : Prop :=
  ((5 : Int32) ≤ (x1 - x1 / (6 : Int32) * (6 : Int32)) → w_X3_seamsAround_54 a0 x1 T n r i w Q  x2 x3) ∧ (¬ (5 : Int32) ≤ (x1 - x1 / (6 : Int32) * (6 : Int32)) → kw_in T 1 (r a0 4) (x1 + (1 : Int32)) ∧ (w_X9_seam x2 (i (r a0 4) ((x1 + (1 : Int32))).toNatClampNeg) T n r i w (fun v49 => w_X3_seamsAround_54 a0 x1 T n r i w Q  x2 ((x3 + v49)))))
def w_X3_seamsAround  (a0 : Nat) (x1 : Int32) (T : kw_T) (n : Nat) (r : kw_R) (i : kw_I) (w : kw_L) (Q : Int32 → Prop) : Prop :=
  kw_in T 1 (r a0 4) x1 ∧ (((x1 - x1 / (6 : Int32) * (6 : Int32)) ≤ 0 → w_X3_seamsAround_31 a0 x1 T n r i w Q  ((i (r a0 4) (x1).toNatClampNeg)) ((0 : Int32))) ∧ (¬ (x1 - x1 / (6 : Int32) * (6 : Int32)) ≤ 0 → kw_in T 1 (r a0 4) (x1 - (1 : Int32)) ∧ (w_X9_seam (i (r a0 4) (x1).toNatClampNeg) (i (r a0 4) ((x1 - (1 : Int32))).toNatClampNeg) T n r i w (fun v26 => w_X3_seamsAround_31 a0 x1 T n r i w Q  ((i (r a0 4) (x1).toNatClampNeg)) (((0 : Int32) + v26))))))
abbrev rm_X3_seamsAround : Room := { frames := 2, cells := 0, slots := 0, locals := 81 }
set_option maxHeartbeats 4000000 in
set_option maxRecDepth 100000 in
theorem q_X3_seamsAround_76 {a0 : Nat} {x1 : Int32} {T : kw_T} {n : Nat} {r : kw_R} {i : kw_I} {w : kw_L} {Q : Int32 → Prop} {E : kw_E} {G : kw_G} (hm : kw_m E G cX3_seamsAround 4 RX3 (some .int) rm_X3_seamsAround "seamsAround")  (h0 : T a0 = (0, 3))    (x2 : Int32) (x3 : Int32) (h : w_X3_seamsAround_76 a0 x1 T n r i w Q  x2 x3) : kw_K E G 4 0 0 (kw_Z E G 0 0 (kw_PI (fun v T' n' r' i' w' => T = T' ∧ n = n' ∧ r = r' ∧ i = i' ∧ w = w' ∧ Q v))) 76 [(0, kw_a a0), (1, kw_i x1), (2, kw_i x2), (3, kw_i x3)] [] T n r i w := by
  refine kk_iload_n hm.1 1 dX3_seamsAround_76 rfl rfl ?_
  refine kk_bipush (v := (6 : Int32)) hm.1 dX3_seamsAround_77 (by decide) ?_
  refine kk_iadd hm.1 dX3_seamsAround_79 ?_
  refine kk_bipush (v := (36 : Int32)) hm.1 dX3_seamsAround_80 (by decide) ?_
  refine kk_icmp_ge (tgt := 101) hm.1 dX3_seamsAround_82 (by decide) (fun c82 => ?_) (fun c82 => ?_)
  · have h := h.1 c82
    refine kk_iload_n hm.1 3 dX3_seamsAround_101 rfl rfl ?_
    exact kk_iret hm.1 hm.2.1 dX3_seamsAround_102 ⟨_, rfl, rfl, rfl, rfl, rfl, rfl, h⟩
  · have h := h.2 c82
    refine kk_iload_n hm.1 3 dX3_seamsAround_85 rfl rfl ?_
    refine kk_iload_n hm.1 2 dX3_seamsAround_86 rfl rfl ?_
    refine kk_aload_n hm.1 0 dX3_seamsAround_87 rfl rfl ?_
    refine kk_getR hm.1 ff_X3_24 dX3_seamsAround_88 h0 ?_
    refine kk_iload_n hm.1 1 dX3_seamsAround_91 rfl rfl ?_
    refine kk_bipush (v := (6 : Int32)) hm.1 dX3_seamsAround_92 (by decide) ?_
    refine kk_iadd hm.1 dX3_seamsAround_94 ?_
    obtain ⟨o95, h⟩ := h
    refine kk_iaload hm.1 dX3_seamsAround_95 o95 ?_
    refine kk_callSi (cs' := 0) (sl' := 0) (st := [kw_i x3]) hm.1 cs_X3_59 (t_X9_seam h) dX3_seamsAround_96 rfl hm.2.2.1 ⟨by decide, by decide⟩ ⟨by decide, by decide⟩ rfl rfl (Nat.le_of_ble_eq_true rfl) rfl ?_
    rintro v96 _ _ _ _ _ ⟨rfl, rfl, rfl, rfl, rfl, h⟩
    refine kk_iadd hm.1 dX3_seamsAround_99 ?_
    refine kk_istore_n (L' := [(3, kw_i (x3 + v96)), (0, kw_a a0), (1, kw_i x1), (2, kw_i x2)]) hm.1 dX3_seamsAround_100 rfl (by decide) rfl ?_
    refine kk_iload_n hm.1 0 dX3_seamsAround_101 rfl rfl ?_
    exact kk_iret hm.1 hm.2.1 dX3_seamsAround_102 ⟨_, rfl, rfl, rfl, rfl, rfl, rfl, h⟩
set_option maxHeartbeats 4000000 in
set_option maxRecDepth 100000 in
theorem q_X3_seamsAround_54 {a0 : Nat} {x1 : Int32} {T : kw_T} {n : Nat} {r : kw_R} {i : kw_I} {w : kw_L} {Q : Int32 → Prop} {E : kw_E} {G : kw_G} (hm : kw_m E G cX3_seamsAround 4 RX3 (some .int) rm_X3_seamsAround "seamsAround")  (h0 : T a0 = (0, 3))    (x2 : Int32) (x3 : Int32) (h : w_X3_seamsAround_54 a0 x1 T n r i w Q  x2 x3) : kw_K E G 4 0 0 (kw_Z E G 0 0 (kw_PI (fun v T' n' r' i' w' => T = T' ∧ n = n' ∧ r = r' ∧ i = i' ∧ w = w' ∧ Q v))) 54 [(0, kw_a a0), (1, kw_i x1), (2, kw_i x2), (3, kw_i x3)] [] T n r i w := by
  refine kk_iload_n hm.1 1 dX3_seamsAround_54 rfl rfl ?_
  refine kk_bipush (v := (6 : Int32)) hm.1 dX3_seamsAround_55 (by decide) ?_
  refine kk_icmp_lt (tgt := 76) hm.1 dX3_seamsAround_57 (by decide) (fun c57 => ?_) (fun c57 => ?_)
  · have h := h.1 c57
    exact q_X3_seamsAround_76 hm  h0   x2 x3 h
  · have h := h.2 c57
    refine kk_iload_n hm.1 3 dX3_seamsAround_60 rfl rfl ?_
    refine kk_iload_n hm.1 2 dX3_seamsAround_61 rfl rfl ?_
    refine kk_aload_n hm.1 0 dX3_seamsAround_62 rfl rfl ?_
    refine kk_getR hm.1 ff_X3_24 dX3_seamsAround_63 h0 ?_
    refine kk_iload_n hm.1 1 dX3_seamsAround_66 rfl rfl ?_
    refine kk_bipush (v := (6 : Int32)) hm.1 dX3_seamsAround_67 (by decide) ?_
    refine kk_isub hm.1 dX3_seamsAround_69 ?_
    obtain ⟨o70, h⟩ := h
    refine kk_iaload hm.1 dX3_seamsAround_70 o70 ?_
    refine kk_callSi (cs' := 0) (sl' := 0) (st := [kw_i x3]) hm.1 cs_X3_59 (t_X9_seam h) dX3_seamsAround_71 rfl hm.2.2.1 ⟨by decide, by decide⟩ ⟨by decide, by decide⟩ rfl rfl (Nat.le_of_ble_eq_true rfl) rfl ?_
    rintro v71 _ _ _ _ _ ⟨rfl, rfl, rfl, rfl, rfl, h⟩
    refine kk_iadd hm.1 dX3_seamsAround_74 ?_
    refine kk_istore_n (L' := [(3, kw_i (x3 + v71)), (0, kw_a a0), (1, kw_i x1), (2, kw_i x2)]) hm.1 dX3_seamsAround_75 rfl (by decide) rfl ?_
    refine kk_loc (L' := [(0, kw_a a0), (1, kw_i x1), (2, kw_i x2), (3, kw_i (x3 + v71))]) [1, 2, 3, 0] rfl ?_
    exact q_X3_seamsAround_76 hm  h0   x2 ((x3 + v71)) h
set_option maxHeartbeats 4000000 in
set_option maxRecDepth 100000 in
theorem q_X3_seamsAround_31 {a0 : Nat} {x1 : Int32} {T : kw_T} {n : Nat} {r : kw_R} {i : kw_I} {w : kw_L} {Q : Int32 → Prop} {E : kw_E} {G : kw_G} (hm : kw_m E G cX3_seamsAround 4 RX3 (some .int) rm_X3_seamsAround "seamsAround")  (h0 : T a0 = (0, 3))    (x2 : Int32) (x3 : Int32) (h : w_X3_seamsAround_31 a0 x1 T n r i w Q  x2 x3) : kw_K E G 4 0 0 (kw_Z E G 0 0 (kw_PI (fun v T' n' r' i' w' => T = T' ∧ n = n' ∧ r = r' ∧ i = i' ∧ w = w' ∧ Q v))) 31 [(0, kw_a a0), (1, kw_i x1), (2, kw_i x2), (3, kw_i x3)] [] T n r i w := by
  refine kk_iload_n hm.1 1 dX3_seamsAround_31 rfl rfl ?_
  refine kk_bipush (v := (6 : Int32)) hm.1 dX3_seamsAround_32 (by decide) ?_
  refine kk_irem hm.1 dX3_seamsAround_34 (by decide) ?_
  refine kk_iconst (v := (5 : Int32)) hm.1 dX3_seamsAround_35 (by decide) ?_
  refine kk_icmp_ge (tgt := 54) hm.1 dX3_seamsAround_36 (by decide) (fun c36 => ?_) (fun c36 => ?_)
  · have h := h.1 c36
    exact q_X3_seamsAround_54 hm  h0   x2 x3 h
  · have h := h.2 c36
    refine kk_iload_n hm.1 3 dX3_seamsAround_39 rfl rfl ?_
    refine kk_iload_n hm.1 2 dX3_seamsAround_40 rfl rfl ?_
    refine kk_aload_n hm.1 0 dX3_seamsAround_41 rfl rfl ?_
    refine kk_getR hm.1 ff_X3_24 dX3_seamsAround_42 h0 ?_
    refine kk_iload_n hm.1 1 dX3_seamsAround_45 rfl rfl ?_
    refine kk_iconst (v := (1 : Int32)) hm.1 dX3_seamsAround_46 (by decide) ?_
    refine kk_iadd hm.1 dX3_seamsAround_47 ?_
    obtain ⟨o48, h⟩ := h
    refine kk_iaload hm.1 dX3_seamsAround_48 o48 ?_
    refine kk_callSi (cs' := 0) (sl' := 0) (st := [kw_i x3]) hm.1 cs_X3_59 (t_X9_seam h) dX3_seamsAround_49 rfl hm.2.2.1 ⟨by decide, by decide⟩ ⟨by decide, by decide⟩ rfl rfl (Nat.le_of_ble_eq_true rfl) rfl ?_
    rintro v49 _ _ _ _ _ ⟨rfl, rfl, rfl, rfl, rfl, h⟩
    refine kk_iadd hm.1 dX3_seamsAround_52 ?_
    refine kk_istore_n (L' := [(3, kw_i (x3 + v49)), (0, kw_a a0), (1, kw_i x1), (2, kw_i x2)]) hm.1 dX3_seamsAround_53 rfl (by decide) rfl ?_
    refine kk_loc (L' := [(0, kw_a a0), (1, kw_i x1), (2, kw_i x2), (3, kw_i (x3 + v49))]) [1, 2, 3, 0] rfl ?_
    exact q_X3_seamsAround_54 hm  h0   x2 ((x3 + v49)) h
set_option maxHeartbeats 4000000 in
set_option maxRecDepth 100000 in
theorem t_X3_seamsAround {l : Launch} {G : kw_G} {a0 : Nat} {x1 : Int32} {T : kw_T} {n : Nat} {r : kw_R} {i : kw_I} {w : kw_L} {Q : Int32 → Prop} (h0 : T a0 = (0, 3)) (h : w_X3_seamsAround a0 x1 T n r i w Q) : kw_Met l G yX3_seamsAround cX3_seamsAround 4 (some .int) rm_X3_seamsAround [kw_a a0, kw_i x1] (T, n, r, i, w) (kw_PI (fun v T' n' r' i' w' => T = T' ∧ n = n' ∧ r = r' ∧ i = i' ∧ w = w' ∧ Q v)) := by
  refine kw_Met.of (by decide) (Nat.le_of_ble_eq_true rfl) fun E hl hRm hE hT hnm => ?_
  have hm : kw_m E G cX3_seamsAround 4 RX3 (some .int) rm_X3_seamsAround "seamsAround" := ⟨hE, hT, hRm, hnm⟩
  subst hl
  show kw_K E G 4 0 0 (kw_Z E G 0 0 (kw_PI (fun v T' n' r' i' w' => T = T' ∧ n = n' ∧ r = r' ∧ i = i' ∧ w = w' ∧ Q v))) 0 [(0, kw_a a0), (1, kw_i x1)] [] T n r i w
  refine kk_aload_n hm.1 0 dX3_seamsAround_0 rfl rfl ?_
  refine kk_getR hm.1 ff_X3_24 dX3_seamsAround_1 h0 ?_
  refine kk_iload_n hm.1 1 dX3_seamsAround_4 rfl rfl ?_
  obtain ⟨o5, h⟩ := h
  refine kk_iaload hm.1 dX3_seamsAround_5 o5 ?_
  refine kk_istore_n (L' := [(2, kw_i (i (r a0 4) (x1).toNatClampNeg)), (0, kw_a a0), (1, kw_i x1)]) hm.1 dX3_seamsAround_6 rfl (by decide) rfl ?_
  refine kk_iconst (v := (0 : Int32)) hm.1 dX3_seamsAround_7 (by decide) ?_
  refine kk_istore_n (L' := [(3, kw_i (0 : Int32)), (2, kw_i (i (r a0 4) (x1).toNatClampNeg)), (0, kw_a a0), (1, kw_i x1)]) hm.1 dX3_seamsAround_8 rfl (by decide) rfl ?_
  refine kk_iload_n hm.1 3 dX3_seamsAround_9 rfl rfl ?_
  refine kk_bipush (v := (6 : Int32)) hm.1 dX3_seamsAround_10 (by decide) ?_
  refine kk_irem hm.1 dX3_seamsAround_12 (by decide) ?_
  refine kk_if_le (tgt := 31) hm.1 dX3_seamsAround_13 (by decide) (fun c13 => ?_) (fun c13 => ?_)
  · have h := h.1 c13
    refine kk_loc (L' := [(0, kw_a a0), (1, kw_i x1), (2, kw_i (i (r a0 4) (x1).toNatClampNeg)), (3, kw_i (0 : Int32))]) [2, 3, 1, 0] rfl ?_
    exact q_X3_seamsAround_31 hm  h0   ((i (r a0 4) (x1).toNatClampNeg)) ((0 : Int32)) h
  · have h := h.2 c13
    refine kk_iload_n hm.1 0 dX3_seamsAround_16 rfl rfl ?_
    refine kk_iload_n hm.1 1 dX3_seamsAround_17 rfl rfl ?_
    refine kk_aload_n hm.1 2 dX3_seamsAround_18 rfl rfl ?_
    refine kk_getR hm.1 ff_X3_24 dX3_seamsAround_19 h0 ?_
    refine kk_iload_n hm.1 3 dX3_seamsAround_22 rfl rfl ?_
    refine kk_iconst (v := (1 : Int32)) hm.1 dX3_seamsAround_23 (by decide) ?_
    refine kk_isub hm.1 dX3_seamsAround_24 ?_
    obtain ⟨o25, h⟩ := h
    refine kk_iaload hm.1 dX3_seamsAround_25 o25 ?_
    refine kk_callSi (cs' := 0) (sl' := 0) (st := [kw_i (0 : Int32)]) hm.1 cs_X3_59 (t_X9_seam h) dX3_seamsAround_26 rfl hm.2.2.1 ⟨by decide, by decide⟩ ⟨by decide, by decide⟩ rfl rfl (Nat.le_of_ble_eq_true rfl) rfl ?_
    rintro v26 _ _ _ _ _ ⟨rfl, rfl, rfl, rfl, rfl, h⟩
    refine kk_iadd hm.1 dX3_seamsAround_29 ?_
    refine kk_istore_n (L' := [(3, kw_i ((0 : Int32) + v26)), (2, kw_i (i (r a0 4) (x1).toNatClampNeg)), (0, kw_a a0), (1, kw_i x1)]) hm.1 dX3_seamsAround_30 rfl (by decide) rfl ?_
    refine kk_loc (L' := [(0, kw_a a0), (1, kw_i x1), (2, kw_i (i (r a0 4) (x1).toNatClampNeg)), (3, kw_i ((0 : Int32) + v26))]) [2, 3, 1, 0] rfl ?_
    exact q_X3_seamsAround_31 hm  h0   ((i (r a0 4) (x1).toNatClampNeg)) (((0 : Int32) + v26)) h
abbrev rm_X3_mendFrom (d : Nat) : Room := { frames := 3 + d, cells := 0, slots := 0, locals := 104 + 50 * d }
theorem rms_X3_mendFrom (d : Nat) {nL' : Nat} (h : nL' ≤ 31) : (rm_X3_mendFrom d).frames + 1 ≤ (rm_X3_mendFrom (d + 1)).frames ∧ 8 + (nL' + 11) + (rm_X3_mendFrom d).locals ≤ (rm_X3_mendFrom (d + 1)).locals := ⟨by show 3 + d + 1 ≤ 3 + (d + 1); omega, by show 8 + (nL' + 11) + (104 + 50 * d) ≤ 104 + 50 * (d + 1); omega⟩
theorem rmi_X3_mendFrom (d : Nat) {nL' : Nat} {rm : Room} (h1 : rm.frames + 1 ≤ 3) (h2 : 8 + (nL' + 11) + rm.locals ≤ 104) : rm.frames + 1 ≤ (rm_X3_mendFrom (d + 1)).frames ∧ 8 + (nL' + 11) + rm.locals ≤ (rm_X3_mendFrom (d + 1)).locals := ⟨by show _ ≤ 3 + (d + 1); omega, by show _ ≤ 104 + 50 * (d + 1); omega⟩
theorem rmo_X3_mendFrom {d : Nat} (hd : d ≤ 60) {nL' : Nat} {rm : Room} (h1 : 64 ≤ rm.frames) (h2 : 8 + (nL' + 11) + 3104 ≤ rm.locals) : (rm_X3_mendFrom d).frames + 1 ≤ rm.frames ∧ 8 + (nL' + 11) + (rm_X3_mendFrom d).locals ≤ rm.locals := ⟨by show 3 + d + 1 ≤ _; omega, by show 8 + (nL' + 11) + (104 + 50 * d) ≤ _; omega⟩
def s_X3_mendFrom_50 (k_X3_mendFrom : Nat → Int32 → Int32 → kw_T → Nat → kw_R → kw_I → kw_L → (kw_I → Prop) → Prop) (a0 : Nat) (x1 : Int32) (x2 : Int32) (T : kw_T) (n : Nat) (r : kw_R) (w : kw_L) (Q : kw_I → Prop)  (k50 : Int32 → Int32 → kw_I → Prop) (x3 : Int32) (x4 : Int32) (i : kw_I) : Prop :=
  ((8 : Int32) ≤ x4 → kw_in T 1 (r a0 4) x3 ∧ (∀ i99 : kw_I, i99 = kw_st i (r a0 4) (x3).toNatClampNeg (-1 : Int32) → (Q i99))) ∧ (¬ (8 : Int32) ≤ x4 → kw_in T 1 (r a0 2) x1 ∧ (∀ i64 : kw_I, i64 = kw_st i (r a0 2) (x1).toNatClampNeg x4 → (kw_in T 1 (r a0 4) x3 ∧ (∀ i72 : kw_I, i72 = kw_st i64 (r a0 4) (x3).toNatClampNeg x4 → (w_X3_seamsAround a0 x3 T n r i72 w (fun v80 => k_X3_mendFrom a0 (x1 + (1 : Int32)) (x2 + v80) T n r i72 w (fun i84 => k50 x3 ((x4 + (1 : Int32))) i84)))))))
def w_X3_mendFrom_50 (k_X3_mendFrom : Nat → Int32 → Int32 → kw_T → Nat → kw_R → kw_I → kw_L → (kw_I → Prop) → Prop) (a0 : Nat) (x1 : Int32) (x2 : Int32) (T : kw_T) (n : Nat) (r : kw_R) (w : kw_L) (Q : kw_I → Prop)  : Nat → Int32 → Int32 → kw_I → Prop
  | 0 => fun _ _ _ => False
  | N + 1 => s_X3_mendFrom_50 k_X3_mendFrom a0 x1 x2 T n r w Q  (w_X3_mendFrom_50 k_X3_mendFrom a0 x1 x2 T n r w Q  N)
def w_X3_mendFrom (k_X3_mendFrom : Nat → Int32 → Int32 → kw_T → Nat → kw_R → kw_I → kw_L → (kw_I → Prop) → Prop) (a0 : Nat) (x1 : Int32) (x2 : Int32) (T : kw_T) (n : Nat) (r : kw_R) (i : kw_I) (w : kw_L) (Q : kw_I → Prop) : Prop :=
  (x2 < (i a0 6) → (x1 < (i a0 5) → kw_in T 1 (r a0 1) x1 ∧ (∃ N, w_X3_mendFrom_50 k_X3_mendFrom a0 x1 x2 T n r w Q  N ((i (r a0 1) (x1).toNatClampNeg)) ((0 : Int32)) i)) ∧ (¬ x1 < (i a0 5) → ∀ i19 : kw_I, i19 = kw_st i a0 6 x2 → (kw_cpo T (r a0 2) (r a0 3) (0 : Int32) (0 : Int32) (i19 a0 5) ∧ (∀ i36 : kw_I, i36 = kw_cpy i19 (r a0 2) (r a0 3) ((0 : Int32)).toNatClampNeg ((0 : Int32)).toNatClampNeg ((i19 a0 5)).toNatClampNeg → (Q i36))))) ∧ (¬ x2 < (i a0 6) → Q i)
set_option maxHeartbeats 4000000 in
set_option maxRecDepth 100000 in
theorem qs_X3_mendFrom_50 {k_X3_mendFrom : Nat → Int32 → Int32 → kw_T → Nat → kw_R → kw_I → kw_L → (kw_I → Prop) → Prop} {a0 : Nat} {x1 : Int32} {x2 : Int32} {T : kw_T} {n : Nat} {r : kw_R} {w : kw_L} {Q : kw_I → Prop} {E : kw_E} {G : kw_G} {d : Nat} (hm : kw_m E G cX3_mendFrom 5 RX3 none (rm_X3_mendFrom (d + 1)) "mendFrom") (hr_X3_mendFrom : ∀ (a0 : Nat) (x1 : Int32) (x2 : Int32) (T : kw_T) (n : Nat) (r : kw_R) (i : kw_I) (w : kw_L) (Q : kw_I → Prop), T a0 = (0, 3) → k_X3_mendFrom a0 x1 x2 T n r i w Q → kw_Met E.2.1 G yX3_mendFrom cX3_mendFrom 5 none (rm_X3_mendFrom d) [kw_a a0, kw_i x1, kw_i x2] (T, n, r, i, w) (kw_PV (fun T' n' r' i' w' => T = T' ∧ n = n' ∧ r = r' ∧ w = w' ∧ Q i'))) (h0 : T a0 = (0, 3))    {k50 : Int32 → Int32 → kw_I → Prop} (hk50 : ∀ (x3 : Int32) (x4 : Int32) (i : kw_I), k50 x3 x4 i → kw_K E G 5 0 0 (kw_Z E G 0 0 (kw_PV (fun T' n' r' i' w' => T = T' ∧ n = n' ∧ r = r' ∧ w = w' ∧ Q i'))) 50 [(0, kw_a a0), (1, kw_i x1), (2, kw_i x2), (3, kw_i x3), (4, kw_i x4)] [] T n r i w) (x3 : Int32) (x4 : Int32) (i : kw_I) (h : s_X3_mendFrom_50 k_X3_mendFrom a0 x1 x2 T n r w Q  k50 x3 x4 i) : kw_K E G 5 0 0 (kw_Z E G 0 0 (kw_PV (fun T' n' r' i' w' => T = T' ∧ n = n' ∧ r = r' ∧ w = w' ∧ Q i'))) 50 [(0, kw_a a0), (1, kw_i x1), (2, kw_i x2), (3, kw_i x3), (4, kw_i x4)] [] T n r i w := by
  refine kk_iload hm.1 4 dX3_mendFrom_50 rfl ?_
  refine kk_bipush (v := (8 : Int32)) hm.1 dX3_mendFrom_52 (by decide) ?_
  refine kk_icmp_ge (tgt := 93) hm.1 dX3_mendFrom_54 (by decide) (fun c54 => ?_) (fun c54 => ?_)
  · have h := h.1 c54
    refine kk_aload_n hm.1 0 dX3_mendFrom_93 rfl rfl ?_
    refine kk_getR hm.1 ff_X3_24 dX3_mendFrom_94 h0 ?_
    refine kk_iload_n hm.1 3 dX3_mendFrom_97 rfl rfl ?_
    refine kk_iconst (v := (-1 : Int32)) hm.1 dX3_mendFrom_98 (by decide) ?_
    obtain ⟨o99, h⟩ := h
    refine kn_iastore hm.1 dX3_mendFrom_99 o99 (fun i99 e99 => ?_)
    have h := h i99 e99
    exact kk_vret hm.1 hm.2.1 dX3_mendFrom_100 ⟨rfl, rfl, rfl, rfl, rfl, h⟩
  · have h := h.2 c54
    refine kk_aload_n hm.1 0 dX3_mendFrom_57 rfl rfl ?_
    refine kk_getR hm.1 ff_X3_18 dX3_mendFrom_58 h0 ?_
    refine kk_iload_n hm.1 1 dX3_mendFrom_61 rfl rfl ?_
    refine kk_iload hm.1 4 dX3_mendFrom_62 rfl ?_
    obtain ⟨o64, h⟩ := h
    refine kn_iastore hm.1 dX3_mendFrom_64 o64 (fun i64 e64 => ?_)
    have h := h i64 e64
    refine kk_aload_n hm.1 0 dX3_mendFrom_65 rfl rfl ?_
    refine kk_getR hm.1 ff_X3_24 dX3_mendFrom_66 h0 ?_
    refine kk_iload_n hm.1 3 dX3_mendFrom_69 rfl rfl ?_
    refine kk_iload hm.1 4 dX3_mendFrom_70 rfl ?_
    obtain ⟨o72, h⟩ := h
    refine kn_iastore hm.1 dX3_mendFrom_72 o72 (fun i72 e72 => ?_)
    have h := h i72 e72
    refine kk_aload_n hm.1 0 dX3_mendFrom_73 rfl rfl ?_
    refine kk_iload_n hm.1 1 dX3_mendFrom_74 rfl rfl ?_
    refine kk_iconst (v := (1 : Int32)) hm.1 dX3_mendFrom_75 (by decide) ?_
    refine kk_iadd hm.1 dX3_mendFrom_76 ?_
    refine kk_iload_n hm.1 2 dX3_mendFrom_77 rfl rfl ?_
    refine kk_aload_n hm.1 0 dX3_mendFrom_78 rfl rfl ?_
    refine kk_iload_n hm.1 3 dX3_mendFrom_79 rfl rfl ?_
    refine kk_callVi (cs' := 0) (sl' := 0) (st := [kw_i x2, kw_i (x1 + (1 : Int32)), kw_a a0]) hm.1 cv_X3_55 (t_X3_seamsAround h0 h) dX3_mendFrom_80 h0 rfl rfl hm.2.2.1 (rmi_X3_mendFrom d (by decide) (by decide)) ⟨Nat.le_refl _, Nat.le_refl _⟩ rfl rfl (Nat.le_of_ble_eq_true rfl) rfl ?_
    rintro v80 _ _ _ _ _ ⟨rfl, rfl, rfl, rfl, rfl, h⟩
    refine kk_iadd hm.1 dX3_mendFrom_83 ?_
    refine kk_callVv (cs' := 0) (sl' := 0) (st := []) hm.1 cv_X3_51 (hr_X3_mendFrom a0 (x1 + (1 : Int32)) (x2 + v80) T n r i72 w _ h0 h) dX3_mendFrom_84 h0 rfl rfl hm.2.2.1 (rms_X3_mendFrom d (by decide)) ⟨Nat.le_refl _, Nat.le_refl _⟩ rfl rfl (Nat.le_of_ble_eq_true rfl) rfl ?_
    rintro _ _ _ i84 _ ⟨rfl, rfl, rfl, rfl, h⟩
    refine kk_iinc (v := (x4 + (1 : Int32))) (L' := [(4, kw_i (x4 + (1 : Int32))), (0, kw_a a0), (1, kw_i x1), (2, kw_i x2), (3, kw_i x3)]) hm.1 4 dX3_mendFrom_87 rfl rfl (by decide) rfl ?_
    refine kk_goto (tgt := 50) hm.1 dX3_mendFrom_90 (by decide) ?_
    refine kk_loc (L' := [(0, kw_a a0), (1, kw_i x1), (2, kw_i x2), (3, kw_i x3), (4, kw_i (x4 + (1 : Int32)))]) [1, 2, 3, 4, 0] rfl ?_
    exact hk50 x3 ((x4 + (1 : Int32))) i84 h
set_option maxHeartbeats 4000000 in
set_option maxRecDepth 100000 in
theorem q_X3_mendFrom_50 {k_X3_mendFrom : Nat → Int32 → Int32 → kw_T → Nat → kw_R → kw_I → kw_L → (kw_I → Prop) → Prop} {a0 : Nat} {x1 : Int32} {x2 : Int32} {T : kw_T} {n : Nat} {r : kw_R} {w : kw_L} {Q : kw_I → Prop} {E : kw_E} {G : kw_G} {d : Nat} (hm : kw_m E G cX3_mendFrom 5 RX3 none (rm_X3_mendFrom (d + 1)) "mendFrom") (hr_X3_mendFrom : ∀ (a0 : Nat) (x1 : Int32) (x2 : Int32) (T : kw_T) (n : Nat) (r : kw_R) (i : kw_I) (w : kw_L) (Q : kw_I → Prop), T a0 = (0, 3) → k_X3_mendFrom a0 x1 x2 T n r i w Q → kw_Met E.2.1 G yX3_mendFrom cX3_mendFrom 5 none (rm_X3_mendFrom d) [kw_a a0, kw_i x1, kw_i x2] (T, n, r, i, w) (kw_PV (fun T' n' r' i' w' => T = T' ∧ n = n' ∧ r = r' ∧ w = w' ∧ Q i'))) (h0 : T a0 = (0, 3))    : ∀ (N : Nat) (x3 : Int32) (x4 : Int32) (i : kw_I), w_X3_mendFrom_50 k_X3_mendFrom a0 x1 x2 T n r w Q  N x3 x4 i → kw_K E G 5 0 0 (kw_Z E G 0 0 (kw_PV (fun T' n' r' i' w' => T = T' ∧ n = n' ∧ r = r' ∧ w = w' ∧ Q i'))) 50 [(0, kw_a a0), (1, kw_i x1), (2, kw_i x2), (3, kw_i x3), (4, kw_i x4)] [] T n r i w := by
  intro N
  induction N with
  | zero => intro x3 x4 i h; exact h.elim
  | succ N ih => intro x3 x4 i h; exact qs_X3_mendFrom_50 hm hr_X3_mendFrom h0  ih x3 x4 i h
set_option maxHeartbeats 4000000 in
set_option maxRecDepth 100000 in
theorem t_X3_mendFrom {l : Launch} {G : kw_G} {d : Nat} {k_X3_mendFrom : Nat → Int32 → Int32 → kw_T → Nat → kw_R → kw_I → kw_L → (kw_I → Prop) → Prop} {a0 : Nat} {x1 : Int32} {x2 : Int32} {T : kw_T} {n : Nat} {r : kw_R} {i : kw_I} {w : kw_L} {Q : kw_I → Prop} (hr_X3_mendFrom : ∀ (a0 : Nat) (x1 : Int32) (x2 : Int32) (T : kw_T) (n : Nat) (r : kw_R) (i : kw_I) (w : kw_L) (Q : kw_I → Prop), T a0 = (0, 3) → k_X3_mendFrom a0 x1 x2 T n r i w Q → kw_Met l G yX3_mendFrom cX3_mendFrom 5 none (rm_X3_mendFrom d) [kw_a a0, kw_i x1, kw_i x2] (T, n, r, i, w) (kw_PV (fun T' n' r' i' w' => T = T' ∧ n = n' ∧ r = r' ∧ w = w' ∧ Q i'))) (h0 : T a0 = (0, 3)) (h : w_X3_mendFrom k_X3_mendFrom a0 x1 x2 T n r i w Q) : kw_Met l G yX3_mendFrom cX3_mendFrom 5 none (rm_X3_mendFrom (d + 1)) [kw_a a0, kw_i x1, kw_i x2] (T, n, r, i, w) (kw_PV (fun T' n' r' i' w' => T = T' ∧ n = n' ∧ r = r' ∧ w = w' ∧ Q i')) := by
  refine kw_Met.of (by decide) (Nat.le_of_ble_eq_true rfl) fun E hl hRm hE hT hnm => ?_
  have hm : kw_m E G cX3_mendFrom 5 RX3 none (rm_X3_mendFrom (d + 1)) "mendFrom" := ⟨hE, hT, hRm, hnm⟩
  subst hl
  show kw_K E G 5 0 0 (kw_Z E G 0 0 (kw_PV (fun T' n' r' i' w' => T = T' ∧ n = n' ∧ r = r' ∧ w = w' ∧ Q i'))) 0 [(0, kw_a a0), (1, kw_i x1), (2, kw_i x2)] [] T n r i w
  refine kk_iload_n hm.1 2 dX3_mendFrom_0 rfl rfl ?_
  refine kk_aload_n hm.1 0 dX3_mendFrom_1 rfl rfl ?_
  refine kk_getI hm.1 ff_X3_31 dX3_mendFrom_2 h0 ?_
  refine kk_icmp_lt (tgt := 9) hm.1 dX3_mendFrom_5 (by decide) (fun c5 => ?_) (fun c5 => ?_)
  · have h := h.1 c5
    refine kk_iload_n hm.1 1 dX3_mendFrom_9 rfl rfl ?_
    refine kk_aload_n hm.1 0 dX3_mendFrom_10 rfl rfl ?_
    refine kk_getI hm.1 ff_X3_27 dX3_mendFrom_11 h0 ?_
    refine kk_icmp_lt (tgt := 40) hm.1 dX3_mendFrom_14 (by decide) (fun c14 => ?_) (fun c14 => ?_)
    · have h := h.1 c14
      refine kk_aload_n hm.1 0 dX3_mendFrom_40 rfl rfl ?_
      refine kk_getR hm.1 ff_X3_15 dX3_mendFrom_41 h0 ?_
      refine kk_iload_n hm.1 1 dX3_mendFrom_44 rfl rfl ?_
      obtain ⟨o45, h⟩ := h
      refine kk_iaload hm.1 dX3_mendFrom_45 o45 ?_
      refine kk_istore_n (L' := [(3, kw_i (i (r a0 1) (x1).toNatClampNeg)), (0, kw_a a0), (1, kw_i x1), (2, kw_i x2)]) hm.1 dX3_mendFrom_46 rfl (by decide) rfl ?_
      refine kk_iconst (v := (0 : Int32)) hm.1 dX3_mendFrom_47 (by decide) ?_
      refine kk_istore (L' := [(4, kw_i (0 : Int32)), (3, kw_i (i (r a0 1) (x1).toNatClampNeg)), (0, kw_a a0), (1, kw_i x1), (2, kw_i x2)]) hm.1 dX3_mendFrom_48 (by decide) rfl ?_
      refine kk_loc (L' := [(0, kw_a a0), (1, kw_i x1), (2, kw_i x2), (3, kw_i (i (r a0 1) (x1).toNatClampNeg)), (4, kw_i (0 : Int32))]) [2, 3, 4, 1, 0] rfl ?_
      obtain ⟨N, h⟩ := h
      exact q_X3_mendFrom_50 hm hr_X3_mendFrom h0   N ((i (r a0 1) (x1).toNatClampNeg)) ((0 : Int32)) i h
    · have h := h.2 c14
      refine kk_aload_n hm.1 0 dX3_mendFrom_17 rfl rfl ?_
      refine kk_iload_n hm.1 2 dX3_mendFrom_18 rfl rfl ?_
      refine kn_putI hm.1 fp_X3_31 dX3_mendFrom_19 h0 (fun i19 e19 => ?_)
      have h := h i19 e19
      refine kk_aload_n hm.1 0 dX3_mendFrom_22 rfl rfl ?_
      refine kk_getR hm.1 ff_X3_18 dX3_mendFrom_23 h0 ?_
      refine kk_iconst (v := (0 : Int32)) hm.1 dX3_mendFrom_26 (by decide) ?_
      refine kk_aload_n hm.1 0 dX3_mendFrom_27 rfl rfl ?_
      refine kk_getR hm.1 ff_X3_21 dX3_mendFrom_28 h0 ?_
      refine kk_iconst (v := (0 : Int32)) hm.1 dX3_mendFrom_31 (by decide) ?_
      refine kk_aload_n hm.1 0 dX3_mendFrom_32 rfl rfl ?_
      refine kk_getI hm.1 ff_X3_27 dX3_mendFrom_33 h0 ?_
      obtain ⟨o36, h⟩ := h
      refine kn_copy (st := []) hm.1 wm_X3_41 wcp_n wcp_s wcp_i dX3_mendFrom_36 hm.2.2.1 (by show 1 ≤ 3 + (d + 1); omega) (Nat.le_trans (m := 104) (by show _ + (_ + 11) ≤ _; exact Nat.le_of_ble_eq_true rfl) (by show 104 ≤ 104 + 50 * (d + 1); omega)) o36 (fun i36 e36 => ?_)
      have h := h i36 e36
      exact kk_vret hm.1 hm.2.1 dX3_mendFrom_39 ⟨rfl, rfl, rfl, rfl, rfl, h⟩
  · have h := h.2 c5
    exact kk_vret hm.1 hm.2.1 dX3_mendFrom_8 ⟨rfl, rfl, rfl, rfl, rfl, h⟩
def g_X3_mendFrom : Nat → (Nat → Int32 → Int32 → kw_T → Nat → kw_R → kw_I → kw_L → (kw_I → Prop) → Prop)
  | 0 => (fun _ _ _ _ _ _ _ _ _ => False)
  | d + 1 => (w_X3_mendFrom (g_X3_mendFrom d))
set_option maxHeartbeats 4000000 in
set_option maxRecDepth 100000 in
theorem tg_X3_mendFrom (l : Launch) (G : kw_G) : ∀ d : Nat, (∀ (a0 : Nat) (x1 : Int32) (x2 : Int32) (T : kw_T) (n : Nat) (r : kw_R) (i : kw_I) (w : kw_L) (Q : kw_I → Prop), T a0 = (0, 3) → (g_X3_mendFrom d) a0 x1 x2 T n r i w Q → kw_Met l G yX3_mendFrom cX3_mendFrom 5 none (rm_X3_mendFrom d) [kw_a a0, kw_i x1, kw_i x2] (T, n, r, i, w) (kw_PV (fun T' n' r' i' w' => T = T' ∧ n = n' ∧ r = r' ∧ w = w' ∧ Q i')))
  | 0 => (fun a0 x1 x2 T n r i w Q h0 h => h.elim)
  | d + 1 => have ih := tg_X3_mendFrom l G d
    (fun a0 x1 x2 T n r i w Q h0 h => t_X3_mendFrom ih h0 h)
def s_X3_mendAll_14 (a0 : Nat) (a1 : Nat) (T : kw_T) (n : Nat) (r : kw_R) (w : kw_L) (Q : kw_I → Prop)  (k14 : Int32 → kw_I → Prop) (x2 : Int32) (i : kw_I) : Prop :=
  ((i a0 5) ≤ x2 → ∀ i43 : kw_I, i43 = kw_st i a0 6 (61 : Int32) → (w_X9_seamsOf (r a0 4) T n r i43 w (fun v52 => ∃ dd, dd ≤ 60 ∧ (g_X3_mendFrom dd) a0 (0 : Int32) v52 T n r i43 w (fun i55 => Q i55)))) ∧ (¬ (i a0 5) ≤ x2 → kw_in T 1 (r a0 1) x2 ∧ (kw_in T 1 (r a0 4) (i (r a0 1) (x2).toNatClampNeg) ∧ (∀ i33 : kw_I, i33 = kw_st i (r a0 4) ((i (r a0 1) (x2).toNatClampNeg)).toNatClampNeg (-1 : Int32) → (k14 ((x2 + (1 : Int32))) i33))))
def w_X3_mendAll_14 (a0 : Nat) (a1 : Nat) (T : kw_T) (n : Nat) (r : kw_R) (w : kw_L) (Q : kw_I → Prop)  : Nat → Int32 → kw_I → Prop
  | 0 => fun _ _ => False
  | N + 1 => s_X3_mendAll_14 a0 a1 T n r w Q  (w_X3_mendAll_14 a0 a1 T n r w Q  N)
def w_X3_mendAll  (a0 : Nat) (a1 : Nat) (T : kw_T) (n : Nat) (r : kw_R) (i : kw_I) (w : kw_L) (Q : kw_I → Prop) : Prop :=
  kw_cpo T a1 (r a0 4) (0 : Int32) (0 : Int32) (36 : Int32) ∧ (∀ i9 : kw_I, i9 = kw_cpy i a1 (r a0 4) ((0 : Int32)).toNatClampNeg ((0 : Int32)).toNatClampNeg ((36 : Int32)).toNatClampNeg → (∃ N, w_X3_mendAll_14 a0 a1 T n r w Q  N ((0 : Int32)) i9))
abbrev rm_X3_mendAll : Room := { frames := 64, cells := 0, slots := 0, locals := 3128 }
set_option maxHeartbeats 4000000 in
set_option maxRecDepth 100000 in
theorem qs_X3_mendAll_14 {a0 : Nat} {a1 : Nat} {T : kw_T} {n : Nat} {r : kw_R} {w : kw_L} {Q : kw_I → Prop} {E : kw_E} {G : kw_G} (hm : kw_m E G cX3_mendAll 3 RX3 none rm_X3_mendAll "mendAll")  (h0 : T a0 = (0, 3))    {k14 : Int32 → kw_I → Prop} (hk14 : ∀ (x2 : Int32) (i : kw_I), k14 x2 i → kw_K E G 3 0 0 (kw_Z E G 0 0 (kw_PV (fun T' n' r' i' w' => T = T' ∧ n = n' ∧ r = r' ∧ w = w' ∧ Q i'))) 14 [(0, kw_a a0), (1, kw_a a1), (2, kw_i x2)] [] T n r i w) (x2 : Int32) (i : kw_I) (h : s_X3_mendAll_14 a0 a1 T n r w Q  k14 x2 i) : kw_K E G 3 0 0 (kw_Z E G 0 0 (kw_PV (fun T' n' r' i' w' => T = T' ∧ n = n' ∧ r = r' ∧ w = w' ∧ Q i'))) 14 [(0, kw_a a0), (1, kw_a a1), (2, kw_i x2)] [] T n r i w := by
  refine kk_iload_n hm.1 2 dX3_mendAll_14 rfl rfl ?_
  refine kk_aload_n hm.1 0 dX3_mendAll_15 rfl rfl ?_
  refine kk_getI hm.1 ff_X3_27 dX3_mendAll_16 h0 ?_
  refine kk_icmp_ge (tgt := 40) hm.1 dX3_mendAll_19 (by decide) (fun c19 => ?_) (fun c19 => ?_)
  · have h := h.1 c19
    refine kk_aload_n hm.1 0 dX3_mendAll_40 rfl rfl ?_
    refine kk_bipush (v := (61 : Int32)) hm.1 dX3_mendAll_41 (by decide) ?_
    refine kn_putI hm.1 fp_X3_31 dX3_mendAll_43 h0 (fun i43 e43 => ?_)
    have h := h i43 e43
    refine kk_aload_n hm.1 0 dX3_mendAll_46 rfl rfl ?_
    refine kk_iconst (v := (0 : Int32)) hm.1 dX3_mendAll_47 (by decide) ?_
    refine kk_aload_n hm.1 0 dX3_mendAll_48 rfl rfl ?_
    refine kk_getR hm.1 ff_X3_24 dX3_mendAll_49 h0 ?_
    refine kk_callSi (cs' := 0) (sl' := 0) (st := [kw_i (0 : Int32), kw_a a0]) hm.1 cs_X3_47 (t_X9_seamsOf h) dX3_mendAll_52 rfl hm.2.2.1 ⟨by decide, by decide⟩ ⟨by decide, by decide⟩ rfl rfl (Nat.le_of_ble_eq_true rfl) rfl ?_
    rintro v52 _ _ _ _ _ ⟨rfl, rfl, rfl, rfl, rfl, h⟩
    obtain ⟨dd, hd, h⟩ := h
    refine kk_callVv (cs' := 0) (sl' := 0) (st := []) hm.1 cv_X3_51 ((tg_X3_mendFrom E.2.1 G dd) a0 (0 : Int32) v52 T n r i43 w _ h0 h) dX3_mendAll_55 h0 rfl rfl hm.2.2.1 (rmo_X3_mendFrom hd (by decide) (by decide)) ⟨Nat.le_refl _, Nat.le_refl _⟩ rfl rfl (Nat.le_of_ble_eq_true rfl) rfl ?_
    rintro _ _ _ i55 _ ⟨rfl, rfl, rfl, rfl, h⟩
    exact kk_vret hm.1 hm.2.1 dX3_mendAll_58 ⟨rfl, rfl, rfl, rfl, rfl, h⟩
  · have h := h.2 c19
    refine kk_aload_n hm.1 0 dX3_mendAll_22 rfl rfl ?_
    refine kk_getR hm.1 ff_X3_24 dX3_mendAll_23 h0 ?_
    refine kk_aload_n hm.1 0 dX3_mendAll_26 rfl rfl ?_
    refine kk_getR hm.1 ff_X3_15 dX3_mendAll_27 h0 ?_
    refine kk_iload_n hm.1 2 dX3_mendAll_30 rfl rfl ?_
    obtain ⟨o31, h⟩ := h
    refine kk_iaload hm.1 dX3_mendAll_31 o31 ?_
    refine kk_iconst (v := (-1 : Int32)) hm.1 dX3_mendAll_32 (by decide) ?_
    obtain ⟨o33, h⟩ := h
    refine kn_iastore hm.1 dX3_mendAll_33 o33 (fun i33 e33 => ?_)
    have h := h i33 e33
    refine kk_iinc (v := (x2 + (1 : Int32))) (L' := [(2, kw_i (x2 + (1 : Int32))), (0, kw_a a0), (1, kw_a a1)]) hm.1 2 dX3_mendAll_34 rfl rfl (by decide) rfl ?_
    refine kk_goto (tgt := 14) hm.1 dX3_mendAll_37 (by decide) ?_
    refine kk_loc (L' := [(0, kw_a a0), (1, kw_a a1), (2, kw_i (x2 + (1 : Int32)))]) [1, 2, 0] rfl ?_
    exact hk14 ((x2 + (1 : Int32))) i33 h
set_option maxHeartbeats 4000000 in
set_option maxRecDepth 100000 in
theorem q_X3_mendAll_14 {a0 : Nat} {a1 : Nat} {T : kw_T} {n : Nat} {r : kw_R} {w : kw_L} {Q : kw_I → Prop} {E : kw_E} {G : kw_G} (hm : kw_m E G cX3_mendAll 3 RX3 none rm_X3_mendAll "mendAll")  (h0 : T a0 = (0, 3))    : ∀ (N : Nat) (x2 : Int32) (i : kw_I), w_X3_mendAll_14 a0 a1 T n r w Q  N x2 i → kw_K E G 3 0 0 (kw_Z E G 0 0 (kw_PV (fun T' n' r' i' w' => T = T' ∧ n = n' ∧ r = r' ∧ w = w' ∧ Q i'))) 14 [(0, kw_a a0), (1, kw_a a1), (2, kw_i x2)] [] T n r i w := by
  intro N
  induction N with
  | zero => intro x2 i h; exact h.elim
  | succ N ih => intro x2 i h; exact qs_X3_mendAll_14 hm  h0  ih x2 i h
set_option maxHeartbeats 4000000 in
set_option maxRecDepth 100000 in
theorem t_X3_mendAll {l : Launch} {G : kw_G} {a0 : Nat} {a1 : Nat} {T : kw_T} {n : Nat} {r : kw_R} {i : kw_I} {w : kw_L} {Q : kw_I → Prop} (h0 : T a0 = (0, 3)) (h : w_X3_mendAll a0 a1 T n r i w Q) : kw_Met l G yX3_mendAll cX3_mendAll 3 none rm_X3_mendAll [kw_a a0, kw_a a1] (T, n, r, i, w) (kw_PV (fun T' n' r' i' w' => T = T' ∧ n = n' ∧ r = r' ∧ w = w' ∧ Q i')) := by
  refine kw_Met.of (by decide) (Nat.le_of_ble_eq_true rfl) fun E hl hRm hE hT hnm => ?_
  have hm : kw_m E G cX3_mendAll 3 RX3 none rm_X3_mendAll "mendAll" := ⟨hE, hT, hRm, hnm⟩
  subst hl
  show kw_K E G 3 0 0 (kw_Z E G 0 0 (kw_PV (fun T' n' r' i' w' => T = T' ∧ n = n' ∧ r = r' ∧ w = w' ∧ Q i'))) 0 [(0, kw_a a0), (1, kw_a a1)] [] T n r i w
  refine kk_aload_n hm.1 1 dX3_mendAll_0 rfl rfl ?_
  refine kk_iconst (v := (0 : Int32)) hm.1 dX3_mendAll_1 (by decide) ?_
  refine kk_aload_n hm.1 0 dX3_mendAll_2 rfl rfl ?_
  refine kk_getR hm.1 ff_X3_24 dX3_mendAll_3 h0 ?_
  refine kk_iconst (v := (0 : Int32)) hm.1 dX3_mendAll_6 (by decide) ?_
  refine kk_bipush (v := (36 : Int32)) hm.1 dX3_mendAll_7 (by decide) ?_
  obtain ⟨o9, h⟩ := h
  refine kn_copy (st := []) hm.1 wm_X3_41 wcp_n wcp_s wcp_i dX3_mendAll_9 hm.2.2.1 (by decide) (by show _ + (_ + 11) ≤ _; exact Nat.le_of_ble_eq_true rfl) o9 (fun i9 e9 => ?_)
  have h := h i9 e9
  refine kk_iconst (v := (0 : Int32)) hm.1 dX3_mendAll_12 (by decide) ?_
  refine kk_istore_n (L' := [(2, kw_i (0 : Int32)), (0, kw_a a0), (1, kw_a a1)]) hm.1 dX3_mendAll_13 rfl (by decide) rfl ?_
  refine kk_loc (L' := [(0, kw_a a0), (1, kw_a a1), (2, kw_i (0 : Int32))]) [1, 2, 0] rfl ?_
  obtain ⟨N, h⟩ := h
  exact q_X3_mendAll_14 hm  h0   N ((0 : Int32)) i9 h
def w_X4_init  (a0 : Nat) (T : kw_T) (n : Nat) (r : kw_R) (i : kw_I) (w : kw_L) (Q : kw_T → Nat → kw_R → kw_I → Prop) : Prop :=
  kw_al n 1 ∧ (∀ (T8 : kw_T) (i8 : kw_I), T8 = kw_row T n (1, 400) → i8 = kw_row i n (fun _ => 0) → (T8 a0 = (0, 4) ∧ (∀ r10 : kw_R, r10 = kw_st r a0 0 n → (kw_al (n + 1) 1 ∧ (∀ (T16 : kw_T) (i16 : kw_I), T16 = kw_row T8 (n + 1) (1, 13) → i16 = kw_row i8 (n + 1) (fun _ => 0) → (T16 a0 = (0, 4) ∧ (∀ r18 : kw_R, r18 = kw_st r10 a0 1 (n + 1) → (∀ r26 : kw_R, r26 = kw_st r18 a0 2 (r18 a0 0) → (∀ i31 : kw_I, i31 = kw_st i16 a0 3 (0 : Int32) → (∀ i36 : kw_I, i36 = kw_st i31 a0 4 (0 : Int32) → (∀ i41 : kw_I, i41 = kw_st i36 a0 5 (0 : Int32) → (∀ i48 : kw_I, i48 = kw_st i41 a0 6 (259 : Int32) → (∀ i53 : kw_I, i53 = kw_st i48 a0 7 (0 : Int32) → (∀ i58 : kw_I, i58 = kw_st i53 a0 8 (0 : Int32) → (∀ i63 : kw_I, i63 = kw_st i58 a0 9 (-1 : Int32) → (Q T16 ((n + 1) + 1) r26 i63))))))))))))))))
abbrev rm_X4_init : Room := { frames := 1, cells := 2, slots := 413, locals := 60 }
set_option maxHeartbeats 4000000 in
set_option maxRecDepth 100000 in
theorem t_X4_init {l : Launch} {G : kw_G} {a0 : Nat} {T : kw_T} {n : Nat} {r : kw_R} {i : kw_I} {w : kw_L} {Q : kw_T → Nat → kw_R → kw_I → Prop} (h0 : T a0 = (0, 4)) (h : w_X4_init a0 T n r i w Q) : kw_Met l G yX4_init cX4_init 1 none rm_X4_init [kw_a a0] (T, n, r, i, w) (kw_PV (fun T' n' r' i' w' => w = w' ∧ Q T' n' r' i')) := by
  refine kw_Met.of (by decide) (Nat.le_of_ble_eq_true rfl) fun E hl hRm hE hT hnm => ?_
  have hm : kw_m E G cX4_init 1 RX4 none rm_X4_init "<init>" := ⟨hE, hT, hRm, hnm⟩
  subst hl
  show kw_K E G 1 0 0 (kw_Z E G 2 413 (kw_PV (fun T' n' r' i' w' => w = w' ∧ Q T' n' r' i'))) 0 [(0, kw_a a0)] [] T n r i w
  refine kk_aload_n hm.1 0 dX4_init_0 rfl rfl ?_
  refine kn_objInit (st := []) hm.1 wm_X4_3 wo_1 wo_2 dX4_init_1 h0 hm.2.2.1 (by decide) (Nat.le_of_ble_eq_true rfl) ?_
  refine kk_aload_n hm.1 0 dX4_init_4 rfl rfl ?_
  refine kk_sipush (v := (400 : Int32)) hm.1 dX4_init_5 (by decide) ?_
  obtain ⟨o8, h⟩ := h
  refine kn_newaI (m := 400) hm.1 1 (by decide) (by decide) rfl wa_1 dX4_init_8 (by decide) (by decide) (by decide) o8 hm.2.2.1 (by decide) (by decide) rfl rfl (fun T8 i8 e8 f8 => ?_)
  have h := h T8 i8 e8 f8
  obtain ⟨o10, h⟩ := h
  refine kn_putR hm.1 fp_X4_9 rfl (fun h => hm.2.2.2) dX4_init_10 o10 (fun r10 e10 => ?_)
  have h := h r10 e10
  refine kk_aload_n hm.1 0 dX4_init_13 rfl rfl ?_
  refine kk_bipush (v := (13 : Int32)) hm.1 dX4_init_14 (by decide) ?_
  obtain ⟨o16, h⟩ := h
  refine kn_newaI (m := 13) hm.1 1 (by decide) (by decide) rfl wa_1 dX4_init_16 (by decide) (by decide) (by decide) o16 hm.2.2.1 (by decide) (by decide) rfl rfl (fun T16 i16 e16 f16 => ?_)
  have h := h T16 i16 e16 f16
  obtain ⟨o18, h⟩ := h
  refine kn_putR hm.1 fp_X4_15 rfl (fun h => hm.2.2.2) dX4_init_18 o18 (fun r18 e18 => ?_)
  have h := h r18 e18
  refine kk_aload_n hm.1 0 dX4_init_21 rfl rfl ?_
  refine kk_aload_n hm.1 0 dX4_init_22 rfl rfl ?_
  refine kk_getR hm.1 ff_X4_9 dX4_init_23 o18 ?_
  refine kn_putR hm.1 fp_X4_18 rfl (fun h => by cases h) dX4_init_26 o18 (fun r26 e26 => ?_)
  have h := h r26 e26
  refine kk_aload_n hm.1 0 dX4_init_29 rfl rfl ?_
  refine kk_iconst (v := (0 : Int32)) hm.1 dX4_init_30 (by decide) ?_
  refine kn_putI hm.1 fp_X4_21 dX4_init_31 o18 (fun i31 e31 => ?_)
  have h := h i31 e31
  refine kk_aload_n hm.1 0 dX4_init_34 rfl rfl ?_
  refine kk_iconst (v := (0 : Int32)) hm.1 dX4_init_35 (by decide) ?_
  refine kn_putI hm.1 fp_X4_25 dX4_init_36 o18 (fun i36 e36 => ?_)
  have h := h i36 e36
  refine kk_aload_n hm.1 0 dX4_init_39 rfl rfl ?_
  refine kk_iconst (v := (0 : Int32)) hm.1 dX4_init_40 (by decide) ?_
  refine kn_putI hm.1 fp_X4_28 dX4_init_41 o18 (fun i41 e41 => ?_)
  have h := h i41 e41
  refine kk_aload_n hm.1 0 dX4_init_44 rfl rfl ?_
  refine kk_sipush (v := (259 : Int32)) hm.1 dX4_init_45 (by decide) ?_
  refine kn_putI hm.1 fp_X4_31 dX4_init_48 o18 (fun i48 e48 => ?_)
  have h := h i48 e48
  refine kk_aload_n hm.1 0 dX4_init_51 rfl rfl ?_
  refine kk_iconst (v := (0 : Int32)) hm.1 dX4_init_52 (by decide) ?_
  refine kn_putI hm.1 fp_X4_34 dX4_init_53 o18 (fun i53 e53 => ?_)
  have h := h i53 e53
  refine kk_aload_n hm.1 0 dX4_init_56 rfl rfl ?_
  refine kk_iconst (v := (0 : Int32)) hm.1 dX4_init_57 (by decide) ?_
  refine kn_putI hm.1 fp_X4_37 dX4_init_58 o18 (fun i58 e58 => ?_)
  have h := h i58 e58
  refine kk_aload_n hm.1 0 dX4_init_61 rfl rfl ?_
  refine kk_iconst (v := (-1 : Int32)) hm.1 dX4_init_62 (by decide) ?_
  refine kn_putI hm.1 fp_X4_40 dX4_init_63 o18 (fun i63 e63 => ?_)
  have h := h i63 e63
  exact kk_vret hm.1 hm.2.1 dX4_init_66 ⟨rfl, rfl, h⟩
def s_X4_step_121 (a0 : Nat) (T : kw_T) (n : Nat) (r : kw_R) (w : kw_L) (Q : kw_I → Prop)  (k121 : kw_I → Prop) (i : kw_I) : Prop :=
  ((i a0 3) ≤ (i a0 5) → Q i) ∧ (¬ (i a0 3) ≤ (i a0 5) → kw_in T 1 (r a0 2) (i a0 5) ∧ (((i (r a0 2) ((i a0 5)).toNatClampNeg) < (97 : Int32) → Q i) ∧ (¬ (i (r a0 2) ((i a0 5)).toNatClampNeg) < (97 : Int32) → kw_in T 1 (r a0 2) (i a0 5) ∧ (((122 : Int32) < (i (r a0 2) ((i a0 5)).toNatClampNeg) → Q i) ∧ (¬ (122 : Int32) < (i (r a0 2) ((i a0 5)).toNatClampNeg) → ∀ i167 : kw_I, i167 = kw_st i a0 5 ((i a0 5) + (1 : Int32)) → (k121 i167))))))
def w_X4_step_121 (a0 : Nat) (T : kw_T) (n : Nat) (r : kw_R) (w : kw_L) (Q : kw_I → Prop)  : Nat → kw_I → Prop
  | 0 => fun _ => False
  | N + 1 => s_X4_step_121 a0 T n r w Q  (w_X4_step_121 a0 T n r w Q  N)
def s_X4_step_198 (a0 : Nat) (T : kw_T) (n : Nat) (r : kw_R) (w : kw_L) (Q : kw_I → Prop)  (k198 : kw_I → Prop) (i : kw_I) : Prop :=
  ((i a0 3) ≤ (i a0 5) → Q i) ∧ (¬ (i a0 3) ≤ (i a0 5) → kw_in T 1 (r a0 2) (i a0 5) ∧ (((i (r a0 2) ((i a0 5)).toNatClampNeg) < (48 : Int32) → Q i) ∧ (¬ (i (r a0 2) ((i a0 5)).toNatClampNeg) < (48 : Int32) → kw_in T 1 (r a0 2) (i a0 5) ∧ (((57 : Int32) < (i (r a0 2) ((i a0 5)).toNatClampNeg) → Q i) ∧ (¬ (57 : Int32) < (i (r a0 2) ((i a0 5)).toNatClampNeg) → ∀ i244 : kw_I, i244 = kw_st i a0 5 ((i a0 5) + (1 : Int32)) → (k198 i244))))))
def w_X4_step_198 (a0 : Nat) (T : kw_T) (n : Nat) (r : kw_R) (w : kw_L) (Q : kw_I → Prop)  : Nat → kw_I → Prop
  | 0 => fun _ => False
  | N + 1 => s_X4_step_198 a0 T n r w Q  (w_X4_step_198 a0 T n r w Q  N)
def w_X4_step_173 (a0 : Nat) (T : kw_T) (n : Nat) (r : kw_R) (w : kw_L) (Q : kw_I → Prop)  (i : kw_I) : Prop :=
  ((i a0 6) < (48 : Int32) → Q i) ∧ (¬ (i a0 6) < (48 : Int32) → ((57 : Int32) < (i a0 6) → Q i) ∧ (¬ (57 : Int32) < (i a0 6) → ∀ i195 : kw_I, i195 = kw_st i a0 6 (257 : Int32) → (∃ N, w_X4_step_198 a0 T n r w Q  N i195)))
def w_X4_step_46 (a0 : Nat) (T : kw_T) (n : Nat) (r : kw_R) (w : kw_L) (Q : kw_I → Prop)  (i : kw_I) : Prop :=
  ∀ i51 : kw_I, i51 = kw_st i a0 5 (i a0 4) → (((i51 a0 4) < (i51 a0 3) → kw_in T 1 (r a0 2) (i51 a0 4) ∧ (∀ i83 : kw_I, i83 = kw_st i51 a0 6 (i51 (r a0 2) ((i51 a0 4)).toNatClampNeg) → (∀ i93 : kw_I, i93 = kw_st i83 a0 5 ((i83 a0 5) + (1 : Int32)) → (((i93 a0 6) < (97 : Int32) → w_X4_step_173 a0 T n r w Q  i93) ∧ (¬ (i93 a0 6) < (97 : Int32) → ((122 : Int32) < (i93 a0 6) → w_X4_step_173 a0 T n r w Q  i93) ∧ (¬ (122 : Int32) < (i93 a0 6) → ∀ i118 : kw_I, i118 = kw_st i93 a0 6 (256 : Int32) → (∃ N, w_X4_step_121 a0 T n r w Q  N i118))))))) ∧ (¬ (i51 a0 4) < (i51 a0 3) → ∀ i69 : kw_I, i69 = kw_st i51 a0 6 (258 : Int32) → (Q i69)))
def s_X4_step_8 (a0 : Nat) (T : kw_T) (n : Nat) (r : kw_R) (w : kw_L) (Q : kw_I → Prop)  (k8 : kw_I → Prop) (i : kw_I) : Prop :=
  ((i a0 3) ≤ (i a0 4) → w_X4_step_46 a0 T n r w Q  i) ∧ (¬ (i a0 3) ≤ (i a0 4) → kw_in T 1 (r a0 2) (i a0 4) ∧ ((¬ (i (r a0 2) ((i a0 4)).toNatClampNeg) = (32 : Int32) → w_X4_step_46 a0 T n r w Q  i) ∧ ((i (r a0 2) ((i a0 4)).toNatClampNeg) = (32 : Int32) → ∀ i40 : kw_I, i40 = kw_st i a0 4 ((i a0 4) + (1 : Int32)) → (k8 i40))))
def w_X4_step_8 (a0 : Nat) (T : kw_T) (n : Nat) (r : kw_R) (w : kw_L) (Q : kw_I → Prop)  : Nat → kw_I → Prop
  | 0 => fun _ => False
  | N + 1 => s_X4_step_8 a0 T n r w Q  (w_X4_step_8 a0 T n r w Q  N)
def w_X4_step  (a0 : Nat) (T : kw_T) (n : Nat) (r : kw_R) (i : kw_I) (w : kw_L) (Q : kw_I → Prop) : Prop :=
  ∀ i5 : kw_I, i5 = kw_st i a0 4 (i a0 5) → (∃ N, w_X4_step_8 a0 T n r w Q  N i5)
abbrev rm_X4_step : Room := { frames := 1, cells := 0, slots := 0, locals := 60 }
set_option maxHeartbeats 4000000 in
set_option maxRecDepth 100000 in
theorem qs_X4_step_121 {a0 : Nat} {T : kw_T} {n : Nat} {r : kw_R} {w : kw_L} {Q : kw_I → Prop} {E : kw_E} {G : kw_G} (hm : kw_m E G cX4_step 1 RX4 none rm_X4_step "step")  (h0 : T a0 = (0, 4))    {k121 : kw_I → Prop} (hk121 : ∀ (i : kw_I), k121 i → kw_K E G 1 0 0 (kw_Z E G 0 0 (kw_PV (fun T' n' r' i' w' => T = T' ∧ n = n' ∧ r = r' ∧ w = w' ∧ Q i'))) 121 [(0, kw_a a0)] [] T n r i w) (i : kw_I) (h : s_X4_step_121 a0 T n r w Q  k121 i) : kw_K E G 1 0 0 (kw_Z E G 0 0 (kw_PV (fun T' n' r' i' w' => T = T' ∧ n = n' ∧ r = r' ∧ w = w' ∧ Q i'))) 121 [(0, kw_a a0)] [] T n r i w := by
  refine kk_aload_n hm.1 0 dX4_step_121 rfl rfl ?_
  refine kk_getI hm.1 ff_X4_28 dX4_step_122 h0 ?_
  refine kk_aload_n hm.1 0 dX4_step_125 rfl rfl ?_
  refine kk_getI hm.1 ff_X4_21 dX4_step_126 h0 ?_
  refine kk_icmp_ge (tgt := 250) hm.1 dX4_step_129 (by decide) (fun c129 => ?_) (fun c129 => ?_)
  · have h := h.1 c129
    exact kk_vret hm.1 hm.2.1 dX4_step_250 ⟨rfl, rfl, rfl, rfl, rfl, h⟩
  · have h := h.2 c129
    refine kk_aload_n hm.1 0 dX4_step_132 rfl rfl ?_
    refine kk_getR hm.1 ff_X4_18 dX4_step_133 h0 ?_
    refine kk_aload_n hm.1 0 dX4_step_136 rfl rfl ?_
    refine kk_getI hm.1 ff_X4_28 dX4_step_137 h0 ?_
    obtain ⟨o140, h⟩ := h
    refine kk_iaload hm.1 dX4_step_140 o140 ?_
    refine kk_bipush (v := (97 : Int32)) hm.1 dX4_step_141 (by decide) ?_
    refine kk_icmp_lt (tgt := 250) hm.1 dX4_step_143 (by decide) (fun c143 => ?_) (fun c143 => ?_)
    · have h := h.1 c143
      exact kk_vret hm.1 hm.2.1 dX4_step_250 ⟨rfl, rfl, rfl, rfl, rfl, h⟩
    · have h := h.2 c143
      refine kk_aload_n hm.1 0 dX4_step_146 rfl rfl ?_
      refine kk_getR hm.1 ff_X4_18 dX4_step_147 h0 ?_
      refine kk_aload_n hm.1 0 dX4_step_150 rfl rfl ?_
      refine kk_getI hm.1 ff_X4_28 dX4_step_151 h0 ?_
      obtain ⟨o154, h⟩ := h
      refine kk_iaload hm.1 dX4_step_154 o154 ?_
      refine kk_bipush (v := (122 : Int32)) hm.1 dX4_step_155 (by decide) ?_
      refine kk_icmp_gt (tgt := 250) hm.1 dX4_step_157 (by decide) (fun c157 => ?_) (fun c157 => ?_)
      · have h := h.1 c157
        exact kk_vret hm.1 hm.2.1 dX4_step_250 ⟨rfl, rfl, rfl, rfl, rfl, h⟩
      · have h := h.2 c157
        refine kk_aload_n hm.1 0 dX4_step_160 rfl rfl ?_
        refine kk_dup hm.1 dX4_step_161 rfl ?_
        refine kk_getI hm.1 ff_X4_28 dX4_step_162 h0 ?_
        refine kk_iconst (v := (1 : Int32)) hm.1 dX4_step_165 (by decide) ?_
        refine kk_iadd hm.1 dX4_step_166 ?_
        refine kn_putI hm.1 fp_X4_28 dX4_step_167 h0 (fun i167 e167 => ?_)
        have h := h i167 e167
        refine kk_goto (tgt := 121) hm.1 dX4_step_170 (by decide) ?_
        exact hk121 i167 h
set_option maxHeartbeats 4000000 in
set_option maxRecDepth 100000 in
theorem q_X4_step_121 {a0 : Nat} {T : kw_T} {n : Nat} {r : kw_R} {w : kw_L} {Q : kw_I → Prop} {E : kw_E} {G : kw_G} (hm : kw_m E G cX4_step 1 RX4 none rm_X4_step "step")  (h0 : T a0 = (0, 4))    : ∀ (N : Nat) (i : kw_I), w_X4_step_121 a0 T n r w Q  N i → kw_K E G 1 0 0 (kw_Z E G 0 0 (kw_PV (fun T' n' r' i' w' => T = T' ∧ n = n' ∧ r = r' ∧ w = w' ∧ Q i'))) 121 [(0, kw_a a0)] [] T n r i w := by
  intro N
  induction N with
  | zero => intro i h; exact h.elim
  | succ N ih => intro i h; exact qs_X4_step_121 hm  h0  ih i h
set_option maxHeartbeats 4000000 in
set_option maxRecDepth 100000 in
theorem qs_X4_step_198 {a0 : Nat} {T : kw_T} {n : Nat} {r : kw_R} {w : kw_L} {Q : kw_I → Prop} {E : kw_E} {G : kw_G} (hm : kw_m E G cX4_step 1 RX4 none rm_X4_step "step")  (h0 : T a0 = (0, 4))    {k198 : kw_I → Prop} (hk198 : ∀ (i : kw_I), k198 i → kw_K E G 1 0 0 (kw_Z E G 0 0 (kw_PV (fun T' n' r' i' w' => T = T' ∧ n = n' ∧ r = r' ∧ w = w' ∧ Q i'))) 198 [(0, kw_a a0)] [] T n r i w) (i : kw_I) (h : s_X4_step_198 a0 T n r w Q  k198 i) : kw_K E G 1 0 0 (kw_Z E G 0 0 (kw_PV (fun T' n' r' i' w' => T = T' ∧ n = n' ∧ r = r' ∧ w = w' ∧ Q i'))) 198 [(0, kw_a a0)] [] T n r i w := by
  refine kk_aload_n hm.1 0 dX4_step_198 rfl rfl ?_
  refine kk_getI hm.1 ff_X4_28 dX4_step_199 h0 ?_
  refine kk_aload_n hm.1 0 dX4_step_202 rfl rfl ?_
  refine kk_getI hm.1 ff_X4_21 dX4_step_203 h0 ?_
  refine kk_icmp_ge (tgt := 250) hm.1 dX4_step_206 (by decide) (fun c206 => ?_) (fun c206 => ?_)
  · have h := h.1 c206
    exact kk_vret hm.1 hm.2.1 dX4_step_250 ⟨rfl, rfl, rfl, rfl, rfl, h⟩
  · have h := h.2 c206
    refine kk_aload_n hm.1 0 dX4_step_209 rfl rfl ?_
    refine kk_getR hm.1 ff_X4_18 dX4_step_210 h0 ?_
    refine kk_aload_n hm.1 0 dX4_step_213 rfl rfl ?_
    refine kk_getI hm.1 ff_X4_28 dX4_step_214 h0 ?_
    obtain ⟨o217, h⟩ := h
    refine kk_iaload hm.1 dX4_step_217 o217 ?_
    refine kk_bipush (v := (48 : Int32)) hm.1 dX4_step_218 (by decide) ?_
    refine kk_icmp_lt (tgt := 250) hm.1 dX4_step_220 (by decide) (fun c220 => ?_) (fun c220 => ?_)
    · have h := h.1 c220
      exact kk_vret hm.1 hm.2.1 dX4_step_250 ⟨rfl, rfl, rfl, rfl, rfl, h⟩
    · have h := h.2 c220
      refine kk_aload_n hm.1 0 dX4_step_223 rfl rfl ?_
      refine kk_getR hm.1 ff_X4_18 dX4_step_224 h0 ?_
      refine kk_aload_n hm.1 0 dX4_step_227 rfl rfl ?_
      refine kk_getI hm.1 ff_X4_28 dX4_step_228 h0 ?_
      obtain ⟨o231, h⟩ := h
      refine kk_iaload hm.1 dX4_step_231 o231 ?_
      refine kk_bipush (v := (57 : Int32)) hm.1 dX4_step_232 (by decide) ?_
      refine kk_icmp_gt (tgt := 250) hm.1 dX4_step_234 (by decide) (fun c234 => ?_) (fun c234 => ?_)
      · have h := h.1 c234
        exact kk_vret hm.1 hm.2.1 dX4_step_250 ⟨rfl, rfl, rfl, rfl, rfl, h⟩
      · have h := h.2 c234
        refine kk_aload_n hm.1 0 dX4_step_237 rfl rfl ?_
        refine kk_dup hm.1 dX4_step_238 rfl ?_
        refine kk_getI hm.1 ff_X4_28 dX4_step_239 h0 ?_
        refine kk_iconst (v := (1 : Int32)) hm.1 dX4_step_242 (by decide) ?_
        refine kk_iadd hm.1 dX4_step_243 ?_
        refine kn_putI hm.1 fp_X4_28 dX4_step_244 h0 (fun i244 e244 => ?_)
        have h := h i244 e244
        refine kk_goto (tgt := 198) hm.1 dX4_step_247 (by decide) ?_
        exact hk198 i244 h
set_option maxHeartbeats 4000000 in
set_option maxRecDepth 100000 in
theorem q_X4_step_198 {a0 : Nat} {T : kw_T} {n : Nat} {r : kw_R} {w : kw_L} {Q : kw_I → Prop} {E : kw_E} {G : kw_G} (hm : kw_m E G cX4_step 1 RX4 none rm_X4_step "step")  (h0 : T a0 = (0, 4))    : ∀ (N : Nat) (i : kw_I), w_X4_step_198 a0 T n r w Q  N i → kw_K E G 1 0 0 (kw_Z E G 0 0 (kw_PV (fun T' n' r' i' w' => T = T' ∧ n = n' ∧ r = r' ∧ w = w' ∧ Q i'))) 198 [(0, kw_a a0)] [] T n r i w := by
  intro N
  induction N with
  | zero => intro i h; exact h.elim
  | succ N ih => intro i h; exact qs_X4_step_198 hm  h0  ih i h
set_option maxHeartbeats 4000000 in
set_option maxRecDepth 100000 in
theorem q_X4_step_173 {a0 : Nat} {T : kw_T} {n : Nat} {r : kw_R} {w : kw_L} {Q : kw_I → Prop} {E : kw_E} {G : kw_G} (hm : kw_m E G cX4_step 1 RX4 none rm_X4_step "step")  (h0 : T a0 = (0, 4))    (i : kw_I) (h : w_X4_step_173 a0 T n r w Q  i) : kw_K E G 1 0 0 (kw_Z E G 0 0 (kw_PV (fun T' n' r' i' w' => T = T' ∧ n = n' ∧ r = r' ∧ w = w' ∧ Q i'))) 173 [(0, kw_a a0)] [] T n r i w := by
  refine kk_aload_n hm.1 0 dX4_step_173 rfl rfl ?_
  refine kk_getI hm.1 ff_X4_31 dX4_step_174 h0 ?_
  refine kk_bipush (v := (48 : Int32)) hm.1 dX4_step_177 (by decide) ?_
  refine kk_icmp_lt (tgt := 250) hm.1 dX4_step_179 (by decide) (fun c179 => ?_) (fun c179 => ?_)
  · have h := h.1 c179
    exact kk_vret hm.1 hm.2.1 dX4_step_250 ⟨rfl, rfl, rfl, rfl, rfl, h⟩
  · have h := h.2 c179
    refine kk_aload_n hm.1 0 dX4_step_182 rfl rfl ?_
    refine kk_getI hm.1 ff_X4_31 dX4_step_183 h0 ?_
    refine kk_bipush (v := (57 : Int32)) hm.1 dX4_step_186 (by decide) ?_
    refine kk_icmp_gt (tgt := 250) hm.1 dX4_step_188 (by decide) (fun c188 => ?_) (fun c188 => ?_)
    · have h := h.1 c188
      exact kk_vret hm.1 hm.2.1 dX4_step_250 ⟨rfl, rfl, rfl, rfl, rfl, h⟩
    · have h := h.2 c188
      refine kk_aload_n hm.1 0 dX4_step_191 rfl rfl ?_
      refine kk_sipush (v := (257 : Int32)) hm.1 dX4_step_192 (by decide) ?_
      refine kn_putI hm.1 fp_X4_31 dX4_step_195 h0 (fun i195 e195 => ?_)
      have h := h i195 e195
      obtain ⟨N, h⟩ := h
      exact q_X4_step_198 hm  h0   N i195 h
set_option maxHeartbeats 4000000 in
set_option maxRecDepth 100000 in
theorem q_X4_step_46 {a0 : Nat} {T : kw_T} {n : Nat} {r : kw_R} {w : kw_L} {Q : kw_I → Prop} {E : kw_E} {G : kw_G} (hm : kw_m E G cX4_step 1 RX4 none rm_X4_step "step")  (h0 : T a0 = (0, 4))    (i : kw_I) (h : w_X4_step_46 a0 T n r w Q  i) : kw_K E G 1 0 0 (kw_Z E G 0 0 (kw_PV (fun T' n' r' i' w' => T = T' ∧ n = n' ∧ r = r' ∧ w = w' ∧ Q i'))) 46 [(0, kw_a a0)] [] T n r i w := by
  refine kk_aload_n hm.1 0 dX4_step_46 rfl rfl ?_
  refine kk_aload_n hm.1 0 dX4_step_47 rfl rfl ?_
  refine kk_getI hm.1 ff_X4_25 dX4_step_48 h0 ?_
  refine kn_putI hm.1 fp_X4_28 dX4_step_51 h0 (fun i51 e51 => ?_)
  have h := h i51 e51
  refine kk_aload_n hm.1 0 dX4_step_54 rfl rfl ?_
  refine kk_getI hm.1 ff_X4_25 dX4_step_55 h0 ?_
  refine kk_aload_n hm.1 0 dX4_step_58 rfl rfl ?_
  refine kk_getI hm.1 ff_X4_21 dX4_step_59 h0 ?_
  refine kk_icmp_lt (tgt := 73) hm.1 dX4_step_62 (by decide) (fun c62 => ?_) (fun c62 => ?_)
  · have h := h.1 c62
    refine kk_aload_n hm.1 0 dX4_step_73 rfl rfl ?_
    refine kk_aload_n hm.1 0 dX4_step_74 rfl rfl ?_
    refine kk_getR hm.1 ff_X4_18 dX4_step_75 h0 ?_
    refine kk_aload_n hm.1 0 dX4_step_78 rfl rfl ?_
    refine kk_getI hm.1 ff_X4_25 dX4_step_79 h0 ?_
    obtain ⟨o82, h⟩ := h
    refine kk_iaload hm.1 dX4_step_82 o82 ?_
    refine kn_putI hm.1 fp_X4_31 dX4_step_83 h0 (fun i83 e83 => ?_)
    have h := h i83 e83
    refine kk_aload_n hm.1 0 dX4_step_86 rfl rfl ?_
    refine kk_dup hm.1 dX4_step_87 rfl ?_
    refine kk_getI hm.1 ff_X4_28 dX4_step_88 h0 ?_
    refine kk_iconst (v := (1 : Int32)) hm.1 dX4_step_91 (by decide) ?_
    refine kk_iadd hm.1 dX4_step_92 ?_
    refine kn_putI hm.1 fp_X4_28 dX4_step_93 h0 (fun i93 e93 => ?_)
    have h := h i93 e93
    refine kk_aload_n hm.1 0 dX4_step_96 rfl rfl ?_
    refine kk_getI hm.1 ff_X4_31 dX4_step_97 h0 ?_
    refine kk_bipush (v := (97 : Int32)) hm.1 dX4_step_100 (by decide) ?_
    refine kk_icmp_lt (tgt := 173) hm.1 dX4_step_102 (by decide) (fun c102 => ?_) (fun c102 => ?_)
    · have h := h.1 c102
      exact q_X4_step_173 hm  h0   i93 h
    · have h := h.2 c102
      refine kk_aload_n hm.1 0 dX4_step_105 rfl rfl ?_
      refine kk_getI hm.1 ff_X4_31 dX4_step_106 h0 ?_
      refine kk_bipush (v := (122 : Int32)) hm.1 dX4_step_109 (by decide) ?_
      refine kk_icmp_gt (tgt := 173) hm.1 dX4_step_111 (by decide) (fun c111 => ?_) (fun c111 => ?_)
      · have h := h.1 c111
        exact q_X4_step_173 hm  h0   i93 h
      · have h := h.2 c111
        refine kk_aload_n hm.1 0 dX4_step_114 rfl rfl ?_
        refine kk_sipush (v := (256 : Int32)) hm.1 dX4_step_115 (by decide) ?_
        refine kn_putI hm.1 fp_X4_31 dX4_step_118 h0 (fun i118 e118 => ?_)
        have h := h i118 e118
        obtain ⟨N, h⟩ := h
        exact q_X4_step_121 hm  h0   N i118 h
  · have h := h.2 c62
    refine kk_aload_n hm.1 0 dX4_step_65 rfl rfl ?_
    refine kk_sipush (v := (258 : Int32)) hm.1 dX4_step_66 (by decide) ?_
    refine kn_putI hm.1 fp_X4_31 dX4_step_69 h0 (fun i69 e69 => ?_)
    have h := h i69 e69
    exact kk_vret hm.1 hm.2.1 dX4_step_72 ⟨rfl, rfl, rfl, rfl, rfl, h⟩
set_option maxHeartbeats 4000000 in
set_option maxRecDepth 100000 in
theorem qs_X4_step_8 {a0 : Nat} {T : kw_T} {n : Nat} {r : kw_R} {w : kw_L} {Q : kw_I → Prop} {E : kw_E} {G : kw_G} (hm : kw_m E G cX4_step 1 RX4 none rm_X4_step "step")  (h0 : T a0 = (0, 4))    {k8 : kw_I → Prop} (hk8 : ∀ (i : kw_I), k8 i → kw_K E G 1 0 0 (kw_Z E G 0 0 (kw_PV (fun T' n' r' i' w' => T = T' ∧ n = n' ∧ r = r' ∧ w = w' ∧ Q i'))) 8 [(0, kw_a a0)] [] T n r i w) (i : kw_I) (h : s_X4_step_8 a0 T n r w Q  k8 i) : kw_K E G 1 0 0 (kw_Z E G 0 0 (kw_PV (fun T' n' r' i' w' => T = T' ∧ n = n' ∧ r = r' ∧ w = w' ∧ Q i'))) 8 [(0, kw_a a0)] [] T n r i w := by
  refine kk_aload_n hm.1 0 dX4_step_8 rfl rfl ?_
  refine kk_getI hm.1 ff_X4_25 dX4_step_9 h0 ?_
  refine kk_aload_n hm.1 0 dX4_step_12 rfl rfl ?_
  refine kk_getI hm.1 ff_X4_21 dX4_step_13 h0 ?_
  refine kk_icmp_ge (tgt := 46) hm.1 dX4_step_16 (by decide) (fun c16 => ?_) (fun c16 => ?_)
  · have h := h.1 c16
    exact q_X4_step_46 hm  h0   i h
  · have h := h.2 c16
    refine kk_aload_n hm.1 0 dX4_step_19 rfl rfl ?_
    refine kk_getR hm.1 ff_X4_18 dX4_step_20 h0 ?_
    refine kk_aload_n hm.1 0 dX4_step_23 rfl rfl ?_
    refine kk_getI hm.1 ff_X4_25 dX4_step_24 h0 ?_
    obtain ⟨o27, h⟩ := h
    refine kk_iaload hm.1 dX4_step_27 o27 ?_
    refine kk_bipush (v := (32 : Int32)) hm.1 dX4_step_28 (by decide) ?_
    refine kk_icmp_ne (tgt := 46) hm.1 dX4_step_30 (by decide) (fun c30 => ?_) (fun c30 => ?_)
    · have h := h.1 c30
      exact q_X4_step_46 hm  h0   i h
    · have h := h.2 c30
      refine kk_aload_n hm.1 0 dX4_step_33 rfl rfl ?_
      refine kk_dup hm.1 dX4_step_34 rfl ?_
      refine kk_getI hm.1 ff_X4_25 dX4_step_35 h0 ?_
      refine kk_iconst (v := (1 : Int32)) hm.1 dX4_step_38 (by decide) ?_
      refine kk_iadd hm.1 dX4_step_39 ?_
      refine kn_putI hm.1 fp_X4_25 dX4_step_40 h0 (fun i40 e40 => ?_)
      have h := h i40 e40
      refine kk_goto (tgt := 8) hm.1 dX4_step_43 (by decide) ?_
      exact hk8 i40 h
set_option maxHeartbeats 4000000 in
set_option maxRecDepth 100000 in
theorem q_X4_step_8 {a0 : Nat} {T : kw_T} {n : Nat} {r : kw_R} {w : kw_L} {Q : kw_I → Prop} {E : kw_E} {G : kw_G} (hm : kw_m E G cX4_step 1 RX4 none rm_X4_step "step")  (h0 : T a0 = (0, 4))    : ∀ (N : Nat) (i : kw_I), w_X4_step_8 a0 T n r w Q  N i → kw_K E G 1 0 0 (kw_Z E G 0 0 (kw_PV (fun T' n' r' i' w' => T = T' ∧ n = n' ∧ r = r' ∧ w = w' ∧ Q i'))) 8 [(0, kw_a a0)] [] T n r i w := by
  intro N
  induction N with
  | zero => intro i h; exact h.elim
  | succ N ih => intro i h; exact qs_X4_step_8 hm  h0  ih i h
set_option maxHeartbeats 4000000 in
set_option maxRecDepth 100000 in
theorem t_X4_step {l : Launch} {G : kw_G} {a0 : Nat} {T : kw_T} {n : Nat} {r : kw_R} {i : kw_I} {w : kw_L} {Q : kw_I → Prop} (h0 : T a0 = (0, 4)) (h : w_X4_step a0 T n r i w Q) : kw_Met l G yX4_step cX4_step 1 none rm_X4_step [kw_a a0] (T, n, r, i, w) (kw_PV (fun T' n' r' i' w' => T = T' ∧ n = n' ∧ r = r' ∧ w = w' ∧ Q i')) := by
  refine kw_Met.of (by decide) (Nat.le_of_ble_eq_true rfl) fun E hl hRm hE hT hnm => ?_
  have hm : kw_m E G cX4_step 1 RX4 none rm_X4_step "step" := ⟨hE, hT, hRm, hnm⟩
  subst hl
  show kw_K E G 1 0 0 (kw_Z E G 0 0 (kw_PV (fun T' n' r' i' w' => T = T' ∧ n = n' ∧ r = r' ∧ w = w' ∧ Q i'))) 0 [(0, kw_a a0)] [] T n r i w
  refine kk_aload_n hm.1 0 dX4_step_0 rfl rfl ?_
  refine kk_aload_n hm.1 0 dX4_step_1 rfl rfl ?_
  refine kk_getI hm.1 ff_X4_28 dX4_step_2 h0 ?_
  refine kn_putI hm.1 fp_X4_25 dX4_step_5 h0 (fun i5 e5 => ?_)
  have h := h i5 e5
  obtain ⟨N, h⟩ := h
  exact q_X4_step_8 hm  h0   N i5 h
def s_X4_isWord_30 (a0 : Nat) (a1 : Nat) (T : kw_T) (n : Nat) (r : kw_R) (i : kw_I) (w : kw_L) (Q : Int32 → Prop)  (k30 : Int32 → Prop) (x2 : Int32) : Prop :=
  kw_str a1 ∧ (((kw_slen a1) ≤ x2 → Q (1 : Int32)) ∧ (¬ (kw_slen a1) ≤ x2 → kw_in T 1 (r a0 2) ((i a0 4) + x2) ∧ (kw_strj a1 x2 ∧ (((i (r a0 2) (((i a0 4) + x2)).toNatClampNeg) = (kw_schr a1 x2) → k30 ((x2 + (1 : Int32)))) ∧ (¬ (i (r a0 2) (((i a0 4) + x2)).toNatClampNeg) = (kw_schr a1 x2) → Q (0 : Int32))))))
def w_X4_isWord_30 (a0 : Nat) (a1 : Nat) (T : kw_T) (n : Nat) (r : kw_R) (i : kw_I) (w : kw_L) (Q : Int32 → Prop)  : Nat → Int32 → Prop
  | 0 => fun _ => False
  | N + 1 => s_X4_isWord_30 a0 a1 T n r i w Q  (w_X4_isWord_30 a0 a1 T n r i w Q  N)
def w_X4_isWord  (a0 : Nat) (a1 : Nat) (T : kw_T) (n : Nat) (r : kw_R) (i : kw_I) (w : kw_L) (Q : Int32 → Prop) : Prop :=
  (¬ (i a0 6) = (256 : Int32) → Q (0 : Int32)) ∧ ((i a0 6) = (256 : Int32) → kw_str a1 ∧ ((((i a0 5) - (i a0 4)) = (kw_slen a1) → ∃ N, w_X4_isWord_30 a0 a1 T n r i w Q  N ((0 : Int32))) ∧ (¬ ((i a0 5) - (i a0 4)) = (kw_slen a1) → Q (0 : Int32))))
abbrev rm_X4_isWord : Room := { frames := 8, cells := 0, slots := 0, locals := 400 }
set_option maxHeartbeats 4000000 in
set_option maxRecDepth 100000 in
theorem qs_X4_isWord_30 {a0 : Nat} {a1 : Nat} {T : kw_T} {n : Nat} {r : kw_R} {i : kw_I} {w : kw_L} {Q : Int32 → Prop} {E : kw_E} {G : kw_G} (hm : kw_m E G cX4_isWord 3 RX4 (some .boolean) rm_X4_isWord "isWord")  (h0 : T a0 = (0, 4))    {k30 : Int32 → Prop} (hk30 : ∀ (x2 : Int32), k30 x2 → kw_K E G 3 0 0 (kw_Z E G 0 0 (kw_PI (fun v T' n' r' i' w' => T = T' ∧ n = n' ∧ r = r' ∧ i = i' ∧ w = w' ∧ Q v))) 30 [(0, kw_a a0), (1, kw_a a1), (2, kw_i x2)] [] T n r i w) (x2 : Int32) (h : s_X4_isWord_30 a0 a1 T n r i w Q  k30 x2) : kw_K E G 3 0 0 (kw_Z E G 0 0 (kw_PI (fun v T' n' r' i' w' => T = T' ∧ n = n' ∧ r = r' ∧ i = i' ∧ w = w' ∧ Q v))) 30 [(0, kw_a a0), (1, kw_a a1), (2, kw_i x2)] [] T n r i w := by
  refine kk_iload_n hm.1 2 dX4_isWord_30 rfl rfl ?_
  refine kk_aload_n hm.1 1 dX4_isWord_31 rfl rfl ?_
  obtain ⟨o32, h⟩ := h
  refine kn_slen (st := [kw_i x2]) hm.1 wm_X4_137 dX4_isWord_32 hm.2.2.1 (by decide) (by decide) o32 (Nat.le_of_ble_eq_true rfl) ⟨by decide, by decide⟩ ?_
  refine kk_icmp_ge (tgt := 65) hm.1 dX4_isWord_35 (by decide) (fun c35 => ?_) (fun c35 => ?_)
  · have h := h.1 c35
    refine kk_iconst (v := (1 : Int32)) hm.1 dX4_isWord_65 (by decide) ?_
    exact kk_zret hm.1 hm.2.1 dX4_isWord_66 (Or.inr rfl) ⟨_, rfl, rfl, rfl, rfl, rfl, rfl, h⟩
  · have h := h.2 c35
    refine kk_aload_n hm.1 0 dX4_isWord_38 rfl rfl ?_
    refine kk_getR hm.1 ff_X4_18 dX4_isWord_39 h0 ?_
    refine kk_aload_n hm.1 0 dX4_isWord_42 rfl rfl ?_
    refine kk_getI hm.1 ff_X4_25 dX4_isWord_43 h0 ?_
    refine kk_iload_n hm.1 2 dX4_isWord_46 rfl rfl ?_
    refine kk_iadd hm.1 dX4_isWord_47 ?_
    obtain ⟨o48, h⟩ := h
    refine kk_iaload hm.1 dX4_isWord_48 o48 ?_
    refine kk_aload_n hm.1 1 dX4_isWord_49 rfl rfl ?_
    refine kk_iload_n hm.1 2 dX4_isWord_50 rfl rfl ?_
    obtain ⟨o51, h⟩ := h
    refine kn_schr (st := [kw_i (i (r a0 2) (((i a0 4) + x2)).toNatClampNeg)]) hm.1 wm_X4_141 dX4_isWord_51 hm.2.2.1 (by decide) (by decide) o51 (Nat.le_of_ble_eq_true rfl) ⟨by decide, by decide⟩ ?_
    refine kk_icmp_eq (tgt := 59) hm.1 dX4_isWord_54 (by decide) (fun c54 => ?_) (fun c54 => ?_)
    · have h := h.1 c54
      refine kk_iinc (v := (x2 + (1 : Int32))) (L' := [(2, kw_i (x2 + (1 : Int32))), (0, kw_a a0), (1, kw_a a1)]) hm.1 2 dX4_isWord_59 rfl rfl (by decide) rfl ?_
      refine kk_goto (tgt := 30) hm.1 dX4_isWord_62 (by decide) ?_
      refine kk_loc (L' := [(0, kw_a a0), (1, kw_a a1), (2, kw_i (x2 + (1 : Int32)))]) [1, 2, 0] rfl ?_
      exact hk30 ((x2 + (1 : Int32))) h
    · have h := h.2 c54
      refine kk_iconst (v := (0 : Int32)) hm.1 dX4_isWord_57 (by decide) ?_
      exact kk_zret hm.1 hm.2.1 dX4_isWord_58 (Or.inl rfl) ⟨_, rfl, rfl, rfl, rfl, rfl, rfl, h⟩
set_option maxHeartbeats 4000000 in
set_option maxRecDepth 100000 in
theorem q_X4_isWord_30 {a0 : Nat} {a1 : Nat} {T : kw_T} {n : Nat} {r : kw_R} {i : kw_I} {w : kw_L} {Q : Int32 → Prop} {E : kw_E} {G : kw_G} (hm : kw_m E G cX4_isWord 3 RX4 (some .boolean) rm_X4_isWord "isWord")  (h0 : T a0 = (0, 4))    : ∀ (N : Nat) (x2 : Int32), w_X4_isWord_30 a0 a1 T n r i w Q  N x2 → kw_K E G 3 0 0 (kw_Z E G 0 0 (kw_PI (fun v T' n' r' i' w' => T = T' ∧ n = n' ∧ r = r' ∧ i = i' ∧ w = w' ∧ Q v))) 30 [(0, kw_a a0), (1, kw_a a1), (2, kw_i x2)] [] T n r i w := by
  intro N
  induction N with
  | zero => intro x2 h; exact h.elim
  | succ N ih => intro x2 h; exact qs_X4_isWord_30 hm  h0  ih x2 h
set_option maxHeartbeats 4000000 in
set_option maxRecDepth 100000 in
theorem t_X4_isWord {l : Launch} {G : kw_G} {a0 : Nat} {a1 : Nat} {T : kw_T} {n : Nat} {r : kw_R} {i : kw_I} {w : kw_L} {Q : Int32 → Prop} (h0 : T a0 = (0, 4)) (h : w_X4_isWord a0 a1 T n r i w Q) : kw_Met l G yX4_isWord cX4_isWord 3 (some .boolean) rm_X4_isWord [kw_a a0, kw_a a1] (T, n, r, i, w) (kw_PI (fun v T' n' r' i' w' => T = T' ∧ n = n' ∧ r = r' ∧ i = i' ∧ w = w' ∧ Q v)) := by
  refine kw_Met.of (by decide) (Nat.le_of_ble_eq_true rfl) fun E hl hRm hE hT hnm => ?_
  have hm : kw_m E G cX4_isWord 3 RX4 (some .boolean) rm_X4_isWord "isWord" := ⟨hE, hT, hRm, hnm⟩
  subst hl
  show kw_K E G 3 0 0 (kw_Z E G 0 0 (kw_PI (fun v T' n' r' i' w' => T = T' ∧ n = n' ∧ r = r' ∧ i = i' ∧ w = w' ∧ Q v))) 0 [(0, kw_a a0), (1, kw_a a1)] [] T n r i w
  refine kk_aload_n hm.1 0 dX4_isWord_0 rfl rfl ?_
  refine kk_getI hm.1 ff_X4_31 dX4_isWord_1 h0 ?_
  refine kk_sipush (v := (256 : Int32)) hm.1 dX4_isWord_4 (by decide) ?_
  refine kk_icmp_ne (tgt := 26) hm.1 dX4_isWord_7 (by decide) (fun c7 => ?_) (fun c7 => ?_)
  · have h := h.1 c7
    refine kk_iconst (v := (0 : Int32)) hm.1 dX4_isWord_26 (by decide) ?_
    exact kk_zret hm.1 hm.2.1 dX4_isWord_27 (Or.inl rfl) ⟨_, rfl, rfl, rfl, rfl, rfl, rfl, h⟩
  · have h := h.2 c7
    refine kk_aload_n hm.1 0 dX4_isWord_10 rfl rfl ?_
    refine kk_getI hm.1 ff_X4_28 dX4_isWord_11 h0 ?_
    refine kk_aload_n hm.1 0 dX4_isWord_14 rfl rfl ?_
    refine kk_getI hm.1 ff_X4_25 dX4_isWord_15 h0 ?_
    refine kk_isub hm.1 dX4_isWord_18 ?_
    refine kk_aload_n hm.1 1 dX4_isWord_19 rfl rfl ?_
    obtain ⟨o20, h⟩ := h
    refine kn_slen (st := [kw_i ((i a0 5) - (i a0 4))]) hm.1 wm_X4_137 dX4_isWord_20 hm.2.2.1 (by decide) (by decide) o20 (Nat.le_of_ble_eq_true rfl) ⟨by decide, by decide⟩ ?_
    refine kk_icmp_eq (tgt := 28) hm.1 dX4_isWord_23 (by decide) (fun c23 => ?_) (fun c23 => ?_)
    · have h := h.1 c23
      refine kk_iconst (v := (0 : Int32)) hm.1 dX4_isWord_28 (by decide) ?_
      refine kk_istore_n (L' := [(2, kw_i (0 : Int32)), (0, kw_a a0), (1, kw_a a1)]) hm.1 dX4_isWord_29 rfl (by decide) rfl ?_
      refine kk_loc (L' := [(0, kw_a a0), (1, kw_a a1), (2, kw_i (0 : Int32))]) [1, 2, 0] rfl ?_
      obtain ⟨N, h⟩ := h
      exact q_X4_isWord_30 hm  h0   N ((0 : Int32)) h
    · have h := h.2 c23
      refine kk_iconst (v := (0 : Int32)) hm.1 dX4_isWord_26 (by decide) ?_
      exact kk_zret hm.1 hm.2.1 dX4_isWord_27 (Or.inl rfl) ⟨_, rfl, rfl, rfl, rfl, rfl, rfl, h⟩
def w_X4_takeWord  (a0 : Nat) (a1 : Nat) (T : kw_T) (n : Nat) (r : kw_R) (i : kw_I) (w : kw_L) (Q : Int32 → kw_I → Prop) : Prop :=
  w_X4_isWord a0 a1 T n r i w (fun v2 => (¬ v2 = 0 → w_X4_step a0 T n r i w (fun i11 => Q (1 : Int32) i11)) ∧ (v2 = 0 → Q (0 : Int32) i))
abbrev rm_X4_takeWord : Room := { frames := 9, cells := 0, slots := 0, locals := 422 }
set_option maxHeartbeats 4000000 in
set_option maxRecDepth 100000 in
theorem t_X4_takeWord {l : Launch} {G : kw_G} {a0 : Nat} {a1 : Nat} {T : kw_T} {n : Nat} {r : kw_R} {i : kw_I} {w : kw_L} {Q : Int32 → kw_I → Prop} (h0 : T a0 = (0, 4)) (h : w_X4_takeWord a0 a1 T n r i w Q) : kw_Met l G yX4_takeWord cX4_takeWord 2 (some .boolean) rm_X4_takeWord [kw_a a0, kw_a a1] (T, n, r, i, w) (kw_PI (fun v T' n' r' i' w' => T = T' ∧ n = n' ∧ r = r' ∧ w = w' ∧ Q v i')) := by
  refine kw_Met.of (by decide) (Nat.le_of_ble_eq_true rfl) fun E hl hRm hE hT hnm => ?_
  have hm : kw_m E G cX4_takeWord 2 RX4 (some .boolean) rm_X4_takeWord "takeWord" := ⟨hE, hT, hRm, hnm⟩
  subst hl
  show kw_K E G 2 0 0 (kw_Z E G 0 0 (kw_PI (fun v T' n' r' i' w' => T = T' ∧ n = n' ∧ r = r' ∧ w = w' ∧ Q v i'))) 0 [(0, kw_a a0), (1, kw_a a1)] [] T n r i w
  refine kk_aload_n hm.1 0 dX4_takeWord_0 rfl rfl ?_
  refine kk_aload_n hm.1 1 dX4_takeWord_1 rfl rfl ?_
  refine kk_callVi (cs' := 0) (sl' := 0) (st := []) hm.1 cv_X4_98 (t_X4_isWord h0 h) dX4_takeWord_2 h0 rfl rfl hm.2.2.1 ⟨by decide, by decide⟩ ⟨by decide, by decide⟩ rfl rfl (Nat.le_of_ble_eq_true rfl) rfl ?_
  rintro v2 _ _ _ _ _ ⟨rfl, rfl, rfl, rfl, rfl, h⟩
  refine kk_if_ne (tgt := 10) hm.1 dX4_takeWord_5 (by decide) (fun c5 => ?_) (fun c5 => ?_)
  · have h := h.1 c5
    refine kk_aload_n hm.1 0 dX4_takeWord_10 rfl rfl ?_
    refine kk_callVv (cs' := 0) (sl' := 0) (st := []) hm.1 cv_X4_49 (t_X4_step h0 h) dX4_takeWord_11 h0 rfl rfl hm.2.2.1 ⟨by decide, by decide⟩ ⟨by decide, by decide⟩ rfl rfl (Nat.le_of_ble_eq_true rfl) rfl ?_
    rintro _ _ _ i11 _ ⟨rfl, rfl, rfl, rfl, h⟩
    refine kk_iconst (v := (1 : Int32)) hm.1 dX4_takeWord_14 (by decide) ?_
    exact kk_zret hm.1 hm.2.1 dX4_takeWord_15 (Or.inr rfl) ⟨_, rfl, rfl, rfl, rfl, rfl, h⟩
  · have h := h.2 c5
    refine kk_iconst (v := (0 : Int32)) hm.1 dX4_takeWord_8 (by decide) ?_
    exact kk_zret hm.1 hm.2.1 dX4_takeWord_9 (Or.inl rfl) ⟨_, rfl, rfl, rfl, rfl, rfl, h⟩
def w_X4_stick_16 (a0 : Nat) (T : kw_T) (n : Nat) (r : kw_R) (w : kw_L) (Q : kw_I → Prop)  (i : kw_I) : Prop :=
  ∀ i20 : kw_I, i20 = kw_st i a0 6 (259 : Int32) → (Q i20)
def w_X4_stick  (a0 : Nat) (T : kw_T) (n : Nat) (r : kw_R) (i : kw_I) (w : kw_L) (Q : kw_I → Prop) : Prop :=
  (¬ (i a0 9) = (-1 : Int32) → w_X4_stick_16 a0 T n r w Q  i) ∧ ((i a0 9) = (-1 : Int32) → ∀ i13 : kw_I, i13 = kw_st i a0 9 (i a0 4) → (w_X4_stick_16 a0 T n r w Q  i13))
abbrev rm_X4_stick : Room := { frames := 1, cells := 0, slots := 0, locals := 60 }
set_option maxHeartbeats 4000000 in
set_option maxRecDepth 100000 in
theorem q_X4_stick_16 {a0 : Nat} {T : kw_T} {n : Nat} {r : kw_R} {w : kw_L} {Q : kw_I → Prop} {E : kw_E} {G : kw_G} (hm : kw_m E G cX4_stick 1 RX4 none rm_X4_stick "stick")  (h0 : T a0 = (0, 4))    (i : kw_I) (h : w_X4_stick_16 a0 T n r w Q  i) : kw_K E G 1 0 0 (kw_Z E G 0 0 (kw_PV (fun T' n' r' i' w' => T = T' ∧ n = n' ∧ r = r' ∧ w = w' ∧ Q i'))) 16 [(0, kw_a a0)] [] T n r i w := by
  refine kk_aload_n hm.1 0 dX4_stick_16 rfl rfl ?_
  refine kk_sipush (v := (259 : Int32)) hm.1 dX4_stick_17 (by decide) ?_
  refine kn_putI hm.1 fp_X4_31 dX4_stick_20 h0 (fun i20 e20 => ?_)
  have h := h i20 e20
  exact kk_vret hm.1 hm.2.1 dX4_stick_23 ⟨rfl, rfl, rfl, rfl, rfl, h⟩
set_option maxHeartbeats 4000000 in
set_option maxRecDepth 100000 in
theorem t_X4_stick {l : Launch} {G : kw_G} {a0 : Nat} {T : kw_T} {n : Nat} {r : kw_R} {i : kw_I} {w : kw_L} {Q : kw_I → Prop} (h0 : T a0 = (0, 4)) (h : w_X4_stick a0 T n r i w Q) : kw_Met l G yX4_stick cX4_stick 1 none rm_X4_stick [kw_a a0] (T, n, r, i, w) (kw_PV (fun T' n' r' i' w' => T = T' ∧ n = n' ∧ r = r' ∧ w = w' ∧ Q i')) := by
  refine kw_Met.of (by decide) (Nat.le_of_ble_eq_true rfl) fun E hl hRm hE hT hnm => ?_
  have hm : kw_m E G cX4_stick 1 RX4 none rm_X4_stick "stick" := ⟨hE, hT, hRm, hnm⟩
  subst hl
  show kw_K E G 1 0 0 (kw_Z E G 0 0 (kw_PV (fun T' n' r' i' w' => T = T' ∧ n = n' ∧ r = r' ∧ w = w' ∧ Q i'))) 0 [(0, kw_a a0)] [] T n r i w
  refine kk_aload_n hm.1 0 dX4_stick_0 rfl rfl ?_
  refine kk_getI hm.1 ff_X4_40 dX4_stick_1 h0 ?_
  refine kk_iconst (v := (-1 : Int32)) hm.1 dX4_stick_4 (by decide) ?_
  refine kk_icmp_ne (tgt := 16) hm.1 dX4_stick_5 (by decide) (fun c5 => ?_) (fun c5 => ?_)
  · have h := h.1 c5
    exact q_X4_stick_16 hm  h0   i h
  · have h := h.2 c5
    refine kk_aload_n hm.1 0 dX4_stick_8 rfl rfl ?_
    refine kk_aload_n hm.1 0 dX4_stick_9 rfl rfl ?_
    refine kk_getI hm.1 ff_X4_25 dX4_stick_10 h0 ?_
    refine kn_putI hm.1 fp_X4_40 dX4_stick_13 h0 (fun i13 e13 => ?_)
    have h := h i13 e13
    exact q_X4_stick_16 hm  h0   i13 h
def w_X4_takeSign  (a0 : Nat) (x1 : Int32) (T : kw_T) (n : Nat) (r : kw_R) (i : kw_I) (w : kw_L) (Q : kw_I → Prop) : Prop :=
  (¬ (i a0 6) = x1 → w_X4_stick a0 T n r i w (fun i16 => Q i16)) ∧ ((i a0 6) = x1 → w_X4_step a0 T n r i w (fun i9 => Q i9))
abbrev rm_X4_takeSign : Room := { frames := 2, cells := 0, slots := 0, locals := 80 }
set_option maxHeartbeats 4000000 in
set_option maxRecDepth 100000 in
theorem t_X4_takeSign {l : Launch} {G : kw_G} {a0 : Nat} {x1 : Int32} {T : kw_T} {n : Nat} {r : kw_R} {i : kw_I} {w : kw_L} {Q : kw_I → Prop} (h0 : T a0 = (0, 4)) (h : w_X4_takeSign a0 x1 T n r i w Q) : kw_Met l G yX4_takeSign cX4_takeSign 2 none rm_X4_takeSign [kw_a a0, kw_i x1] (T, n, r, i, w) (kw_PV (fun T' n' r' i' w' => T = T' ∧ n = n' ∧ r = r' ∧ w = w' ∧ Q i')) := by
  refine kw_Met.of (by decide) (Nat.le_of_ble_eq_true rfl) fun E hl hRm hE hT hnm => ?_
  have hm : kw_m E G cX4_takeSign 2 RX4 none rm_X4_takeSign "takeSign" := ⟨hE, hT, hRm, hnm⟩
  subst hl
  show kw_K E G 2 0 0 (kw_Z E G 0 0 (kw_PV (fun T' n' r' i' w' => T = T' ∧ n = n' ∧ r = r' ∧ w = w' ∧ Q i'))) 0 [(0, kw_a a0), (1, kw_i x1)] [] T n r i w
  refine kk_aload_n hm.1 0 dX4_takeSign_0 rfl rfl ?_
  refine kk_getI hm.1 ff_X4_31 dX4_takeSign_1 h0 ?_
  refine kk_iload_n hm.1 1 dX4_takeSign_4 rfl rfl ?_
  refine kk_icmp_ne (tgt := 15) hm.1 dX4_takeSign_5 (by decide) (fun c5 => ?_) (fun c5 => ?_)
  · have h := h.1 c5
    refine kk_aload_n hm.1 0 dX4_takeSign_15 rfl rfl ?_
    refine kk_callVv (cs' := 0) (sl' := 0) (st := []) hm.1 cv_X4_58 (t_X4_stick h0 h) dX4_takeSign_16 h0 rfl rfl hm.2.2.1 ⟨by decide, by decide⟩ ⟨by decide, by decide⟩ rfl rfl (Nat.le_of_ble_eq_true rfl) rfl ?_
    rintro _ _ _ i16 _ ⟨rfl, rfl, rfl, rfl, h⟩
    exact kk_vret hm.1 hm.2.1 dX4_takeSign_19 ⟨rfl, rfl, rfl, rfl, rfl, h⟩
  · have h := h.2 c5
    refine kk_aload_n hm.1 0 dX4_takeSign_8 rfl rfl ?_
    refine kk_callVv (cs' := 0) (sl' := 0) (st := []) hm.1 cv_X4_49 (t_X4_step h0 h) dX4_takeSign_9 h0 rfl rfl hm.2.2.1 ⟨by decide, by decide⟩ ⟨by decide, by decide⟩ rfl rfl (Nat.le_of_ble_eq_true rfl) rfl ?_
    rintro _ _ _ i9 _ ⟨rfl, rfl, rfl, rfl, h⟩
    refine kk_goto (tgt := 19) hm.1 dX4_takeSign_12 (by decide) ?_
    exact kk_vret hm.1 hm.2.1 dX4_takeSign_19 ⟨rfl, rfl, rfl, rfl, rfl, h⟩
def s_X4_number_7 (a0 : Nat) (T : kw_T) (n : Nat) (r : kw_R) (i : kw_I) (w : kw_L) (Q : Int32 → Prop)  (k7 : Int32 → Int32 → Prop) (x1 : Int32) (x2 : Int32) : Prop :=
  ((i a0 5) ≤ x2 → Q x1) ∧ (¬ (i a0 5) ≤ x2 → kw_in T 1 (r a0 2) x2 ∧ (((((x1 * (10 : Int32)) + (i (r a0 2) (x2).toNatClampNeg)) - (48 : Int32)) ≤ (1000 : Int32) → k7 ((((x1 * (10 : Int32)) + (i (r a0 2) (x2).toNatClampNeg)) - (48 : Int32))) ((x2 + (1 : Int32)))) ∧ (¬ (((x1 * (10 : Int32)) + (i (r a0 2) (x2).toNatClampNeg)) - (48 : Int32)) ≤ (1000 : Int32) → Q (-1 : Int32))))
def w_X4_number_7 (a0 : Nat) (T : kw_T) (n : Nat) (r : kw_R) (i : kw_I) (w : kw_L) (Q : Int32 → Prop)  : Nat → Int32 → Int32 → Prop
  | 0 => fun _ _ => False
  | N + 1 => s_X4_number_7 a0 T n r i w Q  (w_X4_number_7 a0 T n r i w Q  N)
def w_X4_number  (a0 : Nat) (T : kw_T) (n : Nat) (r : kw_R) (i : kw_I) (w : kw_L) (Q : Int32 → Prop) : Prop :=
  ∃ N, w_X4_number_7 a0 T n r i w Q  N ((0 : Int32)) ((i a0 4))
abbrev rm_X4_number : Room := { frames := 1, cells := 0, slots := 0, locals := 60 }
set_option maxHeartbeats 4000000 in
set_option maxRecDepth 100000 in
theorem qs_X4_number_7 {a0 : Nat} {T : kw_T} {n : Nat} {r : kw_R} {i : kw_I} {w : kw_L} {Q : Int32 → Prop} {E : kw_E} {G : kw_G} (hm : kw_m E G cX4_number 3 RX4 (some .int) rm_X4_number "number")  (h0 : T a0 = (0, 4))    {k7 : Int32 → Int32 → Prop} (hk7 : ∀ (x1 : Int32) (x2 : Int32), k7 x1 x2 → kw_K E G 3 0 0 (kw_Z E G 0 0 (kw_PI (fun v T' n' r' i' w' => T = T' ∧ n = n' ∧ r = r' ∧ i = i' ∧ w = w' ∧ Q v))) 7 [(0, kw_a a0), (1, kw_i x1), (2, kw_i x2)] [] T n r i w) (x1 : Int32) (x2 : Int32) (h : s_X4_number_7 a0 T n r i w Q  k7 x1 x2) : kw_K E G 3 0 0 (kw_Z E G 0 0 (kw_PI (fun v T' n' r' i' w' => T = T' ∧ n = n' ∧ r = r' ∧ i = i' ∧ w = w' ∧ Q v))) 7 [(0, kw_a a0), (1, kw_i x1), (2, kw_i x2)] [] T n r i w := by
  refine kk_iload_n hm.1 2 dX4_number_7 rfl rfl ?_
  refine kk_aload_n hm.1 0 dX4_number_8 rfl rfl ?_
  refine kk_getI hm.1 ff_X4_28 dX4_number_9 h0 ?_
  refine kk_icmp_ge (tgt := 45) hm.1 dX4_number_12 (by decide) (fun c12 => ?_) (fun c12 => ?_)
  · have h := h.1 c12
    refine kk_iload_n hm.1 1 dX4_number_45 rfl rfl ?_
    exact kk_iret hm.1 hm.2.1 dX4_number_46 ⟨_, rfl, rfl, rfl, rfl, rfl, rfl, h⟩
  · have h := h.2 c12
    refine kk_iload_n hm.1 1 dX4_number_15 rfl rfl ?_
    refine kk_bipush (v := (10 : Int32)) hm.1 dX4_number_16 (by decide) ?_
    refine kk_imul hm.1 dX4_number_18 ?_
    refine kk_aload_n hm.1 0 dX4_number_19 rfl rfl ?_
    refine kk_getR hm.1 ff_X4_18 dX4_number_20 h0 ?_
    refine kk_iload_n hm.1 2 dX4_number_23 rfl rfl ?_
    obtain ⟨o24, h⟩ := h
    refine kk_iaload hm.1 dX4_number_24 o24 ?_
    refine kk_iadd hm.1 dX4_number_25 ?_
    refine kk_bipush (v := (48 : Int32)) hm.1 dX4_number_26 (by decide) ?_
    refine kk_isub hm.1 dX4_number_28 ?_
    refine kk_istore_n (L' := [(1, kw_i (((x1 * (10 : Int32)) + (i (r a0 2) (x2).toNatClampNeg)) - (48 : Int32))), (0, kw_a a0), (2, kw_i x2)]) hm.1 dX4_number_29 rfl (by decide) rfl ?_
    refine kk_iload_n hm.1 0 dX4_number_30 rfl rfl ?_
    refine kk_sipush (v := (1000 : Int32)) hm.1 dX4_number_31 (by decide) ?_
    refine kk_icmp_le (tgt := 39) hm.1 dX4_number_34 (by decide) (fun c34 => ?_) (fun c34 => ?_)
    · have h := h.1 c34
      refine kk_iinc (v := (x2 + (1 : Int32))) (L' := [(2, kw_i (x2 + (1 : Int32))), (1, kw_i (((x1 * (10 : Int32)) + (i (r a0 2) (x2).toNatClampNeg)) - (48 : Int32))), (0, kw_a a0)]) hm.1 2 dX4_number_39 rfl rfl (by decide) rfl ?_
      refine kk_goto (tgt := 7) hm.1 dX4_number_42 (by decide) ?_
      refine kk_loc (L' := [(0, kw_a a0), (1, kw_i (((x1 * (10 : Int32)) + (i (r a0 2) (x2).toNatClampNeg)) - (48 : Int32))), (2, kw_i (x2 + (1 : Int32)))]) [2, 1, 0] rfl ?_
      exact hk7 ((((x1 * (10 : Int32)) + (i (r a0 2) (x2).toNatClampNeg)) - (48 : Int32))) ((x2 + (1 : Int32))) h
    · have h := h.2 c34
      refine kk_iconst (v := (-1 : Int32)) hm.1 dX4_number_37 (by decide) ?_
      exact kk_iret hm.1 hm.2.1 dX4_number_38 ⟨_, rfl, rfl, rfl, rfl, rfl, rfl, h⟩
set_option maxHeartbeats 4000000 in
set_option maxRecDepth 100000 in
theorem q_X4_number_7 {a0 : Nat} {T : kw_T} {n : Nat} {r : kw_R} {i : kw_I} {w : kw_L} {Q : Int32 → Prop} {E : kw_E} {G : kw_G} (hm : kw_m E G cX4_number 3 RX4 (some .int) rm_X4_number "number")  (h0 : T a0 = (0, 4))    : ∀ (N : Nat) (x1 : Int32) (x2 : Int32), w_X4_number_7 a0 T n r i w Q  N x1 x2 → kw_K E G 3 0 0 (kw_Z E G 0 0 (kw_PI (fun v T' n' r' i' w' => T = T' ∧ n = n' ∧ r = r' ∧ i = i' ∧ w = w' ∧ Q v))) 7 [(0, kw_a a0), (1, kw_i x1), (2, kw_i x2)] [] T n r i w := by
  intro N
  induction N with
  | zero => intro x1 x2 h; exact h.elim
  | succ N ih => intro x1 x2 h; exact qs_X4_number_7 hm  h0  ih x1 x2 h
set_option maxHeartbeats 4000000 in
set_option maxRecDepth 100000 in
theorem t_X4_number {l : Launch} {G : kw_G} {a0 : Nat} {T : kw_T} {n : Nat} {r : kw_R} {i : kw_I} {w : kw_L} {Q : Int32 → Prop} (h0 : T a0 = (0, 4)) (h : w_X4_number a0 T n r i w Q) : kw_Met l G yX4_number cX4_number 3 (some .int) rm_X4_number [kw_a a0] (T, n, r, i, w) (kw_PI (fun v T' n' r' i' w' => T = T' ∧ n = n' ∧ r = r' ∧ i = i' ∧ w = w' ∧ Q v)) := by
  refine kw_Met.of (by decide) (Nat.le_of_ble_eq_true rfl) fun E hl hRm hE hT hnm => ?_
  have hm : kw_m E G cX4_number 3 RX4 (some .int) rm_X4_number "number" := ⟨hE, hT, hRm, hnm⟩
  subst hl
  show kw_K E G 3 0 0 (kw_Z E G 0 0 (kw_PI (fun v T' n' r' i' w' => T = T' ∧ n = n' ∧ r = r' ∧ i = i' ∧ w = w' ∧ Q v))) 0 [(0, kw_a a0)] [] T n r i w
  refine kk_iconst (v := (0 : Int32)) hm.1 dX4_number_0 (by decide) ?_
  refine kk_istore_n (L' := [(1, kw_i (0 : Int32)), (0, kw_a a0)]) hm.1 dX4_number_1 rfl (by decide) rfl ?_
  refine kk_aload_n hm.1 1 dX4_number_2 rfl rfl ?_
  refine kk_getI hm.1 ff_X4_25 dX4_number_3 h0 ?_
  refine kk_istore_n (L' := [(2, kw_i (i a0 4)), (1, kw_i (0 : Int32)), (0, kw_a a0)]) hm.1 dX4_number_6 rfl (by decide) rfl ?_
  refine kk_loc (L' := [(0, kw_a a0), (1, kw_i (0 : Int32)), (2, kw_i (i a0 4))]) [2, 1, 0] rfl ?_
  obtain ⟨N, h⟩ := h
  exact q_X4_number_7 hm  h0   N ((0 : Int32)) ((i a0 4)) h
def w_X4_word  (a0 : Nat) (T : kw_T) (n : Nat) (r : kw_R) (i : kw_I) (w : kw_L) (Q : Int32 → Prop) : Prop :=
  w_X4_isWord a0 (kw_SB + 1) T n r i w (fun v3 => (v3 = 0 → w_X4_isWord a0 (kw_SB + 2) T n r i w (fun v14 => (v14 = 0 → w_X4_isWord a0 (kw_SB + 3) T n r i w (fun v25 => (v25 = 0 → w_X4_isWord a0 (kw_SB + 4) T n r i w (fun v36 => (v36 = 0 → w_X4_isWord a0 (kw_SB + 5) T n r i w (fun v47 => (v47 = 0 → w_X4_isWord a0 (kw_SB + 6) T n r i w (fun v58 => (v58 = 0 → w_X4_isWord a0 (kw_SB + 7) T n r i w (fun v69 => (v69 = 0 → w_X4_isWord a0 (kw_SB + 8) T n r i w (fun v81 => (v81 = 0 → w_X4_isWord a0 (kw_SB + 9) T n r i w (fun v93 => (v93 = 0 → Q (-1 : Int32)) ∧ (¬ v93 = 0 → Q (8 : Int32)))) ∧ (¬ v81 = 0 → Q (7 : Int32)))) ∧ (¬ v69 = 0 → Q (6 : Int32)))) ∧ (¬ v58 = 0 → Q (5 : Int32)))) ∧ (¬ v47 = 0 → Q (4 : Int32)))) ∧ (¬ v36 = 0 → Q (3 : Int32)))) ∧ (¬ v25 = 0 → Q (2 : Int32)))) ∧ (¬ v14 = 0 → Q (1 : Int32)))) ∧ (¬ v3 = 0 → Q (0 : Int32)))
abbrev rm_X4_word : Room := { frames := 9, cells := 0, slots := 0, locals := 422 }
set_option maxHeartbeats 4000000 in
set_option maxRecDepth 100000 in
theorem t_X4_word {l : Launch} {G : kw_G} {a0 : Nat} {T : kw_T} {n : Nat} {r : kw_R} {i : kw_I} {w : kw_L} {Q : Int32 → Prop} (h0 : T a0 = (0, 4)) (h : w_X4_word a0 T n r i w Q) : kw_Met l G yX4_word cX4_word 1 (some .int) rm_X4_word [kw_a a0] (T, n, r, i, w) (kw_PI (fun v T' n' r' i' w' => T = T' ∧ n = n' ∧ r = r' ∧ i = i' ∧ w = w' ∧ Q v)) := by
  refine kw_Met.of (by decide) (Nat.le_of_ble_eq_true rfl) fun E hl hRm hE hT hnm => ?_
  have hm : kw_m E G cX4_word 1 RX4 (some .int) rm_X4_word "word" := ⟨hE, hT, hRm, hnm⟩
  subst hl
  show kw_K E G 1 0 0 (kw_Z E G 0 0 (kw_PI (fun v T' n' r' i' w' => T = T' ∧ n = n' ∧ r = r' ∧ i = i' ∧ w = w' ∧ Q v))) 0 [(0, kw_a a0)] [] T n r i w
  refine kk_aload_n hm.1 0 dX4_word_0 rfl rfl ?_
  refine kk_ldcS (j := 1) hm.1 dX4_word_1 (by decide) rfl ?_
  refine kk_callVi (cs' := 0) (sl' := 0) (st := []) hm.1 cv_X4_98 (t_X4_isWord h0 h) dX4_word_3 h0 rfl rfl hm.2.2.1 ⟨by decide, by decide⟩ ⟨by decide, by decide⟩ rfl rfl (Nat.le_of_ble_eq_true rfl) rfl ?_
  rintro v3 _ _ _ _ _ ⟨rfl, rfl, rfl, rfl, rfl, h⟩
  refine kk_if_eq (tgt := 11) hm.1 dX4_word_6 (by decide) (fun c6 => ?_) (fun c6 => ?_)
  · have h := h.1 c6
    refine kk_aload_n hm.1 0 dX4_word_11 rfl rfl ?_
    refine kk_ldcS (j := 2) hm.1 dX4_word_12 (by decide) rfl ?_
    refine kk_callVi (cs' := 0) (sl' := 0) (st := []) hm.1 cv_X4_98 (t_X4_isWord h0 h) dX4_word_14 h0 rfl rfl hm.2.2.1 ⟨by decide, by decide⟩ ⟨by decide, by decide⟩ rfl rfl (Nat.le_of_ble_eq_true rfl) rfl ?_
    rintro v14 _ _ _ _ _ ⟨rfl, rfl, rfl, rfl, rfl, h⟩
    refine kk_if_eq (tgt := 22) hm.1 dX4_word_17 (by decide) (fun c17 => ?_) (fun c17 => ?_)
    · have h := h.1 c17
      refine kk_aload_n hm.1 0 dX4_word_22 rfl rfl ?_
      refine kk_ldcS (j := 3) hm.1 dX4_word_23 (by decide) rfl ?_
      refine kk_callVi (cs' := 0) (sl' := 0) (st := []) hm.1 cv_X4_98 (t_X4_isWord h0 h) dX4_word_25 h0 rfl rfl hm.2.2.1 ⟨by decide, by decide⟩ ⟨by decide, by decide⟩ rfl rfl (Nat.le_of_ble_eq_true rfl) rfl ?_
      rintro v25 _ _ _ _ _ ⟨rfl, rfl, rfl, rfl, rfl, h⟩
      refine kk_if_eq (tgt := 33) hm.1 dX4_word_28 (by decide) (fun c28 => ?_) (fun c28 => ?_)
      · have h := h.1 c28
        refine kk_aload_n hm.1 0 dX4_word_33 rfl rfl ?_
        refine kk_ldcS (j := 4) hm.1 dX4_word_34 (by decide) rfl ?_
        refine kk_callVi (cs' := 0) (sl' := 0) (st := []) hm.1 cv_X4_98 (t_X4_isWord h0 h) dX4_word_36 h0 rfl rfl hm.2.2.1 ⟨by decide, by decide⟩ ⟨by decide, by decide⟩ rfl rfl (Nat.le_of_ble_eq_true rfl) rfl ?_
        rintro v36 _ _ _ _ _ ⟨rfl, rfl, rfl, rfl, rfl, h⟩
        refine kk_if_eq (tgt := 44) hm.1 dX4_word_39 (by decide) (fun c39 => ?_) (fun c39 => ?_)
        · have h := h.1 c39
          refine kk_aload_n hm.1 0 dX4_word_44 rfl rfl ?_
          refine kk_ldcS (j := 5) hm.1 dX4_word_45 (by decide) rfl ?_
          refine kk_callVi (cs' := 0) (sl' := 0) (st := []) hm.1 cv_X4_98 (t_X4_isWord h0 h) dX4_word_47 h0 rfl rfl hm.2.2.1 ⟨by decide, by decide⟩ ⟨by decide, by decide⟩ rfl rfl (Nat.le_of_ble_eq_true rfl) rfl ?_
          rintro v47 _ _ _ _ _ ⟨rfl, rfl, rfl, rfl, rfl, h⟩
          refine kk_if_eq (tgt := 55) hm.1 dX4_word_50 (by decide) (fun c50 => ?_) (fun c50 => ?_)
          · have h := h.1 c50
            refine kk_aload_n hm.1 0 dX4_word_55 rfl rfl ?_
            refine kk_ldcS (j := 6) hm.1 dX4_word_56 (by decide) rfl ?_
            refine kk_callVi (cs' := 0) (sl' := 0) (st := []) hm.1 cv_X4_98 (t_X4_isWord h0 h) dX4_word_58 h0 rfl rfl hm.2.2.1 ⟨by decide, by decide⟩ ⟨by decide, by decide⟩ rfl rfl (Nat.le_of_ble_eq_true rfl) rfl ?_
            rintro v58 _ _ _ _ _ ⟨rfl, rfl, rfl, rfl, rfl, h⟩
            refine kk_if_eq (tgt := 66) hm.1 dX4_word_61 (by decide) (fun c61 => ?_) (fun c61 => ?_)
            · have h := h.1 c61
              refine kk_aload_n hm.1 0 dX4_word_66 rfl rfl ?_
              refine kk_ldcS (j := 7) hm.1 dX4_word_67 (by decide) rfl ?_
              refine kk_callVi (cs' := 0) (sl' := 0) (st := []) hm.1 cv_X4_98 (t_X4_isWord h0 h) dX4_word_69 h0 rfl rfl hm.2.2.1 ⟨by decide, by decide⟩ ⟨by decide, by decide⟩ rfl rfl (Nat.le_of_ble_eq_true rfl) rfl ?_
              rintro v69 _ _ _ _ _ ⟨rfl, rfl, rfl, rfl, rfl, h⟩
              refine kk_if_eq (tgt := 78) hm.1 dX4_word_72 (by decide) (fun c72 => ?_) (fun c72 => ?_)
              · have h := h.1 c72
                refine kk_aload_n hm.1 0 dX4_word_78 rfl rfl ?_
                refine kk_ldcS (j := 8) hm.1 dX4_word_79 (by decide) rfl ?_
                refine kk_callVi (cs' := 0) (sl' := 0) (st := []) hm.1 cv_X4_98 (t_X4_isWord h0 h) dX4_word_81 h0 rfl rfl hm.2.2.1 ⟨by decide, by decide⟩ ⟨by decide, by decide⟩ rfl rfl (Nat.le_of_ble_eq_true rfl) rfl ?_
                rintro v81 _ _ _ _ _ ⟨rfl, rfl, rfl, rfl, rfl, h⟩
                refine kk_if_eq (tgt := 90) hm.1 dX4_word_84 (by decide) (fun c84 => ?_) (fun c84 => ?_)
                · have h := h.1 c84
                  refine kk_aload_n hm.1 0 dX4_word_90 rfl rfl ?_
                  refine kk_ldcS (j := 9) hm.1 dX4_word_91 (by decide) rfl ?_
                  refine kk_callVi (cs' := 0) (sl' := 0) (st := []) hm.1 cv_X4_98 (t_X4_isWord h0 h) dX4_word_93 h0 rfl rfl hm.2.2.1 ⟨by decide, by decide⟩ ⟨by decide, by decide⟩ rfl rfl (Nat.le_of_ble_eq_true rfl) rfl ?_
                  rintro v93 _ _ _ _ _ ⟨rfl, rfl, rfl, rfl, rfl, h⟩
                  refine kk_if_eq (tgt := 102) hm.1 dX4_word_96 (by decide) (fun c96 => ?_) (fun c96 => ?_)
                  · have h := h.1 c96
                    refine kk_iconst (v := (-1 : Int32)) hm.1 dX4_word_102 (by decide) ?_
                    exact kk_iret hm.1 hm.2.1 dX4_word_103 ⟨_, rfl, rfl, rfl, rfl, rfl, rfl, h⟩
                  · have h := h.2 c96
                    refine kk_bipush (v := (8 : Int32)) hm.1 dX4_word_99 (by decide) ?_
                    exact kk_iret hm.1 hm.2.1 dX4_word_101 ⟨_, rfl, rfl, rfl, rfl, rfl, rfl, h⟩
                · have h := h.2 c84
                  refine kk_bipush (v := (7 : Int32)) hm.1 dX4_word_87 (by decide) ?_
                  exact kk_iret hm.1 hm.2.1 dX4_word_89 ⟨_, rfl, rfl, rfl, rfl, rfl, rfl, h⟩
              · have h := h.2 c72
                refine kk_bipush (v := (6 : Int32)) hm.1 dX4_word_75 (by decide) ?_
                exact kk_iret hm.1 hm.2.1 dX4_word_77 ⟨_, rfl, rfl, rfl, rfl, rfl, rfl, h⟩
            · have h := h.2 c61
              refine kk_iconst (v := (5 : Int32)) hm.1 dX4_word_64 (by decide) ?_
              exact kk_iret hm.1 hm.2.1 dX4_word_65 ⟨_, rfl, rfl, rfl, rfl, rfl, rfl, h⟩
          · have h := h.2 c50
            refine kk_iconst (v := (4 : Int32)) hm.1 dX4_word_53 (by decide) ?_
            exact kk_iret hm.1 hm.2.1 dX4_word_54 ⟨_, rfl, rfl, rfl, rfl, rfl, rfl, h⟩
        · have h := h.2 c39
          refine kk_iconst (v := (3 : Int32)) hm.1 dX4_word_42 (by decide) ?_
          exact kk_iret hm.1 hm.2.1 dX4_word_43 ⟨_, rfl, rfl, rfl, rfl, rfl, rfl, h⟩
      · have h := h.2 c28
        refine kk_iconst (v := (2 : Int32)) hm.1 dX4_word_31 (by decide) ?_
        exact kk_iret hm.1 hm.2.1 dX4_word_32 ⟨_, rfl, rfl, rfl, rfl, rfl, rfl, h⟩
    · have h := h.2 c17
      refine kk_iconst (v := (1 : Int32)) hm.1 dX4_word_20 (by decide) ?_
      exact kk_iret hm.1 hm.2.1 dX4_word_21 ⟨_, rfl, rfl, rfl, rfl, rfl, rfl, h⟩
  · have h := h.2 c6
    refine kk_iconst (v := (0 : Int32)) hm.1 dX4_word_9 (by decide) ?_
    exact kk_iret hm.1 hm.2.1 dX4_word_10 ⟨_, rfl, rfl, rfl, rfl, rfl, rfl, h⟩
def w_X4_emit  (a0 : Nat) (x1 : Int32) (x2 : Int32) (T : kw_T) (n : Nat) (r : kw_R) (i : kw_I) (w : kw_L) (Q : kw_I → Prop) : Prop :=
  (¬ (i a0 9) = (-1 : Int32) → Q i) ∧ ((i a0 9) = (-1 : Int32) → ((i a0 7) < (400 : Int32) → kw_in T 1 (r a0 0) (i a0 7) ∧ (∀ i32 : kw_I, i32 = kw_st i (r a0 0) ((i a0 7)).toNatClampNeg ((x2 <<< ((4 : Int32) &&& 31)) ||| x1) → (∀ i40 : kw_I, i40 = kw_st i32 a0 7 ((i32 a0 7) + (1 : Int32)) → (Q i40)))) ∧ (¬ (i a0 7) < (400 : Int32) → Q i))
abbrev rm_X4_emit : Room := { frames := 1, cells := 0, slots := 0, locals := 60 }
set_option maxHeartbeats 4000000 in
set_option maxRecDepth 100000 in
theorem t_X4_emit {l : Launch} {G : kw_G} {a0 : Nat} {x1 : Int32} {x2 : Int32} {T : kw_T} {n : Nat} {r : kw_R} {i : kw_I} {w : kw_L} {Q : kw_I → Prop} (h0 : T a0 = (0, 4)) (h : w_X4_emit a0 x1 x2 T n r i w Q) : kw_Met l G yX4_emit cX4_emit 3 none rm_X4_emit [kw_a a0, kw_i x1, kw_i x2] (T, n, r, i, w) (kw_PV (fun T' n' r' i' w' => T = T' ∧ n = n' ∧ r = r' ∧ w = w' ∧ Q i')) := by
  refine kw_Met.of (by decide) (Nat.le_of_ble_eq_true rfl) fun E hl hRm hE hT hnm => ?_
  have hm : kw_m E G cX4_emit 3 RX4 none rm_X4_emit "emit" := ⟨hE, hT, hRm, hnm⟩
  subst hl
  show kw_K E G 3 0 0 (kw_Z E G 0 0 (kw_PV (fun T' n' r' i' w' => T = T' ∧ n = n' ∧ r = r' ∧ w = w' ∧ Q i'))) 0 [(0, kw_a a0), (1, kw_i x1), (2, kw_i x2)] [] T n r i w
  refine kk_aload_n hm.1 0 dX4_emit_0 rfl rfl ?_
  refine kk_getI hm.1 ff_X4_40 dX4_emit_1 h0 ?_
  refine kk_iconst (v := (-1 : Int32)) hm.1 dX4_emit_4 (by decide) ?_
  refine kk_icmp_ne (tgt := 18) hm.1 dX4_emit_5 (by decide) (fun c5 => ?_) (fun c5 => ?_)
  · have h := h.1 c5
    exact kk_vret hm.1 hm.2.1 dX4_emit_18 ⟨rfl, rfl, rfl, rfl, rfl, h⟩
  · have h := h.2 c5
    refine kk_aload_n hm.1 0 dX4_emit_8 rfl rfl ?_
    refine kk_getI hm.1 ff_X4_34 dX4_emit_9 h0 ?_
    refine kk_sipush (v := (400 : Int32)) hm.1 dX4_emit_12 (by decide) ?_
    refine kk_icmp_lt (tgt := 19) hm.1 dX4_emit_15 (by decide) (fun c15 => ?_) (fun c15 => ?_)
    · have h := h.1 c15
      refine kk_aload_n hm.1 0 dX4_emit_19 rfl rfl ?_
      refine kk_getR hm.1 ff_X4_9 dX4_emit_20 h0 ?_
      refine kk_aload_n hm.1 0 dX4_emit_23 rfl rfl ?_
      refine kk_getI hm.1 ff_X4_34 dX4_emit_24 h0 ?_
      refine kk_iload_n hm.1 2 dX4_emit_27 rfl rfl ?_
      refine kk_iconst (v := (4 : Int32)) hm.1 dX4_emit_28 (by decide) ?_
      refine kk_ishl hm.1 dX4_emit_29 ?_
      refine kk_iload_n hm.1 1 dX4_emit_30 rfl rfl ?_
      refine kk_ior hm.1 dX4_emit_31 ?_
      obtain ⟨o32, h⟩ := h
      refine kn_iastore hm.1 dX4_emit_32 o32 (fun i32 e32 => ?_)
      have h := h i32 e32
      refine kk_aload_n hm.1 0 dX4_emit_33 rfl rfl ?_
      refine kk_dup hm.1 dX4_emit_34 rfl ?_
      refine kk_getI hm.1 ff_X4_34 dX4_emit_35 h0 ?_
      refine kk_iconst (v := (1 : Int32)) hm.1 dX4_emit_38 (by decide) ?_
      refine kk_iadd hm.1 dX4_emit_39 ?_
      refine kn_putI hm.1 fp_X4_34 dX4_emit_40 h0 (fun i40 e40 => ?_)
      have h := h i40 e40
      exact kk_vret hm.1 hm.2.1 dX4_emit_43 ⟨rfl, rfl, rfl, rfl, rfl, h⟩
    · have h := h.2 c15
      exact kk_vret hm.1 hm.2.1 dX4_emit_18 ⟨rfl, rfl, rfl, rfl, rfl, h⟩
