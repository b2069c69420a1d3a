def w_X10_bounded_25 (a0 : Nat) (l1 : Int64) (x3 : Int32) (T : kw_T) (n : Nat) (r : kw_R) (w : kw_L) (Q : Int64 → kw_I → Prop)  (i : kw_I) : Prop :=
  ((i a0 20) = 0 → Q l1 i) ∧ (¬ (i a0 20) = 0 → Q (0 : Int64) i)
def w_X10_bounded_20 (a0 : Nat) (l1 : Int64) (x3 : Int32) (T : kw_T) (n : Nat) (r : kw_R) (w : kw_L) (Q : Int64 → kw_I → Prop)  (i : kw_I) : Prop :=
  ∀ i22 : kw_I, i22 = kw_st i a0 20 (1 : Int32) → (w_X10_bounded_25 a0 l1 x3 T n r w Q  i22)
def w_X10_bounded  (a0 : Nat) (l1 : Int64) (x3 : Int32) (T : kw_T) (n : Nat) (r : kw_R) (i : kw_I) (w : kw_L) (Q : Int64 → kw_I → Prop) : Prop :=
  (x3 = 0 → w_X10_bounded_25 a0 l1 x3 T n r w Q  i) ∧ (¬ x3 = 0 → (0 < (lg_cmp l1 (1000000000 : Int64)) → w_X10_bounded_20 a0 l1 x3 T n r w Q  i) ∧ (¬ 0 < (lg_cmp l1 (1000000000 : Int64)) → (0 ≤ (lg_cmp l1 (-1000000000 : Int64)) → w_X10_bounded_25 a0 l1 x3 T n r w Q  i) ∧ (¬ 0 ≤ (lg_cmp l1 (-1000000000 : Int64)) → w_X10_bounded_20 a0 l1 x3 T n r w Q  i)))
abbrev rm_X10_bounded : Room := { frames := 1, cells := 0, slots := 0, locals := 60 }
set_option maxHeartbeats 4000000 in
set_option maxRecDepth 100000 in
theorem q_X10_bounded_25 {a0 : Nat} {l1 : Int64} {x3 : Int32} {T : kw_T} {n : Nat} {r : kw_R} {w : kw_L} {Q : Int64 → kw_I → Prop} {E : kw_E} {G : kw_G} (hm : kw_m E G cX10_bounded 4 RX10 (some .long) rm_X10_bounded "bounded")  (h0 : T a0 = (0, 10))    (i : kw_I) (h : w_X10_bounded_25 a0 l1 x3 T n r w Q  i) : kw_K E G 4 0 0 (kw_Z E G 0 0 (kw_PL (fun v T' n' r' i' w' => T = T' ∧ n = n' ∧ r = r' ∧ w = w' ∧ Q v i'))) 25 [(0, kw_a a0), (1, kw_l l1), (3, kw_i x3)] [] T n r i w := by
  refine kk_aload_n hm.1 0 dX10_bounded_25 rfl rfl ?_
  refine kk_getI hm.1 ff_X10_199 dX10_bounded_26 h0 ?_
  refine kk_if_eq (tgt := 36) hm.1 dX10_bounded_29 (by decide) (fun c29 => ?_) (fun c29 => ?_)
  · have h := h.1 c29
    refine kk_lload_n hm.1 1 dX10_bounded_36 rfl rfl ?_
    exact kk_lret hm.1 hm.2.1 dX10_bounded_37 ⟨_, rfl, rfl, rfl, rfl, rfl, h⟩
  · have h := h.2 c29
    refine kk_lconst (v := (0 : Int64)) hm.1 dX10_bounded_32 (by decide) ?_
    refine kk_goto (tgt := 37) hm.1 dX10_bounded_33 (by decide) ?_
    exact kk_lret hm.1 hm.2.1 dX10_bounded_37 ⟨_, rfl, rfl, rfl, rfl, rfl, h⟩
set_option maxHeartbeats 4000000 in
set_option maxRecDepth 100000 in
theorem q_X10_bounded_20 {a0 : Nat} {l1 : Int64} {x3 : Int32} {T : kw_T} {n : Nat} {r : kw_R} {w : kw_L} {Q : Int64 → kw_I → Prop} {E : kw_E} {G : kw_G} (hm : kw_m E G cX10_bounded 4 RX10 (some .long) rm_X10_bounded "bounded")  (h0 : T a0 = (0, 10))    (i : kw_I) (h : w_X10_bounded_20 a0 l1 x3 T n r w Q  i) : kw_K E G 4 0 0 (kw_Z E G 0 0 (kw_PL (fun v T' n' r' i' w' => T = T' ∧ n = n' ∧ r = r' ∧ w = w' ∧ Q v i'))) 20 [(0, kw_a a0), (1, kw_l l1), (3, kw_i x3)] [] T n r i w := by
  refine kk_aload_n hm.1 0 dX10_bounded_20 rfl rfl ?_
  refine kk_iconst (v := (1 : Int32)) hm.1 dX10_bounded_21 (by decide) ?_
  refine kn_putZ hm.1 fp_X10_199 dX10_bounded_22 h0 (Or.inr rfl) (fun i22 e22 => ?_)
  have h := h i22 e22
  exact q_X10_bounded_25 hm  h0   i22 h
set_option maxHeartbeats 4000000 in
set_option maxRecDepth 100000 in
theorem t_X10_bounded {l : Launch} {G : kw_G} {a0 : Nat} {l1 : Int64} {x3 : Int32} {T : kw_T} {n : Nat} {r : kw_R} {i : kw_I} {w : kw_L} {Q : Int64 → kw_I → Prop} (h0 : T a0 = (0, 10)) (h : w_X10_bounded a0 l1 x3 T n r i w Q) : kw_Met l G yX10_bounded cX10_bounded 4 (some .long) rm_X10_bounded [kw_a a0, kw_l l1, kw_i x3] (T, n, r, i, w) (kw_PL (fun v T' n' r' i' w' => T = T' ∧ n = n' ∧ r = r' ∧ w = w' ∧ Q v i')) := by
  refine kw_Met.of (by decide) (Nat.le_of_ble_eq_true rfl) fun E hl hRm hE hT hnm => ?_
  have hm : kw_m E G cX10_bounded 4 RX10 (some .long) rm_X10_bounded "bounded" := ⟨hE, hT, hRm, hnm⟩
  subst hl
  show kw_K E G 4 0 0 (kw_Z E G 0 0 (kw_PL (fun v T' n' r' i' w' => T = T' ∧ n = n' ∧ r = r' ∧ w = w' ∧ Q v i'))) 0 [(0, kw_a a0), (1, kw_l l1), (3, kw_i x3)] [] T n r i w
  refine kk_iload_n hm.1 2 dX10_bounded_0 rfl rfl ?_
  refine kk_if_eq (tgt := 25) hm.1 dX10_bounded_1 (by decide) (fun c1 => ?_) (fun c1 => ?_)
  · have h := h.1 c1
    exact q_X10_bounded_25 hm  h0   i h
  · have h := h.2 c1
    refine kk_lload_n hm.1 1 dX10_bounded_4 rfl rfl ?_
    refine kk_ldc2 (v := (1000000000 : Int64)) hm.1 dX10_bounded_5 wl_X10_195 ?_
    refine kk_lcmp hm.1 dX10_bounded_8 ?_
    refine kk_if_gt (tgt := 20) hm.1 dX10_bounded_9 (by decide) (fun c9 => ?_) (fun c9 => ?_)
    · have h := h.1 c9
      exact q_X10_bounded_20 hm  h0   i h
    · have h := h.2 c9
      refine kk_lload_n hm.1 1 dX10_bounded_12 rfl rfl ?_
      refine kk_ldc2 (v := (-1000000000 : Int64)) hm.1 dX10_bounded_13 wl_X10_197 ?_
      refine kk_lcmp hm.1 dX10_bounded_16 ?_
      refine kk_if_ge (tgt := 25) hm.1 dX10_bounded_17 (by decide) (fun c17 => ?_) (fun c17 => ?_)
      · have h := h.1 c17
        exact q_X10_bounded_25 hm  h0   i h
      · have h := h.2 c17
        exact q_X10_bounded_20 hm  h0   i h
abbrev rm_X10_partOf (d : Nat) : Room := { frames := 3 + d, cells := 0, slots := 0, locals := 103 + 50 * d }
theorem rms_X10_partOf (d : Nat) {nL' : Nat} (h : nL' ≤ 31) : (rm_X10_partOf d).frames + 1 ≤ (rm_X10_partOf (d + 1)).frames ∧ 8 + (nL' + 11) + (rm_X10_partOf d).locals ≤ (rm_X10_partOf (d + 1)).locals := ⟨by show 3 + d + 1 ≤ 3 + (d + 1); omega, by show 8 + (nL' + 11) + (103 + 50 * d) ≤ 103 + 50 * (d + 1); omega⟩
theorem rmi_X10_partOf (d : Nat) {nL' : Nat} {rm : Room} (h1 : rm.frames + 1 ≤ 3) (h2 : 8 + (nL' + 11) + rm.locals ≤ 103) : rm.frames + 1 ≤ (rm_X10_partOf (d + 1)).frames ∧ 8 + (nL' + 11) + rm.locals ≤ (rm_X10_partOf (d + 1)).locals := ⟨by show _ ≤ 3 + (d + 1); omega, by show _ ≤ 103 + 50 * (d + 1); omega⟩
theorem rmo_X10_partOf {d : Nat} (hd : d ≤ 60) {nL' : Nat} {rm : Room} (h1 : 64 ≤ rm.frames) (h2 : 8 + (nL' + 11) + 3103 ≤ rm.locals) : (rm_X10_partOf d).frames + 1 ≤ rm.frames ∧ 8 + (nL' + 11) + (rm_X10_partOf d).locals ≤ rm.locals := ⟨by show 3 + d + 1 ≤ _; omega, by show 8 + (nL' + 11) + (103 + 50 * d) ≤ _; omega⟩
def w_X10_partOf (k_X10_partOf : Nat → Int32 → kw_T → Nat → kw_R → kw_I → kw_L → (Int64 → kw_I → Prop) → Prop) (k_X10_sumOf : Nat → Int32 → kw_T → Nat → kw_R → kw_I → kw_L → (Int64 → kw_I → Prop) → Prop) (k_X10_termOf : Nat → Int32 → kw_T → Nat → kw_R → kw_I → kw_L → (Int64 → kw_I → Prop) → Prop) (a0 : Nat) (x1 : Int32) (T : kw_T) (n : Nat) (r : kw_R) (i : kw_I) (w : kw_L) (Q : Int64 → kw_I → Prop) : Prop :=
  w_X10_sign (91 : Int32) T n r i w (fun v3 => w_X10_passes0 a0 v3 T n r i w (fun v6 i6 => (v6 = 0 → w_X10_codeAt a0 (i6 a0 18) T n r i6 w (fun v35 => ∀ i46 : kw_I, i46 = kw_st i6 a0 18 ((i6 a0 18) + (1 : Int32)) → ((x1 = 0 → Q (0 : Int64) i46) ∧ (¬ x1 = 0 → ((i46 a0 20) = 0 → (¬ v35 = (50 : Int32) → kw_in T 1 (r a0 21) (v35 - (6 : Int32)) ∧ (Q ((i46 (r a0 21) ((v35 - (6 : Int32))).toNatClampNeg).toInt64) i46)) ∧ (v35 = (50 : Int32) → kw_in T 1 (r a0 2) (((2587 : Int32) + (i46 a0 18)) - (1 : Int32)) ∧ (Q ((i46 (r a0 2) ((((2587 : Int32) + (i46 a0 18)) - (1 : Int32))).toNatClampNeg).toInt64) i46))) ∧ (¬ (i46 a0 20) = 0 → Q (0 : Int64) i46))))) ∧ (¬ v6 = 0 → k_X10_sumOf a0 x1 T n r i6 w (fun v14 i14 => ∀ i25 : kw_I, i25 = kw_st i14 a0 18 ((i14 a0 18) + (1 : Int32)) → (Q v14 i25)))))
set_option maxHeartbeats 4000000 in
set_option maxRecDepth 100000 in
theorem t_X10_partOf {l : Launch} {G : kw_G} {d : Nat} {k_X10_partOf : Nat → Int32 → kw_T → Nat → kw_R → kw_I → kw_L → (Int64 → kw_I → Prop) → Prop} {k_X10_sumOf : Nat → Int32 → kw_T → Nat → kw_R → kw_I → kw_L → (Int64 → kw_I → Prop) → Prop} {k_X10_termOf : Nat → Int32 → kw_T → Nat → kw_R → kw_I → kw_L → (Int64 → kw_I → Prop) → Prop} {a0 : Nat} {x1 : Int32} {T : kw_T} {n : Nat} {r : kw_R} {i : kw_I} {w : kw_L} {Q : Int64 → kw_I → Prop} (hr_X10_partOf : ∀ (a0 : Nat) (x1 : Int32) (T : kw_T) (n : Nat) (r : kw_R) (i : kw_I) (w : kw_L) (Q : Int64 → kw_I → Prop), T a0 = (0, 10) → k_X10_partOf a0 x1 T n r i w Q → kw_Met l G yX10_partOf cX10_partOf 4 (some .long) (rm_X10_partOf d) [kw_a a0, kw_i x1] (T, n, r, i, w) (kw_PL (fun v T' n' r' i' w' => T = T' ∧ n = n' ∧ r = r' ∧ w = w' ∧ Q v i'))) (hr_X10_sumOf : ∀ (a0 : Nat) (x1 : Int32) (T : kw_T) (n : Nat) (r : kw_R) (i : kw_I) (w : kw_L) (Q : Int64 → kw_I → Prop), T a0 = (0, 10) → k_X10_sumOf a0 x1 T n r i w Q → kw_Met l G yX10_sumOf cX10_sumOf 7 (some .long) (rm_X10_partOf d) [kw_a a0, kw_i x1] (T, n, r, i, w) (kw_PL (fun v T' n' r' i' w' => T = T' ∧ n = n' ∧ r = r' ∧ w = w' ∧ Q v i'))) (hr_X10_termOf : ∀ (a0 : Nat) (x1 : Int32) (T : kw_T) (n : Nat) (r : kw_R) (i : kw_I) (w : kw_L) (Q : Int64 → kw_I → Prop), T a0 = (0, 10) → k_X10_termOf a0 x1 T n r i w Q → kw_Met l G yX10_termOf cX10_termOf 7 (some .long) (rm_X10_partOf d) [kw_a a0, kw_i x1] (T, n, r, i, w) (kw_PL (fun v T' n' r' i' w' => T = T' ∧ n = n' ∧ r = r' ∧ w = w' ∧ Q v i'))) (h0 : T a0 = (0, 10)) (h : w_X10_partOf k_X10_partOf k_X10_sumOf k_X10_termOf a0 x1 T n r i w Q) : kw_Met l G yX10_partOf cX10_partOf 4 (some .long) (rm_X10_partOf (d + 1)) [kw_a a0, kw_i x1] (T, n, r, i, w) (kw_PL (fun v T' n' r' i' w' => T = T' ∧ n = n' ∧ r = r' ∧ w = w' ∧ Q v i')) := by
  refine kw_Met.of (by decide) (Nat.le_of_ble_eq_true rfl) fun E hl hRm hE hT hnm => ?_
  have hm : kw_m E G cX10_partOf 4 RX10 (some .long) (rm_X10_partOf (d + 1)) "partOf" := ⟨hE, hT, hRm, hnm⟩
  subst hl
  show kw_K E G 4 0 0 (kw_Z E G 0 0 (kw_PL (fun v T' n' r' i' w' => T = T' ∧ n = n' ∧ r = r' ∧ w = w' ∧ Q v i'))) 0 [(0, kw_a a0), (1, kw_i x1)] [] T n r i w
  refine kk_aload_n hm.1 0 dX10_partOf_0 rfl rfl ?_
  refine kk_bipush (v := (91 : Int32)) hm.1 dX10_partOf_1 (by decide) ?_
  refine kk_callSi (cs' := 0) (sl' := 0) (st := [kw_a a0]) hm.1 cs_X10_164 (t_X10_sign h) dX10_partOf_3 rfl hm.2.2.1 (rmi_X10_partOf d (by decide) (by decide)) ⟨Nat.le_refl _, Nat.le_refl _⟩ rfl rfl (Nat.le_of_ble_eq_true rfl) rfl ?_
  rintro v3 _ _ _ _ _ ⟨rfl, rfl, rfl, rfl, rfl, h⟩
  refine kk_callVi (cs' := 0) (sl' := 0) (st := []) hm.1 cv_X10_214 (t_X10_passes0 h0 h) dX10_partOf_6 h0 rfl rfl hm.2.2.1 (rmi_X10_partOf d (by decide) (by decide)) ⟨Nat.le_refl _, Nat.le_refl _⟩ rfl rfl (Nat.le_of_ble_eq_true rfl) rfl ?_
  rintro v6 _ _ _ i6 _ ⟨rfl, rfl, rfl, rfl, h⟩
  refine kk_if_eq (tgt := 30) hm.1 dX10_partOf_9 (by decide) (fun c9 => ?_) (fun c9 => ?_)
  · have h := h.1 c9
    refine kk_aload_n hm.1 0 dX10_partOf_30 rfl rfl ?_
    refine kk_aload_n hm.1 0 dX10_partOf_31 rfl rfl ?_
    refine kk_getI hm.1 ff_X10_189 dX10_partOf_32 h0 ?_
    refine kk_callVi (cs' := 0) (sl' := 0) (st := []) hm.1 cv_X10_192 (t_X10_codeAt h0 h) dX10_partOf_35 h0 rfl rfl hm.2.2.1 (rmi_X10_partOf d (by decide) (by decide)) ⟨Nat.le_refl _, Nat.le_refl _⟩ rfl rfl (Nat.le_of_ble_eq_true rfl) rfl ?_
    rintro v35 _ _ _ _ _ ⟨rfl, rfl, rfl, rfl, rfl, h⟩
    refine kk_istore_n (L' := [(2, kw_i v35), (0, kw_a a0), (1, kw_i x1)]) hm.1 dX10_partOf_38 rfl (by decide) rfl ?_
    refine kk_aload_n hm.1 1 dX10_partOf_39 rfl rfl ?_
    refine kk_dup hm.1 dX10_partOf_40 rfl ?_
    refine kk_getI hm.1 ff_X10_189 dX10_partOf_41 h0 ?_
    refine kk_iconst (v := (1 : Int32)) hm.1 dX10_partOf_44 (by decide) ?_
    refine kk_iadd hm.1 dX10_partOf_45 ?_
    refine kn_putI hm.1 fp_X10_189 dX10_partOf_46 h0 (fun i46 e46 => ?_)
    have h := h i46 e46
    refine kk_iload_n hm.1 2 dX10_partOf_49 rfl rfl ?_
    refine kk_if_eq (tgt := 60) hm.1 dX10_partOf_50 (by decide) (fun c50 => ?_) (fun c50 => ?_)
    · have h := h.1 c50
      refine kk_lconst (v := (0 : Int64)) hm.1 dX10_partOf_60 (by decide) ?_
      exact kk_lret hm.1 hm.2.1 dX10_partOf_61 ⟨_, rfl, rfl, rfl, rfl, rfl, h⟩
    · have h := h.2 c50
      refine kk_aload_n hm.1 1 dX10_partOf_53 rfl rfl ?_
      refine kk_getI hm.1 ff_X10_199 dX10_partOf_54 h0 ?_
      refine kk_if_eq (tgt := 62) hm.1 dX10_partOf_57 (by decide) (fun c57 => ?_) (fun c57 => ?_)
      · have h := h.1 c57
        refine kk_iload_n hm.1 0 dX10_partOf_62 rfl rfl ?_
        refine kk_bipush (v := (50 : Int32)) hm.1 dX10_partOf_63 (by decide) ?_
        refine kk_icmp_ne (tgt := 87) hm.1 dX10_partOf_65 (by decide) (fun c65 => ?_) (fun c65 => ?_)
        · have h := h.1 c65
          refine kk_aload_n hm.1 1 dX10_partOf_87 rfl rfl ?_
          refine kk_getR hm.1 ff_X10_49 dX10_partOf_88 h0 ?_
          refine kk_iload_n hm.1 0 dX10_partOf_91 rfl rfl ?_
          refine kk_bipush (v := (6 : Int32)) hm.1 dX10_partOf_92 (by decide) ?_
          refine kk_isub hm.1 dX10_partOf_94 ?_
          obtain ⟨o95, h⟩ := h
          refine kk_iaload hm.1 dX10_partOf_95 o95 ?_
          refine kk_i2l hm.1 dX10_partOf_96 ?_
          exact kk_lret hm.1 hm.2.1 dX10_partOf_97 ⟨_, rfl, rfl, rfl, rfl, rfl, h⟩
        · have h := h.2 c65
          refine kk_aload_n hm.1 1 dX10_partOf_68 rfl rfl ?_
          refine kk_getR hm.1 ff_X10_17 dX10_partOf_69 h0 ?_
          refine kk_sipush (v := (2587 : Int32)) hm.1 dX10_partOf_72 (by decide) ?_
          refine kk_aload_n hm.1 1 dX10_partOf_75 rfl rfl ?_
          refine kk_getI hm.1 ff_X10_189 dX10_partOf_76 h0 ?_
          refine kk_iadd hm.1 dX10_partOf_79 ?_
          refine kk_iconst (v := (1 : Int32)) hm.1 dX10_partOf_80 (by decide) ?_
          refine kk_isub hm.1 dX10_partOf_81 ?_
          obtain ⟨o82, h⟩ := h
          refine kk_iaload hm.1 dX10_partOf_82 o82 ?_
          refine kk_i2l hm.1 dX10_partOf_83 ?_
          refine kk_goto (tgt := 97) hm.1 dX10_partOf_84 (by decide) ?_
          exact kk_lret hm.1 hm.2.1 dX10_partOf_97 ⟨_, rfl, rfl, rfl, rfl, rfl, h⟩
      · have h := h.2 c57
        refine kk_lconst (v := (0 : Int64)) hm.1 dX10_partOf_60 (by decide) ?_
        exact kk_lret hm.1 hm.2.1 dX10_partOf_61 ⟨_, rfl, rfl, rfl, rfl, rfl, h⟩
  · have h := h.2 c9
    refine kk_aload_n hm.1 0 dX10_partOf_12 rfl rfl ?_
    refine kk_iload_n hm.1 1 dX10_partOf_13 rfl rfl ?_
    refine kk_callVl (cs' := 0) (sl' := 0) (st := []) hm.1 cv_X10_217 (hr_X10_sumOf a0 x1 T n r i6 w _ h0 h) dX10_partOf_14 h0 rfl rfl hm.2.2.1 (rms_X10_partOf d (by decide)) ⟨Nat.le_refl _, Nat.le_refl _⟩ rfl rfl (Nat.le_of_ble_eq_true rfl) rfl ?_
    rintro v14 _ _ _ i14 _ ⟨rfl, rfl, rfl, rfl, h⟩
    refine kk_lstore_n (L' := [(2, kw_l v14), (0, kw_a a0), (1, kw_i x1)]) hm.1 dX10_partOf_17 rfl (by decide) rfl ?_
    refine kk_aload_n hm.1 1 dX10_partOf_18 rfl rfl ?_
    refine kk_dup hm.1 dX10_partOf_19 rfl ?_
    refine kk_getI hm.1 ff_X10_189 dX10_partOf_20 h0 ?_
    refine kk_iconst (v := (1 : Int32)) hm.1 dX10_partOf_23 (by decide) ?_
    refine kk_iadd hm.1 dX10_partOf_24 ?_
    refine kn_putI hm.1 fp_X10_189 dX10_partOf_25 h0 (fun i25 e25 => ?_)
    have h := h i25 e25
    refine kk_lload_n hm.1 0 dX10_partOf_28 rfl rfl ?_
    exact kk_lret hm.1 hm.2.1 dX10_partOf_29 ⟨_, rfl, rfl, rfl, rfl, rfl, h⟩
def w_X10_sumOf_95 (k_X10_partOf : Nat → Int32 → kw_T → Nat → kw_R → kw_I → kw_L → (Int64 → kw_I → Prop) → Prop) (k_X10_sumOf : Nat → Int32 → kw_T → Nat → kw_R → kw_I → kw_L → (Int64 → kw_I → Prop) → Prop) (k_X10_termOf : Nat → Int32 → kw_T → Nat → kw_R → kw_I → kw_L → (Int64 → kw_I → Prop) → Prop) (a0 : Nat) (x1 : Int32) (T : kw_T) (n : Nat) (r : kw_R) (w : kw_L) (Q : Int64 → kw_I → Prop) (k6 : Int64 → kw_I → Prop) (s0 : Nat) (s1 : Int64) (i : kw_I) : Prop :=
  T s0 = (0, 10) ∧ (w_X10_bounded s0 s1 x1 T n r i w (fun v96 i96 => k6 v96 i96))
def w_X10_sumOf_59 (k_X10_partOf : Nat → Int32 → kw_T → Nat → kw_R → kw_I → kw_L → (Int64 → kw_I → Prop) → Prop) (k_X10_sumOf : Nat → Int32 → kw_T → Nat → kw_R → kw_I → kw_L → (Int64 → kw_I → Prop) → Prop) (k_X10_termOf : Nat → Int32 → kw_T → Nat → kw_R → kw_I → kw_L → (Int64 → kw_I → Prop) → Prop) (a0 : Nat) (x1 : Int32) (T : kw_T) (n : Nat) (r : kw_R) (w : kw_L) (Q : Int64 → kw_I → Prop) (k6 : Int64 → kw_I → Prop) (l2 : Int64) (s0 : Int32) (i : kw_I) : Prop :=
  ∀ i68 : kw_I, i68 = kw_st i a0 18 ((i a0 18) + (1 : Int32)) → (k_X10_termOf a0 x1 T n r i68 w (fun v73 i73 => (s0 = 0 → w_X10_sumOf_95 k_X10_partOf k_X10_sumOf k_X10_termOf a0 x1 T n r w Q k6 a0 ((l2 - v73)) i73) ∧ (¬ s0 = 0 → w_X10_sumOf_95 k_X10_partOf k_X10_sumOf k_X10_termOf a0 x1 T n r w Q k6 a0 ((l2 + v73)) i73)))
def w_X10_sumOf_38 (k_X10_partOf : Nat → Int32 → kw_T → Nat → kw_R → kw_I → kw_L → (Int64 → kw_I → Prop) → Prop) (k_X10_sumOf : Nat → Int32 → kw_T → Nat → kw_R → kw_I → kw_L → (Int64 → kw_I → Prop) → Prop) (k_X10_termOf : Nat → Int32 → kw_T → Nat → kw_R → kw_I → kw_L → (Int64 → kw_I → Prop) → Prop) (a0 : Nat) (x1 : Int32) (T : kw_T) (n : Nat) (r : kw_R) (w : kw_L) (Q : Int64 → kw_I → Prop) (k6 : Int64 → kw_I → Prop) (l2 : Int64) (i : kw_I) : Prop :=
  w_X10_codeAt a0 (i a0 18) T n r i w (fun v43 => w_X10_sign (43 : Int32) T n r i w (fun v48 => (¬ v43 = v48 → w_X10_sumOf_59 k_X10_partOf k_X10_sumOf k_X10_termOf a0 x1 T n r w Q k6 l2 ((0 : Int32)) i) ∧ (v43 = v48 → w_X10_sumOf_59 k_X10_partOf k_X10_sumOf k_X10_termOf a0 x1 T n r w Q k6 l2 ((1 : Int32)) i)))
def s_X10_sumOf_6 (k_X10_partOf : Nat → Int32 → kw_T → Nat → kw_R → kw_I → kw_L → (Int64 → kw_I → Prop) → Prop) (k_X10_sumOf : Nat → Int32 → kw_T → Nat → kw_R → kw_I → kw_L → (Int64 → kw_I → Prop) → Prop) (k_X10_termOf : Nat → Int32 → kw_T → Nat → kw_R → kw_I → kw_L → (Int64 → kw_I → Prop) → Prop) (a0 : Nat) (x1 : Int32) (T : kw_T) (n : Nat) (r : kw_R) (w : kw_L) (Q : Int64 → kw_I → Prop)  (k6 : Int64 → kw_I → Prop) (l2 : Int64) (i : kw_I) : Prop :=
  w_X10_codeAt a0 (i a0 18) T n r i w (fun v11 => w_X10_sign (43 : Int32) T n r i w (fun v16 => (v11 = v16 → w_X10_sumOf_38 k_X10_partOf k_X10_sumOf k_X10_termOf a0 x1 T n r w Q k6 l2 i) ∧ (¬ v11 = v16 → w_X10_codeAt a0 (i a0 18) T n r i w (fun v27 => w_X10_sign (45 : Int32) T n r i w (fun v32 => (¬ v27 = v32 → Q l2 i) ∧ (v27 = v32 → w_X10_sumOf_38 k_X10_partOf k_X10_sumOf k_X10_termOf a0 x1 T n r w Q k6 l2 i))))))
def w_X10_sumOf_6 (k_X10_partOf : Nat → Int32 → kw_T → Nat → kw_R → kw_I → kw_L → (Int64 → kw_I → Prop) → Prop) (k_X10_sumOf : Nat → Int32 → kw_T → Nat → kw_R → kw_I → kw_L → (Int64 → kw_I → Prop) → Prop) (k_X10_termOf : Nat → Int32 → kw_T → Nat → kw_R → kw_I → kw_L → (Int64 → kw_I → Prop) → Prop) (a0 : Nat) (x1 : Int32) (T : kw_T) (n : Nat) (r : kw_R) (w : kw_L) (Q : Int64 → kw_I → Prop)  : Nat → Int64 → kw_I → Prop
  | 0 => fun _ _ => False
  | N + 1 => s_X10_sumOf_6 k_X10_partOf k_X10_sumOf k_X10_termOf a0 x1 T n r w Q  (w_X10_sumOf_6 k_X10_partOf k_X10_sumOf k_X10_termOf a0 x1 T n r w Q  N)
def w_X10_sumOf (k_X10_partOf : Nat → Int32 → kw_T → Nat → kw_R → kw_I → kw_L → (Int64 → kw_I → Prop) → Prop) (k_X10_sumOf : Nat → Int32 → kw_T → Nat → kw_R → kw_I → kw_L → (Int64 → kw_I → Prop) → Prop) (k_X10_termOf : Nat → Int32 → kw_T → Nat → kw_R → kw_I → kw_L → (Int64 → kw_I → Prop) → Prop) (a0 : Nat) (x1 : Int32) (T : kw_T) (n : Nat) (r : kw_R) (i : kw_I) (w : kw_L) (Q : Int64 → kw_I → Prop) : Prop :=
  k_X10_termOf a0 x1 T n r i w (fun v2 i2 => ∃ N, w_X10_sumOf_6 k_X10_partOf k_X10_sumOf k_X10_termOf a0 x1 T n r w Q  N v2 i2)
set_option maxHeartbeats 4000000 in
set_option maxRecDepth 100000 in
theorem q_X10_sumOf_95 {k_X10_partOf : Nat → Int32 → kw_T → Nat → kw_R → kw_I → kw_L → (Int64 → kw_I → Prop) → Prop} {k_X10_sumOf : Nat → Int32 → kw_T → Nat → kw_R → kw_I → kw_L → (Int64 → kw_I → Prop) → Prop} {k_X10_termOf : Nat → Int32 → kw_T → Nat → kw_R → kw_I → kw_L → (Int64 → kw_I → Prop) → Prop} {a0 : Nat} {x1 : Int32} {T : kw_T} {n : Nat} {r : kw_R} {w : kw_L} {Q : Int64 → kw_I → Prop} {E : kw_E} {G : kw_G} {d : Nat} (hm : kw_m E G cX10_sumOf 7 RX10 (some .long) (rm_X10_partOf (d + 1)) "sumOf") (hr_X10_partOf : ∀ (a0 : Nat) (x1 : Int32) (T : kw_T) (n : Nat) (r : kw_R) (i : kw_I) (w : kw_L) (Q : Int64 → kw_I → Prop), T a0 = (0, 10) → k_X10_partOf a0 x1 T n r i w Q → kw_Met E.2.1 G yX10_partOf cX10_partOf 4 (some .long) (rm_X10_partOf d) [kw_a a0, kw_i x1] (T, n, r, i, w) (kw_PL (fun v T' n' r' i' w' => T = T' ∧ n = n' ∧ r = r' ∧ w = w' ∧ Q v i'))) (hr_X10_sumOf : ∀ (a0 : Nat) (x1 : Int32) (T : kw_T) (n : Nat) (r : kw_R) (i : kw_I) (w : kw_L) (Q : Int64 → kw_I → Prop), T a0 = (0, 10) → k_X10_sumOf a0 x1 T n r i w Q → kw_Met E.2.1 G yX10_sumOf cX10_sumOf 7 (some .long) (rm_X10_partOf d) [kw_a a0, kw_i x1] (T, n, r, i, w) (kw_PL (fun v T' n' r' i' w' => T = T' ∧ n = n' ∧ r = r' ∧ w = w' ∧ Q v i'))) (hr_X10_termOf : ∀ (a0 : Nat) (x1 : Int32) (T : kw_T) (n : Nat) (r : kw_R) (i : kw_I) (w : kw_L) (Q : Int64 → kw_I → Prop), T a0 = (0, 10) → k_X10_termOf a0 x1 T n r i w Q → kw_Met E.2.1 G yX10_termOf cX10_termOf 7 (some .long) (rm_X10_partOf d) [kw_a a0, kw_i x1] (T, n, r, i, w) (kw_PL (fun v T' n' r' i' w' => T = T' ∧ n = n' ∧ r = r' ∧ w = w' ∧ Q v i'))) (h0 : T a0 = (0, 10))  {k6 : Int64 → kw_I → Prop} (hk6 : ∀ (l2 : Int64) (i : kw_I), k6 l2 i → kw_K E G 7 0 0 (kw_Z E G 0 0 (kw_PL (fun v T' n' r' i' w' => T = T' ∧ n = n' ∧ r = r' ∧ w = w' ∧ Q v i'))) 6 [(0, kw_a a0), (1, kw_i x1), (2, kw_l l2)] [] T n r i w) (s0 : Nat) (s1 : Int64) (i : kw_I) (h : w_X10_sumOf_95 k_X10_partOf k_X10_sumOf k_X10_termOf a0 x1 T n r w Q k6 s0 s1 i) : kw_K E G 7 0 0 (kw_Z E G 0 0 (kw_PL (fun v T' n' r' i' w' => T = T' ∧ n = n' ∧ r = r' ∧ w = w' ∧ Q v i'))) 95 [(0, kw_a a0), (1, kw_i x1)] [kw_l s1, kw_a s0] T n r i w := by
  refine kk_iload_n hm.1 1 dX10_sumOf_95 rfl rfl ?_
  obtain ⟨o96, h⟩ := h
  refine kk_callVl (cs' := 0) (sl' := 0) (st := []) hm.1 cv_X10_207 (t_X10_bounded o96 h) dX10_sumOf_96 o96 rfl rfl hm.2.2.1 (rmi_X10_partOf d (by decide) (by decide)) ⟨Nat.le_refl _, Nat.le_refl _⟩ rfl rfl (Nat.le_of_ble_eq_true rfl) rfl ?_
  rintro v96 _ _ _ i96 _ ⟨rfl, rfl, rfl, rfl, h⟩
  refine kk_lstore_n (L' := [(2, kw_l v96), (0, kw_a a0), (1, kw_i x1)]) hm.1 dX10_sumOf_99 rfl (by decide) rfl ?_
  refine kk_goto (tgt := 6) hm.1 dX10_sumOf_100 (by decide) ?_
  refine kk_loc (L' := [(0, kw_a a0), (1, kw_i x1), (2, kw_l v96)]) [1, 2, 0] rfl ?_
  exact hk6 v96 i96 h
set_option maxHeartbeats 4000000 in
set_option maxRecDepth 100000 in
theorem q_X10_sumOf_59 {k_X10_partOf : Nat → Int32 → kw_T → Nat → kw_R → kw_I → kw_L → (Int64 → kw_I → Prop) → Prop} {k_X10_sumOf : Nat → Int32 → kw_T → Nat → kw_R → kw_I → kw_L → (Int64 → kw_I → Prop) → Prop} {k_X10_termOf : Nat → Int32 → kw_T → Nat → kw_R → kw_I → kw_L → (Int64 → kw_I → Prop) → Prop} {a0 : Nat} {x1 : Int32} {T : kw_T} {n : Nat} {r : kw_R} {w : kw_L} {Q : Int64 → kw_I → Prop} {E : kw_E} {G : kw_G} {d : Nat} (hm : kw_m E G cX10_sumOf 7 RX10 (some .long) (rm_X10_partOf (d + 1)) "sumOf") (hr_X10_partOf : ∀ (a0 : Nat) (x1 : Int32) (T : kw_T) (n : Nat) (r : kw_R) (i : kw_I) (w : kw_L) (Q : Int64 → kw_I → Prop), T a0 = (0, 10) → k_X10_partOf a0 x1 T n r i w Q → kw_Met E.2.1 G yX10_partOf cX10_partOf 4 (some .long) (rm_X10_partOf d) [kw_a a0, kw_i x1] (T, n, r, i, w) (kw_PL (fun v T' n' r' i' w' => T = T' ∧ n = n' ∧ r = r' ∧ w = w' ∧ Q v i'))) (hr_X10_sumOf : ∀ (a0 : Nat) (x1 : Int32) (T : kw_T) (n : Nat) (r : kw_R) (i : kw_I) (w : kw_L) (Q : Int64 → kw_I → Prop), T a0 = (0, 10) → k_X10_sumOf a0 x1 T n r i w Q → kw_Met E.2.1 G yX10_sumOf cX10_sumOf 7 (some .long) (rm_X10_partOf d) [kw_a a0, kw_i x1] (T, n, r, i, w) (kw_PL (fun v T' n' r' i' w' => T = T' ∧ n = n' ∧ r = r' ∧ w = w' ∧ Q v i'))) (hr_X10_termOf : ∀ (a0 : Nat) (x1 : Int32) (T : kw_T) (n : Nat) (r : kw_R) (i : kw_I) (w : kw_L) (Q : Int64 → kw_I → Prop), T a0 = (0, 10) → k_X10_termOf a0 x1 T n r i w Q → kw_Met E.2.1 G yX10_termOf cX10_termOf 7 (some .long) (rm_X10_partOf d) [kw_a a0, kw_i x1] (T, n, r, i, w) (kw_PL (fun v T' n' r' i' w' => T = T' ∧ n = n' ∧ r = r' ∧ w = w' ∧ Q v i'))) (h0 : T a0 = (0, 10))  {k6 : Int64 → kw_I → Prop} (hk6 : ∀ (l2 : Int64) (i : kw_I), k6 l2 i → kw_K E G 7 0 0 (kw_Z E G 0 0 (kw_PL (fun v T' n' r' i' w' => T = T' ∧ n = n' ∧ r = r' ∧ w = w' ∧ Q v i'))) 6 [(0, kw_a a0), (1, kw_i x1), (2, kw_l l2)] [] T n r i w) (l2 : Int64) (s0 : Int32) (i : kw_I) (h : w_X10_sumOf_59 k_X10_partOf k_X10_sumOf k_X10_termOf a0 x1 T n r w Q k6 l2 s0 i) : kw_K E G 7 0 0 (kw_Z E G 0 0 (kw_PL (fun v T' n' r' i' w' => T = T' ∧ n = n' ∧ r = r' ∧ w = w' ∧ Q v i'))) 59 [(0, kw_a a0), (1, kw_i x1), (2, kw_l l2)] [kw_i s0] T n r i w := by
  refine kk_istore (L' := [(4, kw_i s0), (0, kw_a a0), (1, kw_i x1), (2, kw_l l2)]) hm.1 dX10_sumOf_59 (by decide) rfl ?_
  refine kk_aload_n hm.1 1 dX10_sumOf_61 rfl rfl ?_
  refine kk_dup hm.1 dX10_sumOf_62 rfl ?_
  refine kk_getI hm.1 ff_X10_189 dX10_sumOf_63 h0 ?_
  refine kk_iconst (v := (1 : Int32)) hm.1 dX10_sumOf_66 (by decide) ?_
  refine kk_iadd hm.1 dX10_sumOf_67 ?_
  refine kn_putI hm.1 fp_X10_189 dX10_sumOf_68 h0 (fun i68 e68 => ?_)
  have h := h i68 e68
  refine kk_aload_n hm.1 1 dX10_sumOf_71 rfl rfl ?_
  refine kk_iload_n hm.1 2 dX10_sumOf_72 rfl rfl ?_
  refine kk_callVl (cs' := 0) (sl' := 0) (st := []) hm.1 cv_X10_203 (hr_X10_termOf a0 x1 T n r i68 w _ h0 h) dX10_sumOf_73 h0 rfl rfl hm.2.2.1 (rms_X10_partOf d (by decide)) ⟨Nat.le_refl _, Nat.le_refl _⟩ rfl rfl (Nat.le_of_ble_eq_true rfl) rfl ?_
  rintro v73 _ _ _ i73 _ ⟨rfl, rfl, rfl, rfl, h⟩
  refine kk_lstore (L' := [(5, kw_l v73), (4, kw_i s0), (0, kw_a a0), (1, kw_i x1), (2, kw_l l2)]) hm.1 dX10_sumOf_76 (by decide) rfl ?_
  refine kk_aload_n hm.1 2 dX10_sumOf_78 rfl rfl ?_
  refine kk_iload hm.1 1 dX10_sumOf_79 rfl ?_
  refine kk_if_eq (tgt := 91) hm.1 dX10_sumOf_81 (by decide) (fun c81 => ?_) (fun c81 => ?_)
  · have h := h.1 c81
    refine kk_lload_n hm.1 4 dX10_sumOf_91 rfl rfl ?_
    refine kk_lload hm.1 0 dX10_sumOf_92 rfl ?_
    refine kk_lsub hm.1 dX10_sumOf_94 ?_
    refine kk_loc (L' := [(0, kw_a a0), (1, kw_i x1)]) [2, 3] rfl ?_
    exact q_X10_sumOf_95 hm hr_X10_partOf hr_X10_sumOf hr_X10_termOf h0  hk6 a0 ((l2 - v73)) i73 h
  · have h := h.2 c81
    refine kk_lload_n hm.1 4 dX10_sumOf_84 rfl rfl ?_
    refine kk_lload hm.1 0 dX10_sumOf_85 rfl ?_
    refine kk_ladd hm.1 dX10_sumOf_87 ?_
    refine kk_goto (tgt := 95) hm.1 dX10_sumOf_88 (by decide) ?_
    refine kk_loc (L' := [(0, kw_a a0), (1, kw_i x1)]) [2, 3] rfl ?_
    exact q_X10_sumOf_95 hm hr_X10_partOf hr_X10_sumOf hr_X10_termOf h0  hk6 a0 ((l2 + v73)) i73 h
set_option maxHeartbeats 4000000 in
set_option maxRecDepth 100000 in
theorem q_X10_sumOf_38 {k_X10_partOf : Nat → Int32 → kw_T → Nat → kw_R → kw_I → kw_L → (Int64 → kw_I → Prop) → Prop} {k_X10_sumOf : Nat → Int32 → kw_T → Nat → kw_R → kw_I → kw_L → (Int64 → kw_I → Prop) → Prop} {k_X10_termOf : Nat → Int32 → kw_T → Nat → kw_R → kw_I → kw_L → (Int64 → kw_I → Prop) → Prop} {a0 : Nat} {x1 : Int32} {T : kw_T} {n : Nat} {r : kw_R} {w : kw_L} {Q : Int64 → kw_I → Prop} {E : kw_E} {G : kw_G} {d : Nat} (hm : kw_m E G cX10_sumOf 7 RX10 (some .long) (rm_X10_partOf (d + 1)) "sumOf") (hr_X10_partOf : ∀ (a0 : Nat) (x1 : Int32) (T : kw_T) (n : Nat) (r : kw_R) (i : kw_I) (w : kw_L) (Q : Int64 → kw_I → Prop), T a0 = (0, 10) → k_X10_partOf a0 x1 T n r i w Q → kw_Met E.2.1 G yX10_partOf cX10_partOf 4 (some .long) (rm_X10_partOf d) [kw_a a0, kw_i x1] (T, n, r, i, w) (kw_PL (fun v T' n' r' i' w' => T = T' ∧ n = n' ∧ r = r' ∧ w = w' ∧ Q v i'))) (hr_X10_sumOf : ∀ (a0 : Nat) (x1 : Int32) (T : kw_T) (n : Nat) (r : kw_R) (i : kw_I) (w : kw_L) (Q : Int64 → kw_I → Prop), T a0 = (0, 10) → k_X10_sumOf a0 x1 T n r i w Q → kw_Met E.2.1 G yX10_sumOf cX10_sumOf 7 (some .long) (rm_X10_partOf d) [kw_a a0, kw_i x1] (T, n, r, i, w) (kw_PL (fun v T' n' r' i' w' => T = T' ∧ n = n' ∧ r = r' ∧ w = w' ∧ Q v i'))) (hr_X10_termOf : ∀ (a0 : Nat) (x1 : Int32) (T : kw_T) (n : Nat) (r : kw_R) (i : kw_I) (w : kw_L) (Q : Int64 → kw_I → Prop), T a0 = (0, 10) → k_X10_termOf a0 x1 T n r i w Q → kw_Met E.2.1 G yX10_termOf cX10_termOf 7 (some .long) (rm_X10_partOf d) [kw_a a0, kw_i x1] (T, n, r, i, w) (kw_PL (fun v T' n' r' i' w' => T = T' ∧ n = n' ∧ r = r' ∧ w = w' ∧ Q v i'))) (h0 : T a0 = (0, 10))  {k6 : Int64 → kw_I → Prop} (hk6 : ∀ (l2 : Int64) (i : kw_I), k6 l2 i → kw_K E G 7 0 0 (kw_Z E G 0 0 (kw_PL (fun v T' n' r' i' w' => T = T' ∧ n = n' ∧ r = r' ∧ w = w' ∧ Q v i'))) 6 [(0, kw_a a0), (1, kw_i x1), (2, kw_l l2)] [] T n r i w) (l2 : Int64) (i : kw_I) (h : w_X10_sumOf_38 k_X10_partOf k_X10_sumOf k_X10_termOf a0 x1 T n r w Q k6 l2 i) : kw_K E G 7 0 0 (kw_Z E G 0 0 (kw_PL (fun v T' n' r' i' w' => T = T' ∧ n = n' ∧ r = r' ∧ w = w' ∧ Q v i'))) 38 [(0, kw_a a0), (1, kw_i x1), (2, kw_l l2)] [] T n r i w := by
  refine kk_aload_n hm.1 0 dX10_sumOf_38 rfl rfl ?_
  refine kk_aload_n hm.1 0 dX10_sumOf_39 rfl rfl ?_
  refine kk_getI hm.1 ff_X10_189 dX10_sumOf_40 h0 ?_
  refine kk_callVi (cs' := 0) (sl' := 0) (st := []) hm.1 cv_X10_192 (t_X10_codeAt h0 h) dX10_sumOf_43 h0 rfl rfl hm.2.2.1 (rmi_X10_partOf d (by decide) (by decide)) ⟨Nat.le_refl _, Nat.le_refl _⟩ rfl rfl (Nat.le_of_ble_eq_true rfl) rfl ?_
  rintro v43 _ _ _ _ _ ⟨rfl, rfl, rfl, rfl, rfl, h⟩
  refine kk_bipush (v := (43 : Int32)) hm.1 dX10_sumOf_46 (by decide) ?_
  refine kk_callSi (cs' := 0) (sl' := 0) (st := [kw_i v43]) hm.1 cs_X10_164 (t_X10_sign h) dX10_sumOf_48 rfl hm.2.2.1 (rmi_X10_partOf d (by decide) (by decide)) ⟨Nat.le_refl _, Nat.le_refl _⟩ rfl rfl (Nat.le_of_ble_eq_true rfl) rfl ?_
  rintro v48 _ _ _ _ _ ⟨rfl, rfl, rfl, rfl, rfl, h⟩
  refine kk_icmp_ne (tgt := 58) hm.1 dX10_sumOf_51 (by decide) (fun c51 => ?_) (fun c51 => ?_)
  · have h := h.1 c51
    refine kk_iconst (v := (0 : Int32)) hm.1 dX10_sumOf_58 (by decide) ?_
    exact q_X10_sumOf_59 hm hr_X10_partOf hr_X10_sumOf hr_X10_termOf h0  hk6 l2 ((0 : Int32)) i h
  · have h := h.2 c51
    refine kk_iconst (v := (1 : Int32)) hm.1 dX10_sumOf_54 (by decide) ?_
    refine kk_goto (tgt := 59) hm.1 dX10_sumOf_55 (by decide) ?_
    exact q_X10_sumOf_59 hm hr_X10_partOf hr_X10_sumOf hr_X10_termOf h0  hk6 l2 ((1 : Int32)) i h
set_option maxHeartbeats 4000000 in
set_option maxRecDepth 100000 in
theorem qs_X10_sumOf_6 {k_X10_partOf : Nat → Int32 → kw_T → Nat → kw_R → kw_I → kw_L → (Int64 → kw_I → Prop) → Prop} {k_X10_sumOf : Nat → Int32 → kw_T → Nat → kw_R → kw_I → kw_L → (Int64 → kw_I → Prop) → Prop} {k_X10_termOf : Nat → Int32 → kw_T → Nat → kw_R → kw_I → kw_L → (Int64 → kw_I → Prop) → Prop} {a0 : Nat} {x1 : Int32} {T : kw_T} {n : Nat} {r : kw_R} {w : kw_L} {Q : Int64 → kw_I → Prop} {E : kw_E} {G : kw_G} {d : Nat} (hm : kw_m E G cX10_sumOf 7 RX10 (some .long) (rm_X10_partOf (d + 1)) "sumOf") (hr_X10_partOf : ∀ (a0 : Nat) (x1 : Int32) (T : kw_T) (n : Nat) (r : kw_R) (i : kw_I) (w : kw_L) (Q : Int64 → kw_I → Prop), T a0 = (0, 10) → k_X10_partOf a0 x1 T n r i w Q → kw_Met E.2.1 G yX10_partOf cX10_partOf 4 (some .long) (rm_X10_partOf d) [kw_a a0, kw_i x1] (T, n, r, i, w) (kw_PL (fun v T' n' r' i' w' => T = T' ∧ n = n' ∧ r = r' ∧ w = w' ∧ Q v i'))) (hr_X10_sumOf : ∀ (a0 : Nat) (x1 : Int32) (T : kw_T) (n : Nat) (r : kw_R) (i : kw_I) (w : kw_L) (Q : Int64 → kw_I → Prop), T a0 = (0, 10) → k_X10_sumOf a0 x1 T n r i w Q → kw_Met E.2.1 G yX10_sumOf cX10_sumOf 7 (some .long) (rm_X10_partOf d) [kw_a a0, kw_i x1] (T, n, r, i, w) (kw_PL (fun v T' n' r' i' w' => T = T' ∧ n = n' ∧ r = r' ∧ w = w' ∧ Q v i'))) (hr_X10_termOf : ∀ (a0 : Nat) (x1 : Int32) (T : kw_T) (n : Nat) (r : kw_R) (i : kw_I) (w : kw_L) (Q : Int64 → kw_I → Prop), T a0 = (0, 10) → k_X10_termOf a0 x1 T n r i w Q → kw_Met E.2.1 G yX10_termOf cX10_termOf 7 (some .long) (rm_X10_partOf d) [kw_a a0, kw_i x1] (T, n, r, i, w) (kw_PL (fun v T' n' r' i' w' => T = T' ∧ n = n' ∧ r = r' ∧ w = w' ∧ Q v i'))) (h0 : T a0 = (0, 10))    {k6 : Int64 → kw_I → Prop} (hk6 : ∀ (l2 : Int64) (i : kw_I), k6 l2 i → kw_K E G 7 0 0 (kw_Z E G 0 0 (kw_PL (fun v T' n' r' i' w' => T = T' ∧ n = n' ∧ r = r' ∧ w = w' ∧ Q v i'))) 6 [(0, kw_a a0), (1, kw_i x1), (2, kw_l l2)] [] T n r i w) (l2 : Int64) (i : kw_I) (h : s_X10_sumOf_6 k_X10_partOf k_X10_sumOf k_X10_termOf a0 x1 T n r w Q  k6 l2 i) : kw_K E G 7 0 0 (kw_Z E G 0 0 (kw_PL (fun v T' n' r' i' w' => T = T' ∧ n = n' ∧ r = r' ∧ w = w' ∧ Q v i'))) 6 [(0, kw_a a0), (1, kw_i x1), (2, kw_l l2)] [] T n r i w := by
  refine kk_aload_n hm.1 0 dX10_sumOf_6 rfl rfl ?_
  refine kk_aload_n hm.1 0 dX10_sumOf_7 rfl rfl ?_
  refine kk_getI hm.1 ff_X10_189 dX10_sumOf_8 h0 ?_
  refine kk_callVi (cs' := 0) (sl' := 0) (st := []) hm.1 cv_X10_192 (t_X10_codeAt h0 h) dX10_sumOf_11 h0 rfl rfl hm.2.2.1 (rmi_X10_partOf d (by decide) (by decide)) ⟨Nat.le_refl _, Nat.le_refl _⟩ rfl rfl (Nat.le_of_ble_eq_true rfl) rfl ?_
  rintro v11 _ _ _ _ _ ⟨rfl, rfl, rfl, rfl, rfl, h⟩
  refine kk_bipush (v := (43 : Int32)) hm.1 dX10_sumOf_14 (by decide) ?_
  refine kk_callSi (cs' := 0) (sl' := 0) (st := [kw_i v11]) hm.1 cs_X10_164 (t_X10_sign h) dX10_sumOf_16 rfl hm.2.2.1 (rmi_X10_partOf d (by decide) (by decide)) ⟨Nat.le_refl _, Nat.le_refl _⟩ rfl rfl (Nat.le_of_ble_eq_true rfl) rfl ?_
  rintro v16 _ _ _ _ _ ⟨rfl, rfl, rfl, rfl, rfl, h⟩
  refine kk_icmp_eq (tgt := 38) hm.1 dX10_sumOf_19 (by decide) (fun c19 => ?_) (fun c19 => ?_)
  · have h := h.1 c19
    exact q_X10_sumOf_38 hm hr_X10_partOf hr_X10_sumOf hr_X10_termOf h0  hk6 l2 i h
  · have h := h.2 c19
    refine kk_aload_n hm.1 0 dX10_sumOf_22 rfl rfl ?_
    refine kk_aload_n hm.1 0 dX10_sumOf_23 rfl rfl ?_
    refine kk_getI hm.1 ff_X10_189 dX10_sumOf_24 h0 ?_
    refine kk_callVi (cs' := 0) (sl' := 0) (st := []) hm.1 cv_X10_192 (t_X10_codeAt h0 h) dX10_sumOf_27 h0 rfl rfl hm.2.2.1 (rmi_X10_partOf d (by decide) (by decide)) ⟨Nat.le_refl _, Nat.le_refl _⟩ rfl rfl (Nat.le_of_ble_eq_true rfl) rfl ?_
    rintro v27 _ _ _ _ _ ⟨rfl, rfl, rfl, rfl, rfl, h⟩
    refine kk_bipush (v := (45 : Int32)) hm.1 dX10_sumOf_30 (by decide) ?_
    refine kk_callSi (cs' := 0) (sl' := 0) (st := [kw_i v27]) hm.1 cs_X10_164 (t_X10_sign h) dX10_sumOf_32 rfl hm.2.2.1 (rmi_X10_partOf d (by decide) (by decide)) ⟨Nat.le_refl _, Nat.le_refl _⟩ rfl rfl (Nat.le_of_ble_eq_true rfl) rfl ?_
    rintro v32 _ _ _ _ _ ⟨rfl, rfl, rfl, rfl, rfl, h⟩
    refine kk_icmp_ne (tgt := 103) hm.1 dX10_sumOf_35 (by decide) (fun c35 => ?_) (fun c35 => ?_)
    · have h := h.1 c35
      refine kk_lload_n hm.1 2 dX10_sumOf_103 rfl rfl ?_
      exact kk_lret hm.1 hm.2.1 dX10_sumOf_104 ⟨_, rfl, rfl, rfl, rfl, rfl, h⟩
    · have h := h.2 c35
      exact q_X10_sumOf_38 hm hr_X10_partOf hr_X10_sumOf hr_X10_termOf h0  hk6 l2 i h
set_option maxHeartbeats 4000000 in
set_option maxRecDepth 100000 in
theorem q_X10_sumOf_6 {k_X10_partOf : Nat → Int32 → kw_T → Nat → kw_R → kw_I → kw_L → (Int64 → kw_I → Prop) → Prop} {k_X10_sumOf : Nat → Int32 → kw_T → Nat → kw_R → kw_I → kw_L → (Int64 → kw_I → Prop) → Prop} {k_X10_termOf : Nat → Int32 → kw_T → Nat → kw_R → kw_I → kw_L → (Int64 → kw_I → Prop) → Prop} {a0 : Nat} {x1 : Int32} {T : kw_T} {n : Nat} {r : kw_R} {w : kw_L} {Q : Int64 → kw_I → Prop} {E : kw_E} {G : kw_G} {d : Nat} (hm : kw_m E G cX10_sumOf 7 RX10 (some .long) (rm_X10_partOf (d + 1)) "sumOf") (hr_X10_partOf : ∀ (a0 : Nat) (x1 : Int32) (T : kw_T) (n : Nat) (r : kw_R) (i : kw_I) (w : kw_L) (Q : Int64 → kw_I → Prop), T a0 = (0, 10) → k_X10_partOf a0 x1 T n r i w Q → kw_Met E.2.1 G yX10_partOf cX10_partOf 4 (some .long) (rm_X10_partOf d) [kw_a a0, kw_i x1] (T, n, r, i, w) (kw_PL (fun v T' n' r' i' w' => T = T' ∧ n = n' ∧ r = r' ∧ w = w' ∧ Q v i'))) (hr_X10_sumOf : ∀ (a0 : Nat) (x1 : Int32) (T : kw_T) (n : Nat) (r : kw_R) (i : kw_I) (w : kw_L) (Q : Int64 → kw_I → Prop), T a0 = (0, 10) → k_X10_sumOf a0 x1 T n r i w Q → kw_Met E.2.1 G yX10_sumOf cX10_sumOf 7 (some .long) (rm_X10_partOf d) [kw_a a0, kw_i x1] (T, n, r, i, w) (kw_PL (fun v T' n' r' i' w' => T = T' ∧ n = n' ∧ r = r' ∧ w = w' ∧ Q v i'))) (hr_X10_termOf : ∀ (a0 : Nat) (x1 : Int32) (T : kw_T) (n : Nat) (r : kw_R) (i : kw_I) (w : kw_L) (Q : Int64 → kw_I → Prop), T a0 = (0, 10) → k_X10_termOf a0 x1 T n r i w Q → kw_Met E.2.1 G yX10_termOf cX10_termOf 7 (some .long) (rm_X10_partOf d) [kw_a a0, kw_i x1] (T, n, r, i, w) (kw_PL (fun v T' n' r' i' w' => T = T' ∧ n = n' ∧ r = r' ∧ w = w' ∧ Q v i'))) (h0 : T a0 = (0, 10))    : ∀ (N : Nat) (l2 : Int64) (i : kw_I), w_X10_sumOf_6 k_X10_partOf k_X10_sumOf k_X10_termOf a0 x1 T n r w Q  N l2 i → kw_K E G 7 0 0 (kw_Z E G 0 0 (kw_PL (fun v T' n' r' i' w' => T = T' ∧ n = n' ∧ r = r' ∧ w = w' ∧ Q v i'))) 6 [(0, kw_a a0), (1, kw_i x1), (2, kw_l l2)] [] T n r i w := by
  intro N
  induction N with
  | zero => intro l2 i h; exact h.elim
  | succ N ih => intro l2 i h; exact qs_X10_sumOf_6 hm hr_X10_partOf hr_X10_sumOf hr_X10_termOf h0  ih l2 i h
set_option maxHeartbeats 4000000 in
set_option maxRecDepth 100000 in
theorem t_X10_sumOf {l : Launch} {G : kw_G} {d : Nat} {k_X10_partOf : Nat → Int32 → kw_T → Nat → kw_R → kw_I → kw_L → (Int64 → kw_I → Prop) → Prop} {k_X10_sumOf : Nat → Int32 → kw_T → Nat → kw_R → kw_I → kw_L → (Int64 → kw_I → Prop) → Prop} {k_X10_termOf : Nat → Int32 → kw_T → Nat → kw_R → kw_I → kw_L → (Int64 → kw_I → Prop) → Prop} {a0 : Nat} {x1 : Int32} {T : kw_T} {n : Nat} {r : kw_R} {i : kw_I} {w : kw_L} {Q : Int64 → kw_I → Prop} (hr_X10_partOf : ∀ (a0 : Nat) (x1 : Int32) (T : kw_T) (n : Nat) (r : kw_R) (i : kw_I) (w : kw_L) (Q : Int64 → kw_I → Prop), T a0 = (0, 10) → k_X10_partOf a0 x1 T n r i w Q → kw_Met l G yX10_partOf cX10_partOf 4 (some .long) (rm_X10_partOf d) [kw_a a0, kw_i x1] (T, n, r, i, w) (kw_PL (fun v T' n' r' i' w' => T = T' ∧ n = n' ∧ r = r' ∧ w = w' ∧ Q v i'))) (hr_X10_sumOf : ∀ (a0 : Nat) (x1 : Int32) (T : kw_T) (n : Nat) (r : kw_R) (i : kw_I) (w : kw_L) (Q : Int64 → kw_I → Prop), T a0 = (0, 10) → k_X10_sumOf a0 x1 T n r i w Q → kw_Met l G yX10_sumOf cX10_sumOf 7 (some .long) (rm_X10_partOf d) [kw_a a0, kw_i x1] (T, n, r, i, w) (kw_PL (fun v T' n' r' i' w' => T = T' ∧ n = n' ∧ r = r' ∧ w = w' ∧ Q v i'))) (hr_X10_termOf : ∀ (a0 : Nat) (x1 : Int32) (T : kw_T) (n : Nat) (r : kw_R) (i : kw_I) (w : kw_L) (Q : Int64 → kw_I → Prop), T a0 = (0, 10) → k_X10_termOf a0 x1 T n r i w Q → kw_Met l G yX10_termOf cX10_termOf 7 (some .long) (rm_X10_partOf d) [kw_a a0, kw_i x1] (T, n, r, i, w) (kw_PL (fun v T' n' r' i' w' => T = T' ∧ n = n' ∧ r = r' ∧ w = w' ∧ Q v i'))) (h0 : T a0 = (0, 10)) (h : w_X10_sumOf k_X10_partOf k_X10_sumOf k_X10_termOf a0 x1 T n r i w Q) : kw_Met l G yX10_sumOf cX10_sumOf 7 (some .long) (rm_X10_partOf (d + 1)) [kw_a a0, kw_i x1] (T, n, r, i, w) (kw_PL (fun v T' n' r' i' w' => T = T' ∧ n = n' ∧ r = r' ∧ w = w' ∧ Q v i')) := by
  refine kw_Met.of (by decide) (Nat.le_of_ble_eq_true rfl) fun E hl hRm hE hT hnm => ?_
  have hm : kw_m E G cX10_sumOf 7 RX10 (some .long) (rm_X10_partOf (d + 1)) "sumOf" := ⟨hE, hT, hRm, hnm⟩
  subst hl
  show kw_K E G 7 0 0 (kw_Z E G 0 0 (kw_PL (fun v T' n' r' i' w' => T = T' ∧ n = n' ∧ r = r' ∧ w = w' ∧ Q v i'))) 0 [(0, kw_a a0), (1, kw_i x1)] [] T n r i w
  refine kk_aload_n hm.1 0 dX10_sumOf_0 rfl rfl ?_
  refine kk_iload_n hm.1 1 dX10_sumOf_1 rfl rfl ?_
  refine kk_callVl (cs' := 0) (sl' := 0) (st := []) hm.1 cv_X10_203 (hr_X10_termOf a0 x1 T n r i w _ h0 h) dX10_sumOf_2 h0 rfl rfl hm.2.2.1 (rms_X10_partOf d (by decide)) ⟨Nat.le_refl _, Nat.le_refl _⟩ rfl rfl (Nat.le_of_ble_eq_true rfl) rfl ?_
  rintro v2 _ _ _ i2 _ ⟨rfl, rfl, rfl, rfl, h⟩
  refine kk_lstore_n (L' := [(2, kw_l v2), (0, kw_a a0), (1, kw_i x1)]) hm.1 dX10_sumOf_5 rfl (by decide) rfl ?_
  refine kk_loc (L' := [(0, kw_a a0), (1, kw_i x1), (2, kw_l v2)]) [1, 2, 0] rfl ?_
  obtain ⟨N, h⟩ := h
  exact q_X10_sumOf_6 hm hr_X10_partOf hr_X10_sumOf hr_X10_termOf h0   N v2 i2 h
def w_X10_termOf_130 (k_X10_partOf : Nat → Int32 → kw_T → Nat → kw_R → kw_I → kw_L → (Int64 → kw_I → Prop) → Prop) (k_X10_sumOf : Nat → Int32 → kw_T → Nat → kw_R → kw_I → kw_L → (Int64 → kw_I → Prop) → Prop) (k_X10_termOf : Nat → Int32 → kw_T → Nat → kw_R → kw_I → kw_L → (Int64 → kw_I → Prop) → Prop) (a0 : Nat) (x1 : Int32) (T : kw_T) (n : Nat) (r : kw_R) (w : kw_L) (Q : Int64 → kw_I → Prop) (k6 : Int64 → kw_I → Prop) (s0 : Nat) (s1 : Int64) (i : kw_I) : Prop :=
  T s0 = (0, 10) ∧ (w_X10_bounded s0 s1 x1 T n r i w (fun v131 i131 => k6 v131 i131))
def w_X10_termOf_113 (k_X10_partOf : Nat → Int32 → kw_T → Nat → kw_R → kw_I → kw_L → (Int64 → kw_I → Prop) → Prop) (k_X10_sumOf : Nat → Int32 → kw_T → Nat → kw_R → kw_I → kw_L → (Int64 → kw_I → Prop) → Prop) (k_X10_termOf : Nat → Int32 → kw_T → Nat → kw_R → kw_I → kw_L → (Int64 → kw_I → Prop) → Prop) (a0 : Nat) (x1 : Int32) (T : kw_T) (n : Nat) (r : kw_R) (w : kw_L) (Q : Int64 → kw_I → Prop) (k6 : Int64 → kw_I → Prop) (l2 : Int64) (x4 : Int32) (l5 : Int64) (i : kw_I) : Prop :=
  (x4 = 0 → (¬ l5 = 0) ∧ (w_X10_termOf_130 k_X10_partOf k_X10_sumOf k_X10_termOf a0 x1 T n r w Q k6 a0 ((l2 / l5)) i)) ∧ (¬ x4 = 0 → w_X10_termOf_130 k_X10_partOf k_X10_sumOf k_X10_termOf a0 x1 T n r w Q k6 a0 ((l2 * l5)) i)
def w_X10_termOf_107 (k_X10_partOf : Nat → Int32 → kw_T → Nat → kw_R → kw_I → kw_L → (Int64 → kw_I → Prop) → Prop) (k_X10_sumOf : Nat → Int32 → kw_T → Nat → kw_R → kw_I → kw_L → (Int64 → kw_I → Prop) → Prop) (k_X10_termOf : Nat → Int32 → kw_T → Nat → kw_R → kw_I → kw_L → (Int64 → kw_I → Prop) → Prop) (a0 : Nat) (x1 : Int32) (T : kw_T) (n : Nat) (r : kw_R) (w : kw_L) (Q : Int64 → kw_I → Prop) (k6 : Int64 → kw_I → Prop) (l2 : Int64) (x4 : Int32) (s0 : Nat) (s1 : Int32) (i : kw_I) : Prop :=
  T s0 = (0, 10) ∧ (kw_b s1 ∧ (∀ i107 : kw_I, i107 = kw_st i s0 20 s1 → (w_X10_termOf_113 k_X10_partOf k_X10_sumOf k_X10_termOf a0 x1 T n r w Q k6 l2 x4 ((1 : Int64)) i107)))
def w_X10_termOf_102 (k_X10_partOf : Nat → Int32 → kw_T → Nat → kw_R → kw_I → kw_L → (Int64 → kw_I → Prop) → Prop) (k_X10_sumOf : Nat → Int32 → kw_T → Nat → kw_R → kw_I → kw_L → (Int64 → kw_I → Prop) → Prop) (k_X10_termOf : Nat → Int32 → kw_T → Nat → kw_R → kw_I → kw_L → (Int64 → kw_I → Prop) → Prop) (a0 : Nat) (x1 : Int32) (T : kw_T) (n : Nat) (r : kw_R) (w : kw_L) (Q : Int64 → kw_I → Prop) (k6 : Int64 → kw_I → Prop) (l2 : Int64) (x4 : Int32) (s0 : Nat) (i : kw_I) : Prop :=
  w_X10_termOf_107 k_X10_partOf k_X10_sumOf k_X10_termOf a0 x1 T n r w Q k6 l2 x4 s0 ((1 : Int32)) i
def w_X10_termOf_59 (k_X10_partOf : Nat → Int32 → kw_T → Nat → kw_R → kw_I → kw_L → (Int64 → kw_I → Prop) → Prop) (k_X10_sumOf : Nat → Int32 → kw_T → Nat → kw_R → kw_I → kw_L → (Int64 → kw_I → Prop) → Prop) (k_X10_termOf : Nat → Int32 → kw_T → Nat → kw_R → kw_I → kw_L → (Int64 → kw_I → Prop) → Prop) (a0 : Nat) (x1 : Int32) (T : kw_T) (n : Nat) (r : kw_R) (w : kw_L) (Q : Int64 → kw_I → Prop) (k6 : Int64 → kw_I → Prop) (l2 : Int64) (s0 : Int32) (i : kw_I) : Prop :=
  ∀ i68 : kw_I, i68 = kw_st i a0 18 ((i a0 18) + (1 : Int32)) → (k_X10_partOf a0 x1 T n r i68 w (fun v73 i73 => (¬ s0 = 0 → w_X10_termOf_113 k_X10_partOf k_X10_sumOf k_X10_termOf a0 x1 T n r w Q k6 l2 s0 v73 i73) ∧ (s0 = 0 → (¬ (lg_cmp v73 (0 : Int64)) = 0 → w_X10_termOf_113 k_X10_partOf k_X10_sumOf k_X10_termOf a0 x1 T n r w Q k6 l2 s0 v73 i73) ∧ ((lg_cmp v73 (0 : Int64)) = 0 → (¬ (i73 a0 20) = 0 → w_X10_termOf_102 k_X10_partOf k_X10_sumOf k_X10_termOf a0 x1 T n r w Q k6 l2 s0 a0 i73) ∧ ((i73 a0 20) = 0 → (x1 = 0 → w_X10_termOf_107 k_X10_partOf k_X10_sumOf k_X10_termOf a0 x1 T n r w Q k6 l2 s0 a0 ((0 : Int32)) i73) ∧ (¬ x1 = 0 → w_X10_termOf_102 k_X10_partOf k_X10_sumOf k_X10_termOf a0 x1 T n r w Q k6 l2 s0 a0 i73))))))
def w_X10_termOf_38 (k_X10_partOf : Nat → Int32 → kw_T → Nat → kw_R → kw_I → kw_L → (Int64 → kw_I → Prop) → Prop) (k_X10_sumOf : Nat → Int32 → kw_T → Nat → kw_R → kw_I → kw_L → (Int64 → kw_I → Prop) → Prop) (k_X10_termOf : Nat → Int32 → kw_T → Nat → kw_R → kw_I → kw_L → (Int64 → kw_I → Prop) → Prop) (a0 : Nat) (x1 : Int32) (T : kw_T) (n : Nat) (r : kw_R) (w : kw_L) (Q : Int64 → kw_I → Prop) (k6 : Int64 → kw_I → Prop) (l2 : Int64) (i : kw_I) : Prop :=
  w_X10_codeAt a0 (i a0 18) T n r i w (fun v43 => w_X10_sign (42 : Int32) T n r i w (fun v48 => (¬ v43 = v48 → w_X10_termOf_59 k_X10_partOf k_X10_sumOf k_X10_termOf a0 x1 T n r w Q k6 l2 ((0 : Int32)) i) ∧ (v43 = v48 → w_X10_termOf_59 k_X10_partOf k_X10_sumOf k_X10_termOf a0 x1 T n r w Q k6 l2 ((1 : Int32)) i)))
def s_X10_termOf_6 (k_X10_partOf : Nat → Int32 → kw_T → Nat → kw_R → kw_I → kw_L → (Int64 → kw_I → Prop) → Prop) (k_X10_sumOf : Nat → Int32 → kw_T → Nat → kw_R → kw_I → kw_L → (Int64 → kw_I → Prop) → Prop) (k_X10_termOf : Nat → Int32 → kw_T → Nat → kw_R → kw_I → kw_L → (Int64 → kw_I → Prop) → Prop) (a0 : Nat) (x1 : Int32) (T : kw_T) (n : Nat) (r : kw_R) (w : kw_L) (Q : Int64 → kw_I → Prop)  (k6 : Int64 → kw_I → Prop) (l2 : Int64) (i : kw_I) : Prop :=
  w_X10_codeAt a0 (i a0 18) T n r i w (fun v11 => w_X10_sign (42 : Int32) T n r i w (fun v16 => (v11 = v16 → w_X10_termOf_38 k_X10_partOf k_X10_sumOf k_X10_termOf a0 x1 T n r w Q k6 l2 i) ∧ (¬ v11 = v16 → w_X10_codeAt a0 (i a0 18) T n r i w (fun v27 => w_X10_sign (47 : Int32) T n r i w (fun v32 => (¬ v27 = v32 → Q l2 i) ∧ (v27 = v32 → w_X10_termOf_38 k_X10_partOf k_X10_sumOf k_X10_termOf a0 x1 T n r w Q k6 l2 i))))))
def w_X10_termOf_6 (k_X10_partOf : Nat → Int32 → kw_T → Nat → kw_R → kw_I → kw_L → (Int64 → kw_I → Prop) → Prop) (k_X10_sumOf : Nat → Int32 → kw_T → Nat → kw_R → kw_I → kw_L → (Int64 → kw_I → Prop) → Prop) (k_X10_termOf : Nat → Int32 → kw_T → Nat → kw_R → kw_I → kw_L → (Int64 → kw_I → Prop) → Prop) (a0 : Nat) (x1 : Int32) (T : kw_T) (n : Nat) (r : kw_R) (w : kw_L) (Q : Int64 → kw_I → Prop)  : Nat → Int64 → kw_I → Prop
  | 0 => fun _ _ => False
  | N + 1 => s_X10_termOf_6 k_X10_partOf k_X10_sumOf k_X10_termOf a0 x1 T n r w Q  (w_X10_termOf_6 k_X10_partOf k_X10_sumOf k_X10_termOf a0 x1 T n r w Q  N)
def w_X10_termOf (k_X10_partOf : Nat → Int32 → kw_T → Nat → kw_R → kw_I → kw_L → (Int64 → kw_I → Prop) → Prop) (k_X10_sumOf : Nat → Int32 → kw_T → Nat → kw_R → kw_I → kw_L → (Int64 → kw_I → Prop) → Prop) (k_X10_termOf : Nat → Int32 → kw_T → Nat → kw_R → kw_I → kw_L → (Int64 → kw_I → Prop) → Prop) (a0 : Nat) (x1 : Int32) (T : kw_T) (n : Nat) (r : kw_R) (i : kw_I) (w : kw_L) (Q : Int64 → kw_I → Prop) : Prop :=
  k_X10_partOf a0 x1 T n r i w (fun v2 i2 => ∃ N, w_X10_termOf_6 k_X10_partOf k_X10_sumOf k_X10_termOf a0 x1 T n r w Q  N v2 i2)
set_option maxHeartbeats 4000000 in
set_option maxRecDepth 100000 in
theorem q_X10_termOf_130 {k_X10_partOf : Nat → Int32 → kw_T → Nat → kw_R → kw_I → kw_L → (Int64 → kw_I → Prop) → Prop} {k_X10_sumOf : Nat → Int32 → kw_T → Nat → kw_R → kw_I → kw_L → (Int64 → kw_I → Prop) → Prop} {k_X10_termOf : Nat → Int32 → kw_T → Nat → kw_R → kw_I → kw_L → (Int64 → kw_I → Prop) → Prop} {a0 : Nat} {x1 : Int32} {T : kw_T} {n : Nat} {r : kw_R} {w : kw_L} {Q : Int64 → kw_I → Prop} {E : kw_E} {G : kw_G} {d : Nat} (hm : kw_m E G cX10_termOf 7 RX10 (some .long) (rm_X10_partOf (d + 1)) "termOf") (hr_X10_partOf : ∀ (a0 : Nat) (x1 : Int32) (T : kw_T) (n : Nat) (r : kw_R) (i : kw_I) (w : kw_L) (Q : Int64 → kw_I → Prop), T a0 = (0, 10) → k_X10_partOf a0 x1 T n r i w Q → kw_Met E.2.1 G yX10_partOf cX10_partOf 4 (some .long) (rm_X10_partOf d) [kw_a a0, kw_i x1] (T, n, r, i, w) (kw_PL (fun v T' n' r' i' w' => T = T' ∧ n = n' ∧ r = r' ∧ w = w' ∧ Q v i'))) (hr_X10_sumOf : ∀ (a0 : Nat) (x1 : Int32) (T : kw_T) (n : Nat) (r : kw_R) (i : kw_I) (w : kw_L) (Q : Int64 → kw_I → Prop), T a0 = (0, 10) → k_X10_sumOf a0 x1 T n r i w Q → kw_Met E.2.1 G yX10_sumOf cX10_sumOf 7 (some .long) (rm_X10_partOf d) [kw_a a0, kw_i x1] (T, n, r, i, w) (kw_PL (fun v T' n' r' i' w' => T = T' ∧ n = n' ∧ r = r' ∧ w = w' ∧ Q v i'))) (hr_X10_termOf : ∀ (a0 : Nat) (x1 : Int32) (T : kw_T) (n : Nat) (r : kw_R) (i : kw_I) (w : kw_L) (Q : Int64 → kw_I → Prop), T a0 = (0, 10) → k_X10_termOf a0 x1 T n r i w Q → kw_Met E.2.1 G yX10_termOf cX10_termOf 7 (some .long) (rm_X10_partOf d) [kw_a a0, kw_i x1] (T, n, r, i, w) (kw_PL (fun v T' n' r' i' w' => T = T' ∧ n = n' ∧ r = r' ∧ w = w' ∧ Q v i'))) (h0 : T a0 = (0, 10))  {k6 : Int64 → kw_I → Prop} (hk6 : ∀ (l2 : Int64) (i : kw_I), k6 l2 i → kw_K E G 7 0 0 (kw_Z E G 0 0 (kw_PL (fun v T' n' r' i' w' => T = T' ∧ n = n' ∧ r = r' ∧ w = w' ∧ Q v i'))) 6 [(0, kw_a a0), (1, kw_i x1), (2, kw_l l2)] [] T n r i w) (s0 : Nat) (s1 : Int64) (i : kw_I) (h : w_X10_termOf_130 k_X10_partOf k_X10_sumOf k_X10_termOf a0 x1 T n r w Q k6 s0 s1 i) : kw_K E G 7 0 0 (kw_Z E G 0 0 (kw_PL (fun v T' n' r' i' w' => T = T' ∧ n = n' ∧ r = r' ∧ w = w' ∧ Q v i'))) 130 [(0, kw_a a0), (1, kw_i x1)] [kw_l s1, kw_a s0] T n r i w := by
  refine kk_iload_n hm.1 1 dX10_termOf_130 rfl rfl ?_
  obtain ⟨o131, h⟩ := h
  refine kk_callVl (cs' := 0) (sl' := 0) (st := []) hm.1 cv_X10_207 (t_X10_bounded o131 h) dX10_termOf_131 o131 rfl rfl hm.2.2.1 (rmi_X10_partOf d (by decide) (by decide)) ⟨Nat.le_refl _, Nat.le_refl _⟩ rfl rfl (Nat.le_of_ble_eq_true rfl) rfl ?_
  rintro v131 _ _ _ i131 _ ⟨rfl, rfl, rfl, rfl, h⟩
  refine kk_lstore_n (L' := [(2, kw_l v131), (0, kw_a a0), (1, kw_i x1)]) hm.1 dX10_termOf_134 rfl (by decide) rfl ?_
  refine kk_goto (tgt := 6) hm.1 dX10_termOf_135 (by decide) ?_
  refine kk_loc (L' := [(0, kw_a a0), (1, kw_i x1), (2, kw_l v131)]) [1, 2, 0] rfl ?_
  exact hk6 v131 i131 h
set_option maxHeartbeats 4000000 in
set_option maxRecDepth 100000 in
theorem q_X10_termOf_113 {k_X10_partOf : Nat → Int32 → kw_T → Nat → kw_R → kw_I → kw_L → (Int64 → kw_I → Prop) → Prop} {k_X10_sumOf : Nat → Int32 → kw_T → Nat → kw_R → kw_I → kw_L → (Int64 → kw_I → Prop) → Prop} {k_X10_termOf : Nat → Int32 → kw_T → Nat → kw_R → kw_I → kw_L → (Int64 → kw_I → Prop) → Prop} {a0 : Nat} {x1 : Int32} {T : kw_T} {n : Nat} {r : kw_R} {w : kw_L} {Q : Int64 → kw_I → Prop} {E : kw_E} {G : kw_G} {d : Nat} (hm : kw_m E G cX10_termOf 7 RX10 (some .long) (rm_X10_partOf (d + 1)) "termOf") (hr_X10_partOf : ∀ (a0 : Nat) (x1 : Int32) (T : kw_T) (n : Nat) (r : kw_R) (i : kw_I) (w : kw_L) (Q : Int64 → kw_I → Prop), T a0 = (0, 10) → k_X10_partOf a0 x1 T n r i w Q → kw_Met E.2.1 G yX10_partOf cX10_partOf 4 (some .long) (rm_X10_partOf d) [kw_a a0, kw_i x1] (T, n, r, i, w) (kw_PL (fun v T' n' r' i' w' => T = T' ∧ n = n' ∧ r = r' ∧ w = w' ∧ Q v i'))) (hr_X10_sumOf : ∀ (a0 : Nat) (x1 : Int32) (T : kw_T) (n : Nat) (r : kw_R) (i : kw_I) (w : kw_L) (Q : Int64 → kw_I → Prop), T a0 = (0, 10) → k_X10_sumOf a0 x1 T n r i w Q → kw_Met E.2.1 G yX10_sumOf cX10_sumOf 7 (some .long) (rm_X10_partOf d) [kw_a a0, kw_i x1] (T, n, r, i, w) (kw_PL (fun v T' n' r' i' w' => T = T' ∧ n = n' ∧ r = r' ∧ w = w' ∧ Q v i'))) (hr_X10_termOf : ∀ (a0 : Nat) (x1 : Int32) (T : kw_T) (n : Nat) (r : kw_R) (i : kw_I) (w : kw_L) (Q : Int64 → kw_I → Prop), T a0 = (0, 10) → k_X10_termOf a0 x1 T n r i w Q → kw_Met E.2.1 G yX10_termOf cX10_termOf 7 (some .long) (rm_X10_partOf d) [kw_a a0, kw_i x1] (T, n, r, i, w) (kw_PL (fun v T' n' r' i' w' => T = T' ∧ n = n' ∧ r = r' ∧ w = w' ∧ Q v i'))) (h0 : T a0 = (0, 10))  {k6 : Int64 → kw_I → Prop} (hk6 : ∀ (l2 : Int64) (i : kw_I), k6 l2 i → kw_K E G 7 0 0 (kw_Z E G 0 0 (kw_PL (fun v T' n' r' i' w' => T = T' ∧ n = n' ∧ r = r' ∧ w = w' ∧ Q v i'))) 6 [(0, kw_a a0), (1, kw_i x1), (2, kw_l l2)] [] T n r i w) (l2 : Int64) (x4 : Int32) (l5 : Int64) (i : kw_I) (h : w_X10_termOf_113 k_X10_partOf k_X10_sumOf k_X10_termOf a0 x1 T n r w Q k6 l2 x4 l5 i) : kw_K E G 7 0 0 (kw_Z E G 0 0 (kw_PL (fun v T' n' r' i' w' => T = T' ∧ n = n' ∧ r = r' ∧ w = w' ∧ Q v i'))) 113 [(0, kw_a a0), (1, kw_i x1), (2, kw_l l2), (4, kw_i x4), (5, kw_l l5)] [] T n r i w := by
  refine kk_aload_n hm.1 0 dX10_termOf_113 rfl rfl ?_
  refine kk_iload hm.1 3 dX10_termOf_114 rfl ?_
  refine kk_if_eq (tgt := 126) hm.1 dX10_termOf_116 (by decide) (fun c116 => ?_) (fun c116 => ?_)
  · have h := h.1 c116
    refine kk_lload_n hm.1 2 dX10_termOf_126 rfl rfl ?_
    refine kk_lload hm.1 4 dX10_termOf_127 rfl ?_
    obtain ⟨o129, h⟩ := h
    refine kk_ldiv hm.1 dX10_termOf_129 o129 ?_
    refine kk_loc (L' := [(0, kw_a a0), (1, kw_i x1)]) [0, 1] rfl ?_
    exact q_X10_termOf_130 hm hr_X10_partOf hr_X10_sumOf hr_X10_termOf h0  hk6 a0 ((l2 / l5)) i h
  · have h := h.2 c116
    refine kk_lload_n hm.1 2 dX10_termOf_119 rfl rfl ?_
    refine kk_lload hm.1 4 dX10_termOf_120 rfl ?_
    refine kk_lmul hm.1 dX10_termOf_122 ?_
    refine kk_goto (tgt := 130) hm.1 dX10_termOf_123 (by decide) ?_
    refine kk_loc (L' := [(0, kw_a a0), (1, kw_i x1)]) [0, 1] rfl ?_
    exact q_X10_termOf_130 hm hr_X10_partOf hr_X10_sumOf hr_X10_termOf h0  hk6 a0 ((l2 * l5)) i h
set_option maxHeartbeats 4000000 in
set_option maxRecDepth 100000 in
theorem q_X10_termOf_107 {k_X10_partOf : Nat → Int32 → kw_T → Nat → kw_R → kw_I → kw_L → (Int64 → kw_I → Prop) → Prop} {k_X10_sumOf : Nat → Int32 → kw_T → Nat → kw_R → kw_I → kw_L → (Int64 → kw_I → Prop) → Prop} {k_X10_termOf : Nat → Int32 → kw_T → Nat → kw_R → kw_I → kw_L → (Int64 → kw_I → Prop) → Prop} {a0 : Nat} {x1 : Int32} {T : kw_T} {n : Nat} {r : kw_R} {w : kw_L} {Q : Int64 → kw_I → Prop} {E : kw_E} {G : kw_G} {d : Nat} (hm : kw_m E G cX10_termOf 7 RX10 (some .long) (rm_X10_partOf (d + 1)) "termOf") (hr_X10_partOf : ∀ (a0 : Nat) (x1 : Int32) (T : kw_T) (n : Nat) (r : kw_R) (i : kw_I) (w : kw_L) (Q : Int64 → kw_I → Prop), T a0 = (0, 10) → k_X10_partOf a0 x1 T n r i w Q → kw_Met E.2.1 G yX10_partOf cX10_partOf 4 (some .long) (rm_X10_partOf d) [kw_a a0, kw_i x1] (T, n, r, i, w) (kw_PL (fun v T' n' r' i' w' => T = T' ∧ n = n' ∧ r = r' ∧ w = w' ∧ Q v i'))) (hr_X10_sumOf : ∀ (a0 : Nat) (x1 : Int32) (T : kw_T) (n : Nat) (r : kw_R) (i : kw_I) (w : kw_L) (Q : Int64 → kw_I → Prop), T a0 = (0, 10) → k_X10_sumOf a0 x1 T n r i w Q → kw_Met E.2.1 G yX10_sumOf cX10_sumOf 7 (some .long) (rm_X10_partOf d) [kw_a a0, kw_i x1] (T, n, r, i, w) (kw_PL (fun v T' n' r' i' w' => T = T' ∧ n = n' ∧ r = r' ∧ w = w' ∧ Q v i'))) (hr_X10_termOf : ∀ (a0 : Nat) (x1 : Int32) (T : kw_T) (n : Nat) (r : kw_R) (i : kw_I) (w : kw_L) (Q : Int64 → kw_I → Prop), T a0 = (0, 10) → k_X10_termOf a0 x1 T n r i w Q → kw_Met E.2.1 G yX10_termOf cX10_termOf 7 (some .long) (rm_X10_partOf d) [kw_a a0, kw_i x1] (T, n, r, i, w) (kw_PL (fun v T' n' r' i' w' => T = T' ∧ n = n' ∧ r = r' ∧ w = w' ∧ Q v i'))) (h0 : T a0 = (0, 10))  {k6 : Int64 → kw_I → Prop} (hk6 : ∀ (l2 : Int64) (i : kw_I), k6 l2 i → kw_K E G 7 0 0 (kw_Z E G 0 0 (kw_PL (fun v T' n' r' i' w' => T = T' ∧ n = n' ∧ r = r' ∧ w = w' ∧ Q v i'))) 6 [(0, kw_a a0), (1, kw_i x1), (2, kw_l l2)] [] T n r i w) (l2 : Int64) (x4 : Int32) (s0 : Nat) (s1 : Int32) (i : kw_I) (h : w_X10_termOf_107 k_X10_partOf k_X10_sumOf k_X10_termOf a0 x1 T n r w Q k6 l2 x4 s0 s1 i) : kw_K E G 7 0 0 (kw_Z E G 0 0 (kw_PL (fun v T' n' r' i' w' => T = T' ∧ n = n' ∧ r = r' ∧ w = w' ∧ Q v i'))) 107 [(0, kw_a a0), (1, kw_i x1), (2, kw_l l2), (4, kw_i x4)] [kw_i s1, kw_a s0] T n r i w := by
  obtain ⟨o107, h⟩ := h
  obtain ⟨b107, h⟩ := h
  refine kn_putZ hm.1 fp_X10_199 dX10_termOf_107 o107 b107 (fun i107 e107 => ?_)
  have h := h i107 e107
  refine kk_lconst (v := (1 : Int64)) hm.1 dX10_termOf_110 (by decide) ?_
  refine kk_lstore (L' := [(5, kw_l (1 : Int64)), (0, kw_a a0), (1, kw_i x1), (2, kw_l l2), (4, kw_i x4)]) hm.1 dX10_termOf_111 (by decide) rfl ?_
  refine kk_loc (L' := [(0, kw_a a0), (1, kw_i x1), (2, kw_l l2), (4, kw_i x4), (5, kw_l (1 : Int64))]) [1, 2, 3, 4, 0] rfl ?_
  exact q_X10_termOf_113 hm hr_X10_partOf hr_X10_sumOf hr_X10_termOf h0  hk6 l2 x4 ((1 : Int64)) i107 h
set_option maxHeartbeats 4000000 in
set_option maxRecDepth 100000 in
theorem q_X10_termOf_102 {k_X10_partOf : Nat → Int32 → kw_T → Nat → kw_R → kw_I → kw_L → (Int64 → kw_I → Prop) → Prop} {k_X10_sumOf : Nat → Int32 → kw_T → Nat → kw_R → kw_I → kw_L → (Int64 → kw_I → Prop) → Prop} {k_X10_termOf : Nat → Int32 → kw_T → Nat → kw_R → kw_I → kw_L → (Int64 → kw_I → Prop) → Prop} {a0 : Nat} {x1 : Int32} {T : kw_T} {n : Nat} {r : kw_R} {w : kw_L} {Q : Int64 → kw_I → Prop} {E : kw_E} {G : kw_G} {d : Nat} (hm : kw_m E G cX10_termOf 7 RX10 (some .long) (rm_X10_partOf (d + 1)) "termOf") (hr_X10_partOf : ∀ (a0 : Nat) (x1 : Int32) (T : kw_T) (n : Nat) (r : kw_R) (i : kw_I) (w : kw_L) (Q : Int64 → kw_I → Prop), T a0 = (0, 10) → k_X10_partOf a0 x1 T n r i w Q → kw_Met E.2.1 G yX10_partOf cX10_partOf 4 (some .long) (rm_X10_partOf d) [kw_a a0, kw_i x1] (T, n, r, i, w) (kw_PL (fun v T' n' r' i' w' => T = T' ∧ n = n' ∧ r = r' ∧ w = w' ∧ Q v i'))) (hr_X10_sumOf : ∀ (a0 : Nat) (x1 : Int32) (T : kw_T) (n : Nat) (r : kw_R) (i : kw_I) (w : kw_L) (Q : Int64 → kw_I → Prop), T a0 = (0, 10) → k_X10_sumOf a0 x1 T n r i w Q → kw_Met E.2.1 G yX10_sumOf cX10_sumOf 7 (some .long) (rm_X10_partOf d) [kw_a a0, kw_i x1] (T, n, r, i, w) (kw_PL (fun v T' n' r' i' w' => T = T' ∧ n = n' ∧ r = r' ∧ w = w' ∧ Q v i'))) (hr_X10_termOf : ∀ (a0 : Nat) (x1 : Int32) (T : kw_T) (n : Nat) (r : kw_R) (i : kw_I) (w : kw_L) (Q : Int64 → kw_I → Prop), T a0 = (0, 10) → k_X10_termOf a0 x1 T n r i w Q → kw_Met E.2.1 G yX10_termOf cX10_termOf 7 (some .long) (rm_X10_partOf d) [kw_a a0, kw_i x1] (T, n, r, i, w) (kw_PL (fun v T' n' r' i' w' => T = T' ∧ n = n' ∧ r = r' ∧ w = w' ∧ Q v i'))) (h0 : T a0 = (0, 10))  {k6 : Int64 → kw_I → Prop} (hk6 : ∀ (l2 : Int64) (i : kw_I), k6 l2 i → kw_K E G 7 0 0 (kw_Z E G 0 0 (kw_PL (fun v T' n' r' i' w' => T = T' ∧ n = n' ∧ r = r' ∧ w = w' ∧ Q v i'))) 6 [(0, kw_a a0), (1, kw_i x1), (2, kw_l l2)] [] T n r i w) (l2 : Int64) (x4 : Int32) (s0 : Nat) (i : kw_I) (h : w_X10_termOf_102 k_X10_partOf k_X10_sumOf k_X10_termOf a0 x1 T n r w Q k6 l2 x4 s0 i) : kw_K E G 7 0 0 (kw_Z E G 0 0 (kw_PL (fun v T' n' r' i' w' => T = T' ∧ n = n' ∧ r = r' ∧ w = w' ∧ Q v i'))) 102 [(0, kw_a a0), (1, kw_i x1), (2, kw_l l2), (4, kw_i x4)] [kw_a s0] T n r i w := by
  refine kk_iconst (v := (1 : Int32)) hm.1 dX10_termOf_102 (by decide) ?_
  refine kk_goto (tgt := 107) hm.1 dX10_termOf_103 (by decide) ?_
  exact q_X10_termOf_107 hm hr_X10_partOf hr_X10_sumOf hr_X10_termOf h0  hk6 l2 x4 s0 ((1 : Int32)) i h
set_option maxHeartbeats 4000000 in
set_option maxRecDepth 100000 in
theorem q_X10_termOf_59 {k_X10_partOf : Nat → Int32 → kw_T → Nat → kw_R → kw_I → kw_L → (Int64 → kw_I → Prop) → Prop} {k_X10_sumOf : Nat → Int32 → kw_T → Nat → kw_R → kw_I → kw_L → (Int64 → kw_I → Prop) → Prop} {k_X10_termOf : Nat → Int32 → kw_T → Nat → kw_R → kw_I → kw_L → (Int64 → kw_I → Prop) → Prop} {a0 : Nat} {x1 : Int32} {T : kw_T} {n : Nat} {r : kw_R} {w : kw_L} {Q : Int64 → kw_I → Prop} {E : kw_E} {G : kw_G} {d : Nat} (hm : kw_m E G cX10_termOf 7 RX10 (some .long) (rm_X10_partOf (d + 1)) "termOf") (hr_X10_partOf : ∀ (a0 : Nat) (x1 : Int32) (T : kw_T) (n : Nat) (r : kw_R) (i : kw_I) (w : kw_L) (Q : Int64 → kw_I → Prop), T a0 = (0, 10) → k_X10_partOf a0 x1 T n r i w Q → kw_Met E.2.1 G yX10_partOf cX10_partOf 4 (some .long) (rm_X10_partOf d) [kw_a a0, kw_i x1] (T, n, r, i, w) (kw_PL (fun v T' n' r' i' w' => T = T' ∧ n = n' ∧ r = r' ∧ w = w' ∧ Q v i'))) (hr_X10_sumOf : ∀ (a0 : Nat) (x1 : Int32) (T : kw_T) (n : Nat) (r : kw_R) (i : kw_I) (w : kw_L) (Q : Int64 → kw_I → Prop), T a0 = (0, 10) → k_X10_sumOf a0 x1 T n r i w Q → kw_Met E.2.1 G yX10_sumOf cX10_sumOf 7 (some .long) (rm_X10_partOf d) [kw_a a0, kw_i x1] (T, n, r, i, w) (kw_PL (fun v T' n' r' i' w' => T = T' ∧ n = n' ∧ r = r' ∧ w = w' ∧ Q v i'))) (hr_X10_termOf : ∀ (a0 : Nat) (x1 : Int32) (T : kw_T) (n : Nat) (r : kw_R) (i : kw_I) (w : kw_L) (Q : Int64 → kw_I → Prop), T a0 = (0, 10) → k_X10_termOf a0 x1 T n r i w Q → kw_Met E.2.1 G yX10_termOf cX10_termOf 7 (some .long) (rm_X10_partOf d) [kw_a a0, kw_i x1] (T, n, r, i, w) (kw_PL (fun v T' n' r' i' w' => T = T' ∧ n = n' ∧ r = r' ∧ w = w' ∧ Q v i'))) (h0 : T a0 = (0, 10))  {k6 : Int64 → kw_I → Prop} (hk6 : ∀ (l2 : Int64) (i : kw_I), k6 l2 i → kw_K E G 7 0 0 (kw_Z E G 0 0 (kw_PL (fun v T' n' r' i' w' => T = T' ∧ n = n' ∧ r = r' ∧ w = w' ∧ Q v i'))) 6 [(0, kw_a a0), (1, kw_i x1), (2, kw_l l2)] [] T n r i w) (l2 : Int64) (s0 : Int32) (i : kw_I) (h : w_X10_termOf_59 k_X10_partOf k_X10_sumOf k_X10_termOf a0 x1 T n r w Q k6 l2 s0 i) : kw_K E G 7 0 0 (kw_Z E G 0 0 (kw_PL (fun v T' n' r' i' w' => T = T' ∧ n = n' ∧ r = r' ∧ w = w' ∧ Q v i'))) 59 [(0, kw_a a0), (1, kw_i x1), (2, kw_l l2)] [kw_i s0] T n r i w := by
  refine kk_istore (L' := [(4, kw_i s0), (0, kw_a a0), (1, kw_i x1), (2, kw_l l2)]) hm.1 dX10_termOf_59 (by decide) rfl ?_
  refine kk_aload_n hm.1 1 dX10_termOf_61 rfl rfl ?_
  refine kk_dup hm.1 dX10_termOf_62 rfl ?_
  refine kk_getI hm.1 ff_X10_189 dX10_termOf_63 h0 ?_
  refine kk_iconst (v := (1 : Int32)) hm.1 dX10_termOf_66 (by decide) ?_
  refine kk_iadd hm.1 dX10_termOf_67 ?_
  refine kn_putI hm.1 fp_X10_189 dX10_termOf_68 h0 (fun i68 e68 => ?_)
  have h := h i68 e68
  refine kk_aload_n hm.1 1 dX10_termOf_71 rfl rfl ?_
  refine kk_iload_n hm.1 2 dX10_termOf_72 rfl rfl ?_
  refine kk_callVl (cs' := 0) (sl' := 0) (st := []) hm.1 cv_X10_211 (hr_X10_partOf a0 x1 T n r i68 w _ h0 h) dX10_termOf_73 h0 rfl rfl hm.2.2.1 (rms_X10_partOf d (by decide)) ⟨Nat.le_refl _, Nat.le_refl _⟩ rfl rfl (Nat.le_of_ble_eq_true rfl) rfl ?_
  rintro v73 _ _ _ i73 _ ⟨rfl, rfl, rfl, rfl, h⟩
  refine kk_lstore (L' := [(5, kw_l v73), (4, kw_i s0), (0, kw_a a0), (1, kw_i x1), (2, kw_l l2)]) hm.1 dX10_termOf_76 (by decide) rfl ?_
  refine kk_iload hm.1 1 dX10_termOf_78 rfl ?_
  refine kk_if_ne (tgt := 113) hm.1 dX10_termOf_80 (by decide) (fun c80 => ?_) (fun c80 => ?_)
  · have h := h.1 c80
    refine kk_loc (L' := [(0, kw_a a0), (1, kw_i x1), (2, kw_l l2), (4, kw_i s0), (5, kw_l v73)]) [2, 3, 4, 1, 0] rfl ?_
    exact q_X10_termOf_113 hm hr_X10_partOf hr_X10_sumOf hr_X10_termOf h0  hk6 l2 s0 v73 i73 h
  · have h := h.2 c80
    refine kk_lload hm.1 0 dX10_termOf_83 rfl ?_
    refine kk_lconst (v := (0 : Int64)) hm.1 dX10_termOf_85 (by decide) ?_
    refine kk_lcmp hm.1 dX10_termOf_86 ?_
    refine kk_if_ne (tgt := 113) hm.1 dX10_termOf_87 (by decide) (fun c87 => ?_) (fun c87 => ?_)
    · have h := h.1 c87
      refine kk_loc (L' := [(0, kw_a a0), (1, kw_i x1), (2, kw_l l2), (4, kw_i s0), (5, kw_l v73)]) [2, 3, 4, 1, 0] rfl ?_
      exact q_X10_termOf_113 hm hr_X10_partOf hr_X10_sumOf hr_X10_termOf h0  hk6 l2 s0 v73 i73 h
    · have h := h.2 c87
      refine kk_aload_n hm.1 2 dX10_termOf_90 rfl rfl ?_
      refine kk_aload_n hm.1 2 dX10_termOf_91 rfl rfl ?_
      refine kk_getI hm.1 ff_X10_199 dX10_termOf_92 h0 ?_
      refine kk_if_ne (tgt := 102) hm.1 dX10_termOf_95 (by decide) (fun c95 => ?_) (fun c95 => ?_)
      · have h := h.1 c95
        refine kk_loc (L' := [(0, kw_a a0), (1, kw_i x1), (2, kw_l l2), (4, kw_i s0)]) [2, 3, 4, 1] rfl ?_
        exact q_X10_termOf_102 hm hr_X10_partOf hr_X10_sumOf hr_X10_termOf h0  hk6 l2 s0 a0 i73 h
      · have h := h.2 c95
        refine kk_iload_n hm.1 3 dX10_termOf_98 rfl rfl ?_
        refine kk_if_eq (tgt := 106) hm.1 dX10_termOf_99 (by decide) (fun c99 => ?_) (fun c99 => ?_)
        · have h := h.1 c99
          refine kk_iconst (v := (0 : Int32)) hm.1 dX10_termOf_106 (by decide) ?_
          refine kk_loc (L' := [(0, kw_a a0), (1, kw_i x1), (2, kw_l l2), (4, kw_i s0)]) [2, 3, 4, 1] rfl ?_
          exact q_X10_termOf_107 hm hr_X10_partOf hr_X10_sumOf hr_X10_termOf h0  hk6 l2 s0 a0 ((0 : Int32)) i73 h
        · have h := h.2 c99
          refine kk_loc (L' := [(0, kw_a a0), (1, kw_i x1), (2, kw_l l2), (4, kw_i s0)]) [2, 3, 4, 1] rfl ?_
          exact q_X10_termOf_102 hm hr_X10_partOf hr_X10_sumOf hr_X10_termOf h0  hk6 l2 s0 a0 i73 h
set_option maxHeartbeats 4000000 in
set_option maxRecDepth 100000 in
theorem q_X10_termOf_38 {k_X10_partOf : Nat → Int32 → kw_T → Nat → kw_R → kw_I → kw_L → (Int64 → kw_I → Prop) → Prop} {k_X10_sumOf : Nat → Int32 → kw_T → Nat → kw_R → kw_I → kw_L → (Int64 → kw_I → Prop) → Prop} {k_X10_termOf : Nat → Int32 → kw_T → Nat → kw_R → kw_I → kw_L → (Int64 → kw_I → Prop) → Prop} {a0 : Nat} {x1 : Int32} {T : kw_T} {n : Nat} {r : kw_R} {w : kw_L} {Q : Int64 → kw_I → Prop} {E : kw_E} {G : kw_G} {d : Nat} (hm : kw_m E G cX10_termOf 7 RX10 (some .long) (rm_X10_partOf (d + 1)) "termOf") (hr_X10_partOf : ∀ (a0 : Nat) (x1 : Int32) (T : kw_T) (n : Nat) (r : kw_R) (i : kw_I) (w : kw_L) (Q : Int64 → kw_I → Prop), T a0 = (0, 10) → k_X10_partOf a0 x1 T n r i w Q → kw_Met E.2.1 G yX10_partOf cX10_partOf 4 (some .long) (rm_X10_partOf d) [kw_a a0, kw_i x1] (T, n, r, i, w) (kw_PL (fun v T' n' r' i' w' => T = T' ∧ n = n' ∧ r = r' ∧ w = w' ∧ Q v i'))) (hr_X10_sumOf : ∀ (a0 : Nat) (x1 : Int32) (T : kw_T) (n : Nat) (r : kw_R) (i : kw_I) (w : kw_L) (Q : Int64 → kw_I → Prop), T a0 = (0, 10) → k_X10_sumOf a0 x1 T n r i w Q → kw_Met E.2.1 G yX10_sumOf cX10_sumOf 7 (some .long) (rm_X10_partOf d) [kw_a a0, kw_i x1] (T, n, r, i, w) (kw_PL (fun v T' n' r' i' w' => T = T' ∧ n = n' ∧ r = r' ∧ w = w' ∧ Q v i'))) (hr_X10_termOf : ∀ (a0 : Nat) (x1 : Int32) (T : kw_T) (n : Nat) (r : kw_R) (i : kw_I) (w : kw_L) (Q : Int64 → kw_I → Prop), T a0 = (0, 10) → k_X10_termOf a0 x1 T n r i w Q → kw_Met E.2.1 G yX10_termOf cX10_termOf 7 (some .long) (rm_X10_partOf d) [kw_a a0, kw_i x1] (T, n, r, i, w) (kw_PL (fun v T' n' r' i' w' => T = T' ∧ n = n' ∧ r = r' ∧ w = w' ∧ Q v i'))) (h0 : T a0 = (0, 10))  {k6 : Int64 → kw_I → Prop} (hk6 : ∀ (l2 : Int64) (i : kw_I), k6 l2 i → kw_K E G 7 0 0 (kw_Z E G 0 0 (kw_PL (fun v T' n' r' i' w' => T = T' ∧ n = n' ∧ r = r' ∧ w = w' ∧ Q v i'))) 6 [(0, kw_a a0), (1, kw_i x1), (2, kw_l l2)] [] T n r i w) (l2 : Int64) (i : kw_I) (h : w_X10_termOf_38 k_X10_partOf k_X10_sumOf k_X10_termOf a0 x1 T n r w Q k6 l2 i) : kw_K E G 7 0 0 (kw_Z E G 0 0 (kw_PL (fun v T' n' r' i' w' => T = T' ∧ n = n' ∧ r = r' ∧ w = w' ∧ Q v i'))) 38 [(0, kw_a a0), (1, kw_i x1), (2, kw_l l2)] [] T n r i w := by
  refine kk_aload_n hm.1 0 dX10_termOf_38 rfl rfl ?_
  refine kk_aload_n hm.1 0 dX10_termOf_39 rfl rfl ?_
  refine kk_getI hm.1 ff_X10_189 dX10_termOf_40 h0 ?_
  refine kk_callVi (cs' := 0) (sl' := 0) (st := []) hm.1 cv_X10_192 (t_X10_codeAt h0 h) dX10_termOf_43 h0 rfl rfl hm.2.2.1 (rmi_X10_partOf d (by decide) (by decide)) ⟨Nat.le_refl _, Nat.le_refl _⟩ rfl rfl (Nat.le_of_ble_eq_true rfl) rfl ?_
  rintro v43 _ _ _ _ _ ⟨rfl, rfl, rfl, rfl, rfl, h⟩
  refine kk_bipush (v := (42 : Int32)) hm.1 dX10_termOf_46 (by decide) ?_
  refine kk_callSi (cs' := 0) (sl' := 0) (st := [kw_i v43]) hm.1 cs_X10_164 (t_X10_sign h) dX10_termOf_48 rfl hm.2.2.1 (rmi_X10_partOf d (by decide) (by decide)) ⟨Nat.le_refl _, Nat.le_refl _⟩ rfl rfl (Nat.le_of_ble_eq_true rfl) rfl ?_
  rintro v48 _ _ _ _ _ ⟨rfl, rfl, rfl, rfl, rfl, h⟩
  refine kk_icmp_ne (tgt := 58) hm.1 dX10_termOf_51 (by decide) (fun c51 => ?_) (fun c51 => ?_)
  · have h := h.1 c51
    refine kk_iconst (v := (0 : Int32)) hm.1 dX10_termOf_58 (by decide) ?_
    exact q_X10_termOf_59 hm hr_X10_partOf hr_X10_sumOf hr_X10_termOf h0  hk6 l2 ((0 : Int32)) i h
  · have h := h.2 c51
    refine kk_iconst (v := (1 : Int32)) hm.1 dX10_termOf_54 (by decide) ?_
    refine kk_goto (tgt := 59) hm.1 dX10_termOf_55 (by decide) ?_
    exact q_X10_termOf_59 hm hr_X10_partOf hr_X10_sumOf hr_X10_termOf h0  hk6 l2 ((1 : Int32)) i h
set_option maxHeartbeats 4000000 in
set_option maxRecDepth 100000 in
theorem qs_X10_termOf_6 {k_X10_partOf : Nat → Int32 → kw_T → Nat → kw_R → kw_I → kw_L → (Int64 → kw_I → Prop) → Prop} {k_X10_sumOf : Nat → Int32 → kw_T → Nat → kw_R → kw_I → kw_L → (Int64 → kw_I → Prop) → Prop} {k_X10_termOf : Nat → Int32 → kw_T → Nat → kw_R → kw_I → kw_L → (Int64 → kw_I → Prop) → Prop} {a0 : Nat} {x1 : Int32} {T : kw_T} {n : Nat} {r : kw_R} {w : kw_L} {Q : Int64 → kw_I → Prop} {E : kw_E} {G : kw_G} {d : Nat} (hm : kw_m E G cX10_termOf 7 RX10 (some .long) (rm_X10_partOf (d + 1)) "termOf") (hr_X10_partOf : ∀ (a0 : Nat) (x1 : Int32) (T : kw_T) (n : Nat) (r : kw_R) (i : kw_I) (w : kw_L) (Q : Int64 → kw_I → Prop), T a0 = (0, 10) → k_X10_partOf a0 x1 T n r i w Q → kw_Met E.2.1 G yX10_partOf cX10_partOf 4 (some .long) (rm_X10_partOf d) [kw_a a0, kw_i x1] (T, n, r, i, w) (kw_PL (fun v T' n' r' i' w' => T = T' ∧ n = n' ∧ r = r' ∧ w = w' ∧ Q v i'))) (hr_X10_sumOf : ∀ (a0 : Nat) (x1 : Int32) (T : kw_T) (n : Nat) (r : kw_R) (i : kw_I) (w : kw_L) (Q : Int64 → kw_I → Prop), T a0 = (0, 10) → k_X10_sumOf a0 x1 T n r i w Q → kw_Met E.2.1 G yX10_sumOf cX10_sumOf 7 (some .long) (rm_X10_partOf d) [kw_a a0, kw_i x1] (T, n, r, i, w) (kw_PL (fun v T' n' r' i' w' => T = T' ∧ n = n' ∧ r = r' ∧ w = w' ∧ Q v i'))) (hr_X10_termOf : ∀ (a0 : Nat) (x1 : Int32) (T : kw_T) (n : Nat) (r : kw_R) (i : kw_I) (w : kw_L) (Q : Int64 → kw_I → Prop), T a0 = (0, 10) → k_X10_termOf a0 x1 T n r i w Q → kw_Met E.2.1 G yX10_termOf cX10_termOf 7 (some .long) (rm_X10_partOf d) [kw_a a0, kw_i x1] (T, n, r, i, w) (kw_PL (fun v T' n' r' i' w' => T = T' ∧ n = n' ∧ r = r' ∧ w = w' ∧ Q v i'))) (h0 : T a0 = (0, 10))    {k6 : Int64 → kw_I → Prop} (hk6 : ∀ (l2 : Int64) (i : kw_I), k6 l2 i → kw_K E G 7 0 0 (kw_Z E G 0 0 (kw_PL (fun v T' n' r' i' w' => T = T' ∧ n = n' ∧ r = r' ∧ w = w' ∧ Q v i'))) 6 [(0, kw_a a0), (1, kw_i x1), (2, kw_l l2)] [] T n r i w) (l2 : Int64) (i : kw_I) (h : s_X10_termOf_6 k_X10_partOf k_X10_sumOf k_X10_termOf a0 x1 T n r w Q  k6 l2 i) : kw_K E G 7 0 0 (kw_Z E G 0 0 (kw_PL (fun v T' n' r' i' w' => T = T' ∧ n = n' ∧ r = r' ∧ w = w' ∧ Q v i'))) 6 [(0, kw_a a0), (1, kw_i x1), (2, kw_l l2)] [] T n r i w := by
  refine kk_aload_n hm.1 0 dX10_termOf_6 rfl rfl ?_
  refine kk_aload_n hm.1 0 dX10_termOf_7 rfl rfl ?_
  refine kk_getI hm.1 ff_X10_189 dX10_termOf_8 h0 ?_
  refine kk_callVi (cs' := 0) (sl' := 0) (st := []) hm.1 cv_X10_192 (t_X10_codeAt h0 h) dX10_termOf_11 h0 rfl rfl hm.2.2.1 (rmi_X10_partOf d (by decide) (by decide)) ⟨Nat.le_refl _, Nat.le_refl _⟩ rfl rfl (Nat.le_of_ble_eq_true rfl) rfl ?_
  rintro v11 _ _ _ _ _ ⟨rfl, rfl, rfl, rfl, rfl, h⟩
  refine kk_bipush (v := (42 : Int32)) hm.1 dX10_termOf_14 (by decide) ?_
  refine kk_callSi (cs' := 0) (sl' := 0) (st := [kw_i v11]) hm.1 cs_X10_164 (t_X10_sign h) dX10_termOf_16 rfl hm.2.2.1 (rmi_X10_partOf d (by decide) (by decide)) ⟨Nat.le_refl _, Nat.le_refl _⟩ rfl rfl (Nat.le_of_ble_eq_true rfl) rfl ?_
  rintro v16 _ _ _ _ _ ⟨rfl, rfl, rfl, rfl, rfl, h⟩
  refine kk_icmp_eq (tgt := 38) hm.1 dX10_termOf_19 (by decide) (fun c19 => ?_) (fun c19 => ?_)
  · have h := h.1 c19
    exact q_X10_termOf_38 hm hr_X10_partOf hr_X10_sumOf hr_X10_termOf h0  hk6 l2 i h
  · have h := h.2 c19
    refine kk_aload_n hm.1 0 dX10_termOf_22 rfl rfl ?_
    refine kk_aload_n hm.1 0 dX10_termOf_23 rfl rfl ?_
    refine kk_getI hm.1 ff_X10_189 dX10_termOf_24 h0 ?_
    refine kk_callVi (cs' := 0) (sl' := 0) (st := []) hm.1 cv_X10_192 (t_X10_codeAt h0 h) dX10_termOf_27 h0 rfl rfl hm.2.2.1 (rmi_X10_partOf d (by decide) (by decide)) ⟨Nat.le_refl _, Nat.le_refl _⟩ rfl rfl (Nat.le_of_ble_eq_true rfl) rfl ?_
    rintro v27 _ _ _ _ _ ⟨rfl, rfl, rfl, rfl, rfl, h⟩
    refine kk_bipush (v := (47 : Int32)) hm.1 dX10_termOf_30 (by decide) ?_
    refine kk_callSi (cs' := 0) (sl' := 0) (st := [kw_i v27]) hm.1 cs_X10_164 (t_X10_sign h) dX10_termOf_32 rfl hm.2.2.1 (rmi_X10_partOf d (by decide) (by decide)) ⟨Nat.le_refl _, Nat.le_refl _⟩ rfl rfl (Nat.le_of_ble_eq_true rfl) rfl ?_
    rintro v32 _ _ _ _ _ ⟨rfl, rfl, rfl, rfl, rfl, h⟩
    refine kk_icmp_ne (tgt := 138) hm.1 dX10_termOf_35 (by decide) (fun c35 => ?_) (fun c35 => ?_)
    · have h := h.1 c35
      refine kk_lload_n hm.1 2 dX10_termOf_138 rfl rfl ?_
      exact kk_lret hm.1 hm.2.1 dX10_termOf_139 ⟨_, rfl, rfl, rfl, rfl, rfl, h⟩
    · have h := h.2 c35
      exact q_X10_termOf_38 hm hr_X10_partOf hr_X10_sumOf hr_X10_termOf h0  hk6 l2 i h
set_option maxHeartbeats 4000000 in
set_option maxRecDepth 100000 in
theorem q_X10_termOf_6 {k_X10_partOf : Nat → Int32 → kw_T → Nat → kw_R → kw_I → kw_L → (Int64 → kw_I → Prop) → Prop} {k_X10_sumOf : Nat → Int32 → kw_T → Nat → kw_R → kw_I → kw_L → (Int64 → kw_I → Prop) → Prop} {k_X10_termOf : Nat → Int32 → kw_T → Nat → kw_R → kw_I → kw_L → (Int64 → kw_I → Prop) → Prop} {a0 : Nat} {x1 : Int32} {T : kw_T} {n : Nat} {r : kw_R} {w : kw_L} {Q : Int64 → kw_I → Prop} {E : kw_E} {G : kw_G} {d : Nat} (hm : kw_m E G cX10_termOf 7 RX10 (some .long) (rm_X10_partOf (d + 1)) "termOf") (hr_X10_partOf : ∀ (a0 : Nat) (x1 : Int32) (T : kw_T) (n : Nat) (r : kw_R) (i : kw_I) (w : kw_L) (Q : Int64 → kw_I → Prop), T a0 = (0, 10) → k_X10_partOf a0 x1 T n r i w Q → kw_Met E.2.1 G yX10_partOf cX10_partOf 4 (some .long) (rm_X10_partOf d) [kw_a a0, kw_i x1] (T, n, r, i, w) (kw_PL (fun v T' n' r' i' w' => T = T' ∧ n = n' ∧ r = r' ∧ w = w' ∧ Q v i'))) (hr_X10_sumOf : ∀ (a0 : Nat) (x1 : Int32) (T : kw_T) (n : Nat) (r : kw_R) (i : kw_I) (w : kw_L) (Q : Int64 → kw_I → Prop), T a0 = (0, 10) → k_X10_sumOf a0 x1 T n r i w Q → kw_Met E.2.1 G yX10_sumOf cX10_sumOf 7 (some .long) (rm_X10_partOf d) [kw_a a0, kw_i x1] (T, n, r, i, w) (kw_PL (fun v T' n' r' i' w' => T = T' ∧ n = n' ∧ r = r' ∧ w = w' ∧ Q v i'))) (hr_X10_termOf : ∀ (a0 : Nat) (x1 : Int32) (T : kw_T) (n : Nat) (r : kw_R) (i : kw_I) (w : kw_L) (Q : Int64 → kw_I → Prop), T a0 = (0, 10) → k_X10_termOf a0 x1 T n r i w Q → kw_Met E.2.1 G yX10_termOf cX10_termOf 7 (some .long) (rm_X10_partOf d) [kw_a a0, kw_i x1] (T, n, r, i, w) (kw_PL (fun v T' n' r' i' w' => T = T' ∧ n = n' ∧ r = r' ∧ w = w' ∧ Q v i'))) (h0 : T a0 = (0, 10))    : ∀ (N : Nat) (l2 : Int64) (i : kw_I), w_X10_termOf_6 k_X10_partOf k_X10_sumOf k_X10_termOf a0 x1 T n r w Q  N l2 i → kw_K E G 7 0 0 (kw_Z E G 0 0 (kw_PL (fun v T' n' r' i' w' => T = T' ∧ n = n' ∧ r = r' ∧ w = w' ∧ Q v i'))) 6 [(0, kw_a a0), (1, kw_i x1), (2, kw_l l2)] [] T n r i w := by
  intro N
  induction N with
  | zero => intro l2 i h; exact h.elim
  | succ N ih => intro l2 i h; exact qs_X10_termOf_6 hm hr_X10_partOf hr_X10_sumOf hr_X10_termOf h0  ih l2 i h
set_option maxHeartbeats 4000000 in
set_option maxRecDepth 100000 in
theorem t_X10_termOf {l : Launch} {G : kw_G} {d : Nat} {k_X10_partOf : Nat → Int32 → kw_T → Nat → kw_R → kw_I → kw_L → (Int64 → kw_I → Prop) → Prop} {k_X10_sumOf : Nat → Int32 → kw_T → Nat → kw_R → kw_I → kw_L → (Int64 → kw_I → Prop) → Prop} {k_X10_termOf : Nat → Int32 → kw_T → Nat → kw_R → kw_I → kw_L → (Int64 → kw_I → Prop) → Prop} {a0 : Nat} {x1 : Int32} {T : kw_T} {n : Nat} {r : kw_R} {i : kw_I} {w : kw_L} {Q : Int64 → kw_I → Prop} (hr_X10_partOf : ∀ (a0 : Nat) (x1 : Int32) (T : kw_T) (n : Nat) (r : kw_R) (i : kw_I) (w : kw_L) (Q : Int64 → kw_I → Prop), T a0 = (0, 10) → k_X10_partOf a0 x1 T n r i w Q → kw_Met l G yX10_partOf cX10_partOf 4 (some .long) (rm_X10_partOf d) [kw_a a0, kw_i x1] (T, n, r, i, w) (kw_PL (fun v T' n' r' i' w' => T = T' ∧ n = n' ∧ r = r' ∧ w = w' ∧ Q v i'))) (hr_X10_sumOf : ∀ (a0 : Nat) (x1 : Int32) (T : kw_T) (n : Nat) (r : kw_R) (i : kw_I) (w : kw_L) (Q : Int64 → kw_I → Prop), T a0 = (0, 10) → k_X10_sumOf a0 x1 T n r i w Q → kw_Met l G yX10_sumOf cX10_sumOf 7 (some .long) (rm_X10_partOf d) [kw_a a0, kw_i x1] (T, n, r, i, w) (kw_PL (fun v T' n' r' i' w' => T = T' ∧ n = n' ∧ r = r' ∧ w = w' ∧ Q v i'))) (hr_X10_termOf : ∀ (a0 : Nat) (x1 : Int32) (T : kw_T) (n : Nat) (r : kw_R) (i : kw_I) (w : kw_L) (Q : Int64 → kw_I → Prop), T a0 = (0, 10) → k_X10_termOf a0 x1 T n r i w Q → kw_Met l G yX10_termOf cX10_termOf 7 (some .long) (rm_X10_partOf d) [kw_a a0, kw_i x1] (T, n, r, i, w) (kw_PL (fun v T' n' r' i' w' => T = T' ∧ n = n' ∧ r = r' ∧ w = w' ∧ Q v i'))) (h0 : T a0 = (0, 10)) (h : w_X10_termOf k_X10_partOf k_X10_sumOf k_X10_termOf a0 x1 T n r i w Q) : kw_Met l G yX10_termOf cX10_termOf 7 (some .long) (rm_X10_partOf (d + 1)) [kw_a a0, kw_i x1] (T, n, r, i, w) (kw_PL (fun v T' n' r' i' w' => T = T' ∧ n = n' ∧ r = r' ∧ w = w' ∧ Q v i')) := by
  refine kw_Met.of (by decide) (Nat.le_of_ble_eq_true rfl) fun E hl hRm hE hT hnm => ?_
  have hm : kw_m E G cX10_termOf 7 RX10 (some .long) (rm_X10_partOf (d + 1)) "termOf" := ⟨hE, hT, hRm, hnm⟩
  subst hl
  show kw_K E G 7 0 0 (kw_Z E G 0 0 (kw_PL (fun v T' n' r' i' w' => T = T' ∧ n = n' ∧ r = r' ∧ w = w' ∧ Q v i'))) 0 [(0, kw_a a0), (1, kw_i x1)] [] T n r i w
  refine kk_aload_n hm.1 0 dX10_termOf_0 rfl rfl ?_
  refine kk_iload_n hm.1 1 dX10_termOf_1 rfl rfl ?_
  refine kk_callVl (cs' := 0) (sl' := 0) (st := []) hm.1 cv_X10_211 (hr_X10_partOf a0 x1 T n r i w _ h0 h) dX10_termOf_2 h0 rfl rfl hm.2.2.1 (rms_X10_partOf d (by decide)) ⟨Nat.le_refl _, Nat.le_refl _⟩ rfl rfl (Nat.le_of_ble_eq_true rfl) rfl ?_
  rintro v2 _ _ _ i2 _ ⟨rfl, rfl, rfl, rfl, h⟩
  refine kk_lstore_n (L' := [(2, kw_l v2), (0, kw_a a0), (1, kw_i x1)]) hm.1 dX10_termOf_5 rfl (by decide) rfl ?_
  refine kk_loc (L' := [(0, kw_a a0), (1, kw_i x1), (2, kw_l v2)]) [1, 2, 0] rfl ?_
  obtain ⟨N, h⟩ := h
  exact q_X10_termOf_6 hm hr_X10_partOf hr_X10_sumOf hr_X10_termOf h0   N v2 i2 h
def g_X10_partOf : Nat → (Nat → Int32 → kw_T → Nat → kw_R → kw_I → kw_L → (Int64 → kw_I → Prop) → Prop) × (Nat → Int32 → kw_T → Nat → kw_R → kw_I → kw_L → (Int64 → kw_I → Prop) → Prop) × (Nat → Int32 → kw_T → Nat → kw_R → kw_I → kw_L → (Int64 → kw_I → Prop) → Prop)
  | 0 => (fun _ _ _ _ _ _ _ _ => False, fun _ _ _ _ _ _ _ _ => False, fun _ _ _ _ _ _ _ _ => False)
  | d + 1 => (w_X10_partOf (g_X10_partOf d).1 (g_X10_partOf d).2.1 (g_X10_partOf d).2.2, w_X10_sumOf (g_X10_partOf d).1 (g_X10_partOf d).2.1 (g_X10_partOf d).2.2, w_X10_termOf (g_X10_partOf d).1 (g_X10_partOf d).2.1 (g_X10_partOf d).2.2)
set_option maxHeartbeats 4000000 in
set_option maxRecDepth 100000 in
theorem tg_X10_partOf (l : Launch) (G : kw_G) : ∀ d : Nat, (∀ (a0 : Nat) (x1 : Int32) (T : kw_T) (n : Nat) (r : kw_R) (i : kw_I) (w : kw_L) (Q : Int64 → kw_I → Prop), T a0 = (0, 10) → (g_X10_partOf d).1 a0 x1 T n r i w Q → kw_Met l G yX10_partOf cX10_partOf 4 (some .long) (rm_X10_partOf d) [kw_a a0, kw_i x1] (T, n, r, i, w) (kw_PL (fun v T' n' r' i' w' => T = T' ∧ n = n' ∧ r = r' ∧ w = w' ∧ Q v i'))) ∧ (∀ (a0 : Nat) (x1 : Int32) (T : kw_T) (n : Nat) (r : kw_R) (i : kw_I) (w : kw_L) (Q : Int64 → kw_I → Prop), T a0 = (0, 10) → (g_X10_partOf d).2.1 a0 x1 T n r i w Q → kw_Met l G yX10_sumOf cX10_sumOf 7 (some .long) (rm_X10_partOf d) [kw_a a0, kw_i x1] (T, n, r, i, w) (kw_PL (fun v T' n' r' i' w' => T = T' ∧ n = n' ∧ r = r' ∧ w = w' ∧ Q v i'))) ∧ (∀ (a0 : Nat) (x1 : Int32) (T : kw_T) (n : Nat) (r : kw_R) (i : kw_I) (w : kw_L) (Q : Int64 → kw_I → Prop), T a0 = (0, 10) → (g_X10_partOf d).2.2 a0 x1 T n r i w Q → kw_Met l G yX10_termOf cX10_termOf 7 (some .long) (rm_X10_partOf d) [kw_a a0, kw_i x1] (T, n, r, i, w) (kw_PL (fun v T' n' r' i' w' => T = T' ∧ n = n' ∧ r = r' ∧ w = w' ∧ Q v i')))
  | 0 => ⟨fun a0 x1 T n r i w Q h0 h => h.elim, fun a0 x1 T n r i w Q h0 h => h.elim, fun a0 x1 T n r i w Q h0 h => h.elim⟩
  | d + 1 => have ih := tg_X10_partOf l G d
    ⟨fun a0 x1 T n r i w Q h0 h => t_X10_partOf ih.1 ih.2.1 ih.2.2 h0 h, fun a0 x1 T n r i w Q h0 h => t_X10_sumOf ih.1 ih.2.1 ih.2.2 h0 h, fun a0 x1 T n r i w Q h0 h => t_X10_termOf ih.1 ih.2.1 ih.2.2 h0 h⟩
