def s_X10_looksBack_47 (a0 : Nat) (T : kw_T) (n : Nat) (r : kw_R) (w : kw_L) (Q : kw_I → Prop)  (k47 : Int32 → kw_I → Prop) (x2 : Int32) (i : kw_I) : Prop :=
  (x2 < 0 → Q i) ∧ (¬ x2 < 0 → w_X10_weaves a0 x2 (r a0 23) ((36 : Int32) * (x2 + (1 : Int32))) ((36 : Int32) * x2) T n r i w (fun i67 => k47 ((x2 + (-1 : Int32))) i67))
def w_X10_looksBack_47 (a0 : Nat) (T : kw_T) (n : Nat) (r : kw_R) (w : kw_L) (Q : kw_I → Prop)  : Nat → Int32 → kw_I → Prop
  | 0 => fun _ _ => False
  | N + 1 => s_X10_looksBack_47 a0 T n r w Q  (w_X10_looksBack_47 a0 T n r w Q  N)
def s_X10_looksBack_11 (a0 : Nat) (T : kw_T) (n : Nat) (r : kw_R) (w : kw_L) (Q : kw_I → Prop)  (k11 : Int32 → Int32 → kw_I → Prop) (x1 : Int32) (x2 : Int32) (i : kw_I) : Prop :=
  ((36 : Int32) ≤ x2 → ∃ N, w_X10_looksBack_47 a0 T n r w Q  N ((x1 - (1 : Int32))) i) ∧ (¬ (36 : Int32) ≤ x2 → kw_in T 1 (r a0 2) ((96 : Int32) + x2) ∧ (kw_in T 1 (r a0 23) (((36 : Int32) * x1) + x2) ∧ (∀ i36 : kw_I, i36 = kw_st i (r a0 23) ((((36 : Int32) * x1) + x2)).toNatClampNeg (i (r a0 2) (((96 : Int32) + x2)).toNatClampNeg) → (k11 x1 ((x2 + (1 : Int32))) i36))))
def w_X10_looksBack_11 (a0 : Nat) (T : kw_T) (n : Nat) (r : kw_R) (w : kw_L) (Q : kw_I → Prop)  : Nat → Int32 → Int32 → kw_I → Prop
  | 0 => fun _ _ _ => False
  | N + 1 => s_X10_looksBack_11 a0 T n r w Q  (w_X10_looksBack_11 a0 T n r w Q  N)
def w_X10_looksBack  (a0 : Nat) (T : kw_T) (n : Nat) (r : kw_R) (i : kw_I) (w : kw_L) (Q : kw_I → Prop) : Prop :=
  w_X10_plain a0 T n r i w (fun i1 => w_X10_villages a0 T n r i1 w (fun v5 => ∃ N, w_X10_looksBack_11 a0 T n r w Q  N v5 ((0 : Int32)) i1))
abbrev rm_X10_looksBack : Room := { frames := 127, cells := 0, slots := 0, locals := 6209 }
set_option maxHeartbeats 4000000 in
set_option maxRecDepth 100000 in
theorem qs_X10_looksBack_47 {a0 : Nat} {T : kw_T} {n : Nat} {r : kw_R} {w : kw_L} {Q : kw_I → Prop} {E : kw_E} {G : kw_G} (hm : kw_m E G cX10_looksBack 3 RX10 none rm_X10_looksBack "looksBack")  (h0 : T a0 = (0, 10))    {k47 : Int32 → kw_I → Prop} (hk47 : ∀ (x2 : Int32) (i : kw_I), k47 x2 i → kw_K E G 3 0 0 (kw_Z E G 0 0 (kw_PV (fun T' n' r' i' w' => T = T' ∧ n = n' ∧ r = r' ∧ w = w' ∧ Q i'))) 47 [(0, kw_a a0), (2, kw_i x2)] [] T n r i w) (x2 : Int32) (i : kw_I) (h : s_X10_looksBack_47 a0 T n r w Q  k47 x2 i) : kw_K E G 3 0 0 (kw_Z E G 0 0 (kw_PV (fun T' n' r' i' w' => T = T' ∧ n = n' ∧ r = r' ∧ w = w' ∧ Q i'))) 47 [(0, kw_a a0), (2, kw_i x2)] [] T n r i w := by
  refine kk_iload_n hm.1 1 dX10_looksBack_47 rfl rfl ?_
  refine kk_if_lt (tgt := 76) hm.1 dX10_looksBack_48 (by decide) (fun c48 => ?_) (fun c48 => ?_)
  · have h := h.1 c48
    exact kk_vret hm.1 hm.2.1 dX10_looksBack_76 ⟨rfl, rfl, rfl, rfl, rfl, h⟩
  · have h := h.2 c48
    refine kk_aload_n hm.1 0 dX10_looksBack_51 rfl rfl ?_
    refine kk_iload_n hm.1 1 dX10_looksBack_52 rfl rfl ?_
    refine kk_aload_n hm.1 0 dX10_looksBack_53 rfl rfl ?_
    refine kk_getR hm.1 ff_X10_55 dX10_looksBack_54 h0 ?_
    refine kk_bipush (v := (36 : Int32)) hm.1 dX10_looksBack_57 (by decide) ?_
    refine kk_iload_n hm.1 1 dX10_looksBack_59 rfl rfl ?_
    refine kk_iconst (v := (1 : Int32)) hm.1 dX10_looksBack_60 (by decide) ?_
    refine kk_iadd hm.1 dX10_looksBack_61 ?_
    refine kk_imul hm.1 dX10_looksBack_62 ?_
    refine kk_bipush (v := (36 : Int32)) hm.1 dX10_looksBack_63 (by decide) ?_
    refine kk_iload_n hm.1 1 dX10_looksBack_65 rfl rfl ?_
    refine kk_imul hm.1 dX10_looksBack_66 ?_
    refine kk_callVv (cs' := 0) (sl' := 0) (st := []) hm.1 cv_X10_266 (t_X10_weaves h0 h) dX10_looksBack_67 h0 rfl rfl hm.2.2.1 ⟨by decide, by decide⟩ ⟨by decide, by decide⟩ rfl rfl (Nat.le_of_ble_eq_true rfl) rfl ?_
    rintro _ _ _ i67 _ ⟨rfl, rfl, rfl, rfl, h⟩
    refine kk_iinc (v := (x2 + (-1 : Int32))) (L' := [(2, kw_i (x2 + (-1 : Int32))), (0, kw_a a0)]) hm.1 1 dX10_looksBack_70 rfl rfl (by decide) rfl ?_
    refine kk_goto (tgt := 47) hm.1 dX10_looksBack_73 (by decide) ?_
    refine kk_loc (L' := [(0, kw_a a0), (2, kw_i (x2 + (-1 : Int32)))]) [1, 0] rfl ?_
    exact hk47 ((x2 + (-1 : Int32))) i67 h
set_option maxHeartbeats 4000000 in
set_option maxRecDepth 100000 in
theorem q_X10_looksBack_47 {a0 : Nat} {T : kw_T} {n : Nat} {r : kw_R} {w : kw_L} {Q : kw_I → Prop} {E : kw_E} {G : kw_G} (hm : kw_m E G cX10_looksBack 3 RX10 none rm_X10_looksBack "looksBack")  (h0 : T a0 = (0, 10))    : ∀ (N : Nat) (x2 : Int32) (i : kw_I), w_X10_looksBack_47 a0 T n r w Q  N x2 i → kw_K E G 3 0 0 (kw_Z E G 0 0 (kw_PV (fun T' n' r' i' w' => T = T' ∧ n = n' ∧ r = r' ∧ w = w' ∧ Q i'))) 47 [(0, kw_a a0), (2, kw_i x2)] [] T n r i w := by
  intro N
  induction N with
  | zero => intro x2 i h; exact h.elim
  | succ N ih => intro x2 i h; exact qs_X10_looksBack_47 hm  h0  ih x2 i h
set_option maxHeartbeats 4000000 in
set_option maxRecDepth 100000 in
theorem qs_X10_looksBack_11 {a0 : Nat} {T : kw_T} {n : Nat} {r : kw_R} {w : kw_L} {Q : kw_I → Prop} {E : kw_E} {G : kw_G} (hm : kw_m E G cX10_looksBack 3 RX10 none rm_X10_looksBack "looksBack")  (h0 : T a0 = (0, 10))    {k11 : Int32 → Int32 → kw_I → Prop} (hk11 : ∀ (x1 : Int32) (x2 : Int32) (i : kw_I), k11 x1 x2 i → kw_K E G 3 0 0 (kw_Z E G 0 0 (kw_PV (fun T' n' r' i' w' => T = T' ∧ n = n' ∧ r = r' ∧ w = w' ∧ Q i'))) 11 [(0, kw_a a0), (1, kw_i x1), (2, kw_i x2)] [] T n r i w) (x1 : Int32) (x2 : Int32) (i : kw_I) (h : s_X10_looksBack_11 a0 T n r w Q  k11 x1 x2 i) : kw_K E G 3 0 0 (kw_Z E G 0 0 (kw_PV (fun T' n' r' i' w' => T = T' ∧ n = n' ∧ r = r' ∧ w = w' ∧ Q i'))) 11 [(0, kw_a a0), (1, kw_i x1), (2, kw_i x2)] [] T n r i w := by
  refine kk_iload_n hm.1 2 dX10_looksBack_11 rfl rfl ?_
  refine kk_bipush (v := (36 : Int32)) hm.1 dX10_looksBack_12 (by decide) ?_
  refine kk_icmp_ge (tgt := 43) hm.1 dX10_looksBack_14 (by decide) (fun c14 => ?_) (fun c14 => ?_)
  · have h := h.1 c14
    refine kk_iload_n hm.1 1 dX10_looksBack_43 rfl rfl ?_
    refine kk_iconst (v := (1 : Int32)) hm.1 dX10_looksBack_44 (by decide) ?_
    refine kk_isub hm.1 dX10_looksBack_45 ?_
    refine kk_istore_n (L' := [(2, kw_i (x1 - (1 : Int32))), (0, kw_a a0), (1, kw_i x1)]) hm.1 dX10_looksBack_46 rfl (by decide) rfl ?_
    refine kk_loc (L' := [(0, kw_a a0), (2, kw_i (x1 - (1 : Int32)))]) [1, 0] rfl ?_
    obtain ⟨N, h⟩ := h
    exact q_X10_looksBack_47 hm  h0   N ((x1 - (1 : Int32))) i h
  · have h := h.2 c14
    refine kk_aload_n hm.1 0 dX10_looksBack_17 rfl rfl ?_
    refine kk_getR hm.1 ff_X10_55 dX10_looksBack_18 h0 ?_
    refine kk_bipush (v := (36 : Int32)) hm.1 dX10_looksBack_21 (by decide) ?_
    refine kk_iload_n hm.1 1 dX10_looksBack_23 rfl rfl ?_
    refine kk_imul hm.1 dX10_looksBack_24 ?_
    refine kk_iload_n hm.1 2 dX10_looksBack_25 rfl rfl ?_
    refine kk_iadd hm.1 dX10_looksBack_26 ?_
    refine kk_aload_n hm.1 0 dX10_looksBack_27 rfl rfl ?_
    refine kk_getR hm.1 ff_X10_17 dX10_looksBack_28 h0 ?_
    refine kk_bipush (v := (96 : Int32)) hm.1 dX10_looksBack_31 (by decide) ?_
    refine kk_iload_n hm.1 2 dX10_looksBack_33 rfl rfl ?_
    refine kk_iadd hm.1 dX10_looksBack_34 ?_
    obtain ⟨o35, h⟩ := h
    refine kk_iaload hm.1 dX10_looksBack_35 o35 ?_
    obtain ⟨o36, h⟩ := h
    refine kn_iastore hm.1 dX10_looksBack_36 o36 (fun i36 e36 => ?_)
    have h := h i36 e36
    refine kk_iinc (v := (x2 + (1 : Int32))) (L' := [(2, kw_i (x2 + (1 : Int32))), (0, kw_a a0), (1, kw_i x1)]) hm.1 2 dX10_looksBack_37 rfl rfl (by decide) rfl ?_
    refine kk_goto (tgt := 11) hm.1 dX10_looksBack_40 (by decide) ?_
    refine kk_loc (L' := [(0, kw_a a0), (1, kw_i x1), (2, kw_i (x2 + (1 : Int32)))]) [1, 2, 0] rfl ?_
    exact hk11 x1 ((x2 + (1 : Int32))) i36 h
set_option maxHeartbeats 4000000 in
set_option maxRecDepth 100000 in
theorem q_X10_looksBack_11 {a0 : Nat} {T : kw_T} {n : Nat} {r : kw_R} {w : kw_L} {Q : kw_I → Prop} {E : kw_E} {G : kw_G} (hm : kw_m E G cX10_looksBack 3 RX10 none rm_X10_looksBack "looksBack")  (h0 : T a0 = (0, 10))    : ∀ (N : Nat) (x1 : Int32) (x2 : Int32) (i : kw_I), w_X10_looksBack_11 a0 T n r w Q  N x1 x2 i → kw_K E G 3 0 0 (kw_Z E G 0 0 (kw_PV (fun T' n' r' i' w' => T = T' ∧ n = n' ∧ r = r' ∧ w = w' ∧ Q i'))) 11 [(0, kw_a a0), (1, kw_i x1), (2, kw_i x2)] [] T n r i w := by
  intro N
  induction N with
  | zero => intro x1 x2 i h; exact h.elim
  | succ N ih => intro x1 x2 i h; exact qs_X10_looksBack_11 hm  h0  ih x1 x2 i h
set_option maxHeartbeats 4000000 in
set_option maxRecDepth 100000 in
theorem t_X10_looksBack {l : Launch} {G : kw_G} {a0 : Nat} {T : kw_T} {n : Nat} {r : kw_R} {i : kw_I} {w : kw_L} {Q : kw_I → Prop} (h0 : T a0 = (0, 10)) (h : w_X10_looksBack a0 T n r i w Q) : kw_Met l G yX10_looksBack cX10_looksBack 3 none rm_X10_looksBack [kw_a a0] (T, n, r, i, w) (kw_PV (fun T' n' r' i' w' => T = T' ∧ n = n' ∧ r = r' ∧ w = w' ∧ Q i')) := by
  refine kw_Met.of (by decide) (Nat.le_of_ble_eq_true rfl) fun E hl hRm hE hT hnm => ?_
  have hm : kw_m E G cX10_looksBack 3 RX10 none rm_X10_looksBack "looksBack" := ⟨hE, hT, hRm, hnm⟩
  subst hl
  show kw_K E G 3 0 0 (kw_Z E G 0 0 (kw_PV (fun T' n' r' i' w' => T = T' ∧ n = n' ∧ r = r' ∧ w = w' ∧ Q i'))) 0 [(0, kw_a a0)] [] T n r i w
  refine kk_aload_n hm.1 0 dX10_looksBack_0 rfl rfl ?_
  refine kk_callVv (cs' := 0) (sl' := 0) (st := []) hm.1 cv_X10_270 (t_X10_plain h0 h) dX10_looksBack_1 h0 rfl rfl hm.2.2.1 ⟨by decide, by decide⟩ ⟨by decide, by decide⟩ rfl rfl (Nat.le_of_ble_eq_true rfl) rfl ?_
  rintro _ _ _ i1 _ ⟨rfl, rfl, rfl, rfl, h⟩
  refine kk_aload_n hm.1 0 dX10_looksBack_4 rfl rfl ?_
  refine kk_callVi (cs' := 0) (sl' := 0) (st := []) hm.1 cv_X10_84 (t_X10_villages h0 h) dX10_looksBack_5 h0 rfl rfl hm.2.2.1 ⟨by decide, by decide⟩ ⟨by decide, by decide⟩ rfl rfl (Nat.le_of_ble_eq_true rfl) rfl ?_
  rintro v5 _ _ _ _ _ ⟨rfl, rfl, rfl, rfl, rfl, h⟩
  refine kk_istore_n (L' := [(1, kw_i v5), (0, kw_a a0)]) hm.1 dX10_looksBack_8 rfl (by decide) rfl ?_
  refine kk_iconst (v := (0 : Int32)) hm.1 dX10_looksBack_9 (by decide) ?_
  refine kk_istore_n (L' := [(2, kw_i (0 : Int32)), (1, kw_i v5), (0, kw_a a0)]) hm.1 dX10_looksBack_10 rfl (by decide) rfl ?_
  refine kk_loc (L' := [(0, kw_a a0), (1, kw_i v5), (2, kw_i (0 : Int32))]) [2, 1, 0] rfl ?_
  obtain ⟨N, h⟩ := h
  exact q_X10_looksBack_11 hm  h0   N v5 ((0 : Int32)) i1 h
def w_X10_endOf  (a0 : Nat) (T : kw_T) (n : Nat) (r : kw_R) (i : kw_I) (w : kw_L) (Q : Int32 → Prop) : Prop :=
  w_X10_villages a0 T n r i w (fun v3 => Q ((36 : Int32) * v3))
abbrev rm_X10_endOf : Room := { frames := 2, cells := 0, slots := 0, locals := 80 }
set_option maxHeartbeats 4000000 in
set_option maxRecDepth 100000 in
theorem t_X10_endOf {l : Launch} {G : kw_G} {a0 : Nat} {T : kw_T} {n : Nat} {r : kw_R} {i : kw_I} {w : kw_L} {Q : Int32 → Prop} (h0 : T a0 = (0, 10)) (h : w_X10_endOf a0 T n r i w Q) : kw_Met l G yX10_endOf cX10_endOf 1 (some .int) rm_X10_endOf [kw_a a0] (T, n, r, i, w) (kw_PI (fun v T' n' r' i' w' => T = T' ∧ n = n' ∧ r = r' ∧ i = i' ∧ w = w' ∧ Q v)) := by
  refine kw_Met.of (by decide) (Nat.le_of_ble_eq_true rfl) fun E hl hRm hE hT hnm => ?_
  have hm : kw_m E G cX10_endOf 1 RX10 (some .int) rm_X10_endOf "endOf" := ⟨hE, hT, hRm, hnm⟩
  subst hl
  show kw_K E G 1 0 0 (kw_Z E G 0 0 (kw_PI (fun v T' n' r' i' w' => T = T' ∧ n = n' ∧ r = r' ∧ i = i' ∧ w = w' ∧ Q v))) 0 [(0, kw_a a0)] [] T n r i w
  refine kk_bipush (v := (36 : Int32)) hm.1 dX10_endOf_0 (by decide) ?_
  refine kk_aload_n hm.1 0 dX10_endOf_2 rfl rfl ?_
  refine kk_callVi (cs' := 0) (sl' := 0) (st := [kw_i (36 : Int32)]) hm.1 cv_X10_84 (t_X10_villages h0 h) dX10_endOf_3 h0 rfl rfl hm.2.2.1 ⟨by decide, by decide⟩ ⟨by decide, by decide⟩ rfl rfl (Nat.le_of_ble_eq_true rfl) rfl ?_
  rintro v3 _ _ _ _ _ ⟨rfl, rfl, rfl, rfl, rfl, h⟩
  refine kk_imul hm.1 dX10_endOf_6 ?_
  exact kk_iret hm.1 hm.2.1 dX10_endOf_7 ⟨_, rfl, rfl, rfl, rfl, rfl, rfl, h⟩
def w_X10_likeness_35 (a0 : Nat) (x1 : Int32) (a2 : Nat) (x3 : Int32) (T : kw_T) (n : Nat) (r : kw_R) (i : kw_I) (w : kw_L) (Q : Int32 → Prop) (k6 : Int32 → Int32 → Prop) (x5 : Int32) (s0 : Int32) (s1 : Int32) : Prop :=
  k6 ((s0 + s1)) ((x5 + (1 : Int32)))
def s_X10_likeness_6 (a0 : Nat) (x1 : Int32) (a2 : Nat) (x3 : Int32) (T : kw_T) (n : Nat) (r : kw_R) (i : kw_I) (w : kw_L) (Q : Int32 → Prop)  (k6 : Int32 → Int32 → Prop) (x4 : Int32) (x5 : Int32) : Prop :=
  ((36 : Int32) ≤ x5 → Q x4) ∧ (¬ (36 : Int32) ≤ x5 → kw_in T 1 a0 (x1 + x5) ∧ (kw_in T 1 a2 (x3 + x5) ∧ ((¬ (i a0 ((x1 + x5)).toNatClampNeg) = (i a2 ((x3 + x5)).toNatClampNeg) → w_X10_likeness_35 a0 x1 a2 x3 T n r i w Q k6 x5 x4 ((0 : Int32))) ∧ ((i a0 ((x1 + x5)).toNatClampNeg) = (i a2 ((x3 + x5)).toNatClampNeg) → w_X10_likeness_35 a0 x1 a2 x3 T n r i w Q k6 x5 x4 ((1 : Int32))))))
def w_X10_likeness_6 (a0 : Nat) (x1 : Int32) (a2 : Nat) (x3 : Int32) (T : kw_T) (n : Nat) (r : kw_R) (i : kw_I) (w : kw_L) (Q : Int32 → Prop)  : Nat → Int32 → Int32 → Prop
  | 0 => fun _ _ => False
  | N + 1 => s_X10_likeness_6 a0 x1 a2 x3 T n r i w Q  (w_X10_likeness_6 a0 x1 a2 x3 T n r i w Q  N)
def w_X10_likeness  (a0 : Nat) (x1 : Int32) (a2 : Nat) (x3 : Int32) (T : kw_T) (n : Nat) (r : kw_R) (i : kw_I) (w : kw_L) (Q : Int32 → Prop) : Prop :=
  ∃ N, w_X10_likeness_6 a0 x1 a2 x3 T n r i w Q  N ((0 : Int32)) ((0 : Int32))
abbrev rm_X10_likeness : Room := { frames := 1, cells := 0, slots := 0, locals := 60 }
set_option maxHeartbeats 4000000 in
set_option maxRecDepth 100000 in
theorem q_X10_likeness_35 {a0 : Nat} {x1 : Int32} {a2 : Nat} {x3 : Int32} {T : kw_T} {n : Nat} {r : kw_R} {i : kw_I} {w : kw_L} {Q : Int32 → Prop} {E : kw_E} {G : kw_G} (hm : kw_m E G cX10_likeness 6 RX10 (some .int) rm_X10_likeness "likeness")   {k6 : Int32 → Int32 → Prop} (hk6 : ∀ (x4 : Int32) (x5 : Int32), k6 x4 x5 → kw_K E G 6 0 0 (kw_Z E G 0 0 (kw_PI (fun v T' n' r' i' w' => T = T' ∧ n = n' ∧ r = r' ∧ i = i' ∧ w = w' ∧ Q v))) 6 [(0, kw_a a0), (1, kw_i x1), (2, kw_a a2), (3, kw_i x3), (4, kw_i x4), (5, kw_i x5)] [] T n r i w) (x5 : Int32) (s0 : Int32) (s1 : Int32) (h : w_X10_likeness_35 a0 x1 a2 x3 T n r i w Q k6 x5 s0 s1) : kw_K E G 6 0 0 (kw_Z E G 0 0 (kw_PI (fun v T' n' r' i' w' => T = T' ∧ n = n' ∧ r = r' ∧ i = i' ∧ w = w' ∧ Q v))) 35 [(0, kw_a a0), (1, kw_i x1), (2, kw_a a2), (3, kw_i x3), (5, kw_i x5)] [kw_i s1, kw_i s0] T n r i w := by
  refine kk_iadd hm.1 dX10_likeness_35 ?_
  refine kk_istore (L' := [(4, kw_i (s0 + s1)), (0, kw_a a0), (1, kw_i x1), (2, kw_a a2), (3, kw_i x3), (5, kw_i x5)]) hm.1 dX10_likeness_36 (by decide) rfl ?_
  refine kk_iinc (v := (x5 + (1 : Int32))) (L' := [(5, kw_i (x5 + (1 : Int32))), (4, kw_i (s0 + s1)), (0, kw_a a0), (1, kw_i x1), (2, kw_a a2), (3, kw_i x3)]) hm.1 5 dX10_likeness_38 rfl rfl (by decide) rfl ?_
  refine kk_goto (tgt := 6) hm.1 dX10_likeness_41 (by decide) ?_
  refine kk_loc (L' := [(0, kw_a a0), (1, kw_i x1), (2, kw_a a2), (3, kw_i x3), (4, kw_i (s0 + s1)), (5, kw_i (x5 + (1 : Int32)))]) [2, 3, 4, 5, 1, 0] rfl ?_
  exact hk6 ((s0 + s1)) ((x5 + (1 : Int32))) h
set_option maxHeartbeats 4000000 in
set_option maxRecDepth 100000 in
theorem qs_X10_likeness_6 {a0 : Nat} {x1 : Int32} {a2 : Nat} {x3 : Int32} {T : kw_T} {n : Nat} {r : kw_R} {i : kw_I} {w : kw_L} {Q : Int32 → Prop} {E : kw_E} {G : kw_G} (hm : kw_m E G cX10_likeness 6 RX10 (some .int) rm_X10_likeness "likeness")     {k6 : Int32 → Int32 → Prop} (hk6 : ∀ (x4 : Int32) (x5 : Int32), k6 x4 x5 → kw_K E G 6 0 0 (kw_Z E G 0 0 (kw_PI (fun v T' n' r' i' w' => T = T' ∧ n = n' ∧ r = r' ∧ i = i' ∧ w = w' ∧ Q v))) 6 [(0, kw_a a0), (1, kw_i x1), (2, kw_a a2), (3, kw_i x3), (4, kw_i x4), (5, kw_i x5)] [] T n r i w) (x4 : Int32) (x5 : Int32) (h : s_X10_likeness_6 a0 x1 a2 x3 T n r i w Q  k6 x4 x5) : kw_K E G 6 0 0 (kw_Z E G 0 0 (kw_PI (fun v T' n' r' i' w' => T = T' ∧ n = n' ∧ r = r' ∧ i = i' ∧ w = w' ∧ Q v))) 6 [(0, kw_a a0), (1, kw_i x1), (2, kw_a a2), (3, kw_i x3), (4, kw_i x4), (5, kw_i x5)] [] T n r i w := by
  refine kk_iload hm.1 5 dX10_likeness_6 rfl ?_
  refine kk_bipush (v := (36 : Int32)) hm.1 dX10_likeness_8 (by decide) ?_
  refine kk_icmp_ge (tgt := 44) hm.1 dX10_likeness_10 (by decide) (fun c10 => ?_) (fun c10 => ?_)
  · have h := h.1 c10
    refine kk_iload hm.1 4 dX10_likeness_44 rfl ?_
    exact kk_iret hm.1 hm.2.1 dX10_likeness_46 ⟨_, rfl, rfl, rfl, rfl, rfl, rfl, h⟩
  · have h := h.2 c10
    refine kk_iload hm.1 4 dX10_likeness_13 rfl ?_
    refine kk_aload_n hm.1 0 dX10_likeness_15 rfl rfl ?_
    refine kk_iload_n hm.1 1 dX10_likeness_16 rfl rfl ?_
    refine kk_iload hm.1 5 dX10_likeness_17 rfl ?_
    refine kk_iadd hm.1 dX10_likeness_19 ?_
    obtain ⟨o20, h⟩ := h
    refine kk_iaload hm.1 dX10_likeness_20 o20 ?_
    refine kk_aload_n hm.1 2 dX10_likeness_21 rfl rfl ?_
    refine kk_iload_n hm.1 3 dX10_likeness_22 rfl rfl ?_
    refine kk_iload hm.1 5 dX10_likeness_23 rfl ?_
    refine kk_iadd hm.1 dX10_likeness_25 ?_
    obtain ⟨o26, h⟩ := h
    refine kk_iaload hm.1 dX10_likeness_26 o26 ?_
    refine kk_icmp_ne (tgt := 34) hm.1 dX10_likeness_27 (by decide) (fun c27 => ?_) (fun c27 => ?_)
    · have h := h.1 c27
      refine kk_iconst (v := (0 : Int32)) hm.1 dX10_likeness_34 (by decide) ?_
      refine kk_loc (L' := [(0, kw_a a0), (1, kw_i x1), (2, kw_a a2), (3, kw_i x3), (5, kw_i x5)]) [0, 1, 2, 3, 5] rfl ?_
      exact q_X10_likeness_35 hm   hk6 x5 x4 ((0 : Int32)) h
    · have h := h.2 c27
      refine kk_iconst (v := (1 : Int32)) hm.1 dX10_likeness_30 (by decide) ?_
      refine kk_goto (tgt := 35) hm.1 dX10_likeness_31 (by decide) ?_
      refine kk_loc (L' := [(0, kw_a a0), (1, kw_i x1), (2, kw_a a2), (3, kw_i x3), (5, kw_i x5)]) [0, 1, 2, 3, 5] rfl ?_
      exact q_X10_likeness_35 hm   hk6 x5 x4 ((1 : Int32)) h
set_option maxHeartbeats 4000000 in
set_option maxRecDepth 100000 in
theorem q_X10_likeness_6 {a0 : Nat} {x1 : Int32} {a2 : Nat} {x3 : Int32} {T : kw_T} {n : Nat} {r : kw_R} {i : kw_I} {w : kw_L} {Q : Int32 → Prop} {E : kw_E} {G : kw_G} (hm : kw_m E G cX10_likeness 6 RX10 (some .int) rm_X10_likeness "likeness")     : ∀ (N : Nat) (x4 : Int32) (x5 : Int32), w_X10_likeness_6 a0 x1 a2 x3 T n r i w Q  N x4 x5 → kw_K E G 6 0 0 (kw_Z E G 0 0 (kw_PI (fun v T' n' r' i' w' => T = T' ∧ n = n' ∧ r = r' ∧ i = i' ∧ w = w' ∧ Q v))) 6 [(0, kw_a a0), (1, kw_i x1), (2, kw_a a2), (3, kw_i x3), (4, kw_i x4), (5, kw_i x5)] [] T n r i w := by
  intro N
  induction N with
  | zero => intro x4 x5 h; exact h.elim
  | succ N ih => intro x4 x5 h; exact qs_X10_likeness_6 hm    ih x4 x5 h
set_option maxHeartbeats 4000000 in
set_option maxRecDepth 100000 in
theorem t_X10_likeness {l : Launch} {G : kw_G} {a0 : Nat} {x1 : Int32} {a2 : Nat} {x3 : Int32} {T : kw_T} {n : Nat} {r : kw_R} {i : kw_I} {w : kw_L} {Q : Int32 → Prop} (h : w_X10_likeness a0 x1 a2 x3 T n r i w Q) : kw_Met l G yX10_likeness cX10_likeness 6 (some .int) rm_X10_likeness [kw_a a0, kw_i x1, kw_a a2, kw_i x3] (T, n, r, i, w) (kw_PI (fun v T' n' r' i' w' => T = T' ∧ n = n' ∧ r = r' ∧ i = i' ∧ w = w' ∧ Q v)) := by
  refine kw_Met.of (by decide) (Nat.le_of_ble_eq_true rfl) fun E hl hRm hE hT hnm => ?_
  have hm : kw_m E G cX10_likeness 6 RX10 (some .int) rm_X10_likeness "likeness" := ⟨hE, hT, hRm, hnm⟩
  subst hl
  show kw_K E G 6 0 0 (kw_Z E G 0 0 (kw_PI (fun v T' n' r' i' w' => T = T' ∧ n = n' ∧ r = r' ∧ i = i' ∧ w = w' ∧ Q v))) 0 [(0, kw_a a0), (1, kw_i x1), (2, kw_a a2), (3, kw_i x3)] [] T n r i w
  refine kk_iconst (v := (0 : Int32)) hm.1 dX10_likeness_0 (by decide) ?_
  refine kk_istore (L' := [(4, kw_i (0 : Int32)), (0, kw_a a0), (1, kw_i x1), (2, kw_a a2), (3, kw_i x3)]) hm.1 dX10_likeness_1 (by decide) rfl ?_
  refine kk_iconst (v := (0 : Int32)) hm.1 dX10_likeness_3 (by decide) ?_
  refine kk_istore (L' := [(5, kw_i (0 : Int32)), (4, kw_i (0 : Int32)), (0, kw_a a0), (1, kw_i x1), (2, kw_a a2), (3, kw_i x3)]) hm.1 dX10_likeness_4 (by decide) rfl ?_
  refine kk_loc (L' := [(0, kw_a a0), (1, kw_i x1), (2, kw_a a2), (3, kw_i x3), (4, kw_i (0 : Int32)), (5, kw_i (0 : Int32))]) [2, 3, 4, 5, 1, 0] rfl ?_
  obtain ⟨N, h⟩ := h
  exact q_X10_likeness_6 hm    N ((0 : Int32)) ((0 : Int32)) h
def w_X10_isWay  (a0 : Nat) (x1 : Int32) (x2 : Int32) (T : kw_T) (n : Nat) (r : kw_R) (i : kw_I) (w : kw_L) (Q : Int32 → Prop) : Prop :=
  w_X10_isVillage a0 x1 T n r i w (fun v2 => (v2 = 0 → Q (0 : Int32)) ∧ (¬ v2 = 0 → w_X10_isCell x2 T n r i w (fun v9 => (v9 = 0 → Q (0 : Int32)) ∧ (¬ v9 = 0 → Q (1 : Int32)))))
abbrev rm_X10_isWay : Room := { frames := 3, cells := 0, slots := 0, locals := 103 }
set_option maxHeartbeats 4000000 in
set_option maxRecDepth 100000 in
theorem t_X10_isWay {l : Launch} {G : kw_G} {a0 : Nat} {x1 : Int32} {x2 : Int32} {T : kw_T} {n : Nat} {r : kw_R} {i : kw_I} {w : kw_L} {Q : Int32 → Prop} (h0 : T a0 = (0, 10)) (h : w_X10_isWay a0 x1 x2 T n r i w Q) : kw_Met l G yX10_isWay cX10_isWay 3 (some .boolean) rm_X10_isWay [kw_a a0, kw_i x1, kw_i x2] (T, n, r, i, w) (kw_PI (fun v T' n' r' i' w' => T = T' ∧ n = n' ∧ r = r' ∧ i = i' ∧ w = w' ∧ Q v)) := by
  refine kw_Met.of (by decide) (Nat.le_of_ble_eq_true rfl) fun E hl hRm hE hT hnm => ?_
  have hm : kw_m E G cX10_isWay 3 RX10 (some .boolean) rm_X10_isWay "isWay" := ⟨hE, hT, hRm, hnm⟩
  subst hl
  show kw_K E G 3 0 0 (kw_Z E G 0 0 (kw_PI (fun v T' n' r' i' w' => T = T' ∧ n = n' ∧ r = r' ∧ i = i' ∧ w = w' ∧ Q v))) 0 [(0, kw_a a0), (1, kw_i x1), (2, kw_i x2)] [] T n r i w
  refine kk_aload_n hm.1 0 dX10_isWay_0 rfl rfl ?_
  refine kk_iload_n hm.1 1 dX10_isWay_1 rfl rfl ?_
  refine kk_callVi (cs' := 0) (sl' := 0) (st := []) hm.1 cv_X10_96 (t_X10_isVillage h0 h) dX10_isWay_2 h0 rfl rfl hm.2.2.1 ⟨by decide, by decide⟩ ⟨by decide, by decide⟩ rfl rfl (Nat.le_of_ble_eq_true rfl) rfl ?_
  rintro v2 _ _ _ _ _ ⟨rfl, rfl, rfl, rfl, rfl, h⟩
  refine kk_if_eq (tgt := 19) hm.1 dX10_isWay_5 (by decide) (fun c5 => ?_) (fun c5 => ?_)
  · have h := h.1 c5
    refine kk_iconst (v := (0 : Int32)) hm.1 dX10_isWay_19 (by decide) ?_
    exact kk_zret hm.1 hm.2.1 dX10_isWay_20 (Or.inl rfl) ⟨_, rfl, rfl, rfl, rfl, rfl, rfl, h⟩
  · have h := h.2 c5
    refine kk_iload_n hm.1 2 dX10_isWay_8 rfl rfl ?_
    refine kk_callSi (cs' := 0) (sl' := 0) (st := []) hm.1 cs_X10_104 (t_X10_isCell h) dX10_isWay_9 rfl hm.2.2.1 ⟨by decide, by decide⟩ ⟨by decide, by decide⟩ rfl rfl (Nat.le_of_ble_eq_true rfl) rfl ?_
    rintro v9 _ _ _ _ _ ⟨rfl, rfl, rfl, rfl, rfl, h⟩
    refine kk_if_eq (tgt := 19) hm.1 dX10_isWay_12 (by decide) (fun c12 => ?_) (fun c12 => ?_)
    · have h := h.1 c12
      refine kk_iconst (v := (0 : Int32)) hm.1 dX10_isWay_19 (by decide) ?_
      exact kk_zret hm.1 hm.2.1 dX10_isWay_20 (Or.inl rfl) ⟨_, rfl, rfl, rfl, rfl, rfl, rfl, h⟩
    · have h := h.2 c12
      refine kk_iconst (v := (1 : Int32)) hm.1 dX10_isWay_15 (by decide) ?_
      refine kk_goto (tgt := 20) hm.1 dX10_isWay_16 (by decide) ?_
      exact kk_zret hm.1 hm.2.1 dX10_isWay_20 (Or.inr rfl) ⟨_, rfl, rfl, rfl, rfl, rfl, rfl, h⟩
def w_X10_woven_35 (a0 : Nat) (x1 : Int32) (x2 : Int32) (x3 : Int32) (T : kw_T) (n : Nat) (r : kw_R) (w : kw_L) (Q : Int32 → kw_I → Prop)  (i : kw_I) : Prop :=
  (¬ x3 = 0 → kw_in T 1 (r a0 23) (((36 : Int32) * x1) + x2) ∧ (Q (i (r a0 23) ((((36 : Int32) * x1) + x2)).toNatClampNeg) i)) ∧ (x3 = 0 → kw_in T 1 (r a0 22) (((36 : Int32) * (x1 + (1 : Int32))) + x2) ∧ (Q (i (r a0 22) ((((36 : Int32) * (x1 + (1 : Int32))) + x2)).toNatClampNeg) i))
def w_X10_woven  (a0 : Nat) (x1 : Int32) (x2 : Int32) (x3 : Int32) (T : kw_T) (n : Nat) (r : kw_R) (i : kw_I) (w : kw_L) (Q : Int32 → kw_I → Prop) : Prop :=
  w_X10_isWay a0 x1 x2 T n r i w (fun v3 => (v3 = 0 → Q (-1 : Int32) i) ∧ (¬ v3 = 0 → w_X10_lies x3 (0 : Int32) (1 : Int32) T n r i w (fun v12 => (¬ v12 = 0 → (¬ x3 = 0 → w_X10_looksBack a0 T n r i w (fun i32 => w_X10_woven_35 a0 x1 x2 x3 T n r w Q  i32)) ∧ (x3 = 0 → w_X10_looks a0 T n r i w (fun i25 => w_X10_woven_35 a0 x1 x2 x3 T n r w Q  i25))) ∧ (v12 = 0 → Q (-1 : Int32) i))))
abbrev rm_X10_woven : Room := { frames := 129, cells := 0, slots := 0, locals := 6253 }
set_option maxHeartbeats 4000000 in
set_option maxRecDepth 100000 in
theorem q_X10_woven_35 {a0 : Nat} {x1 : Int32} {x2 : Int32} {x3 : Int32} {T : kw_T} {n : Nat} {r : kw_R} {w : kw_L} {Q : Int32 → kw_I → Prop} {E : kw_E} {G : kw_G} (hm : kw_m E G cX10_woven 4 RX10 (some .int) rm_X10_woven "woven")  (h0 : T a0 = (0, 10))    (i : kw_I) (h : w_X10_woven_35 a0 x1 x2 x3 T n r w Q  i) : kw_K E G 4 0 0 (kw_Z E G 0 0 (kw_PI (fun v T' n' r' i' w' => T = T' ∧ n = n' ∧ r = r' ∧ w = w' ∧ Q v i'))) 35 [(0, kw_a a0), (1, kw_i x1), (2, kw_i x2), (3, kw_i x3)] [] T n r i w := by
  refine kk_iload_n hm.1 3 dX10_woven_35 rfl rfl ?_
  refine kk_if_ne (tgt := 55) hm.1 dX10_woven_36 (by decide) (fun c36 => ?_) (fun c36 => ?_)
  · have h := h.1 c36
    refine kk_aload_n hm.1 0 dX10_woven_55 rfl rfl ?_
    refine kk_getR hm.1 ff_X10_55 dX10_woven_56 h0 ?_
    refine kk_bipush (v := (36 : Int32)) hm.1 dX10_woven_59 (by decide) ?_
    refine kk_iload_n hm.1 1 dX10_woven_61 rfl rfl ?_
    refine kk_imul hm.1 dX10_woven_62 ?_
    refine kk_iload_n hm.1 2 dX10_woven_63 rfl rfl ?_
    refine kk_iadd hm.1 dX10_woven_64 ?_
    obtain ⟨o65, h⟩ := h
    refine kk_iaload hm.1 dX10_woven_65 o65 ?_
    exact kk_iret hm.1 hm.2.1 dX10_woven_66 ⟨_, rfl, rfl, rfl, rfl, rfl, h⟩
  · have h := h.2 c36
    refine kk_aload_n hm.1 0 dX10_woven_39 rfl rfl ?_
    refine kk_getR hm.1 ff_X10_52 dX10_woven_40 h0 ?_
    refine kk_bipush (v := (36 : Int32)) hm.1 dX10_woven_43 (by decide) ?_
    refine kk_iload_n hm.1 1 dX10_woven_45 rfl rfl ?_
    refine kk_iconst (v := (1 : Int32)) hm.1 dX10_woven_46 (by decide) ?_
    refine kk_iadd hm.1 dX10_woven_47 ?_
    refine kk_imul hm.1 dX10_woven_48 ?_
    refine kk_iload_n hm.1 2 dX10_woven_49 rfl rfl ?_
    refine kk_iadd hm.1 dX10_woven_50 ?_
    obtain ⟨o51, h⟩ := h
    refine kk_iaload hm.1 dX10_woven_51 o51 ?_
    refine kk_goto (tgt := 66) hm.1 dX10_woven_52 (by decide) ?_
    exact kk_iret hm.1 hm.2.1 dX10_woven_66 ⟨_, rfl, rfl, rfl, rfl, rfl, h⟩
set_option maxHeartbeats 4000000 in
set_option maxRecDepth 100000 in
theorem t_X10_woven {l : Launch} {G : kw_G} {a0 : Nat} {x1 : Int32} {x2 : Int32} {x3 : Int32} {T : kw_T} {n : Nat} {r : kw_R} {i : kw_I} {w : kw_L} {Q : Int32 → kw_I → Prop} (h0 : T a0 = (0, 10)) (h : w_X10_woven a0 x1 x2 x3 T n r i w Q) : kw_Met l G yX10_woven cX10_woven 4 (some .int) rm_X10_woven [kw_a a0, kw_i x1, kw_i x2, kw_i x3] (T, n, r, i, w) (kw_PI (fun v T' n' r' i' w' => T = T' ∧ n = n' ∧ r = r' ∧ w = w' ∧ Q v i')) := by
  refine kw_Met.of (by decide) (Nat.le_of_ble_eq_true rfl) fun E hl hRm hE hT hnm => ?_
  have hm : kw_m E G cX10_woven 4 RX10 (some .int) rm_X10_woven "woven" := ⟨hE, hT, hRm, hnm⟩
  subst hl
  show kw_K E G 4 0 0 (kw_Z E G 0 0 (kw_PI (fun v T' n' r' i' w' => T = T' ∧ n = n' ∧ r = r' ∧ w = w' ∧ Q v i'))) 0 [(0, kw_a a0), (1, kw_i x1), (2, kw_i x2), (3, kw_i x3)] [] T n r i w
  refine kk_aload_n hm.1 0 dX10_woven_0 rfl rfl ?_
  refine kk_iload_n hm.1 1 dX10_woven_1 rfl rfl ?_
  refine kk_iload_n hm.1 2 dX10_woven_2 rfl rfl ?_
  refine kk_callVi (cs' := 0) (sl' := 0) (st := []) hm.1 cv_X10_277 (t_X10_isWay h0 h) dX10_woven_3 h0 rfl rfl hm.2.2.1 ⟨by decide, by decide⟩ ⟨by decide, by decide⟩ rfl rfl (Nat.le_of_ble_eq_true rfl) rfl ?_
  rintro v3 _ _ _ _ _ ⟨rfl, rfl, rfl, rfl, rfl, h⟩
  refine kk_if_eq (tgt := 18) hm.1 dX10_woven_6 (by decide) (fun c6 => ?_) (fun c6 => ?_)
  · have h := h.1 c6
    refine kk_iconst (v := (-1 : Int32)) hm.1 dX10_woven_18 (by decide) ?_
    exact kk_iret hm.1 hm.2.1 dX10_woven_19 ⟨_, rfl, rfl, rfl, rfl, rfl, h⟩
  · have h := h.2 c6
    refine kk_iload_n hm.1 3 dX10_woven_9 rfl rfl ?_
    refine kk_iconst (v := (0 : Int32)) hm.1 dX10_woven_10 (by decide) ?_
    refine kk_iconst (v := (1 : Int32)) hm.1 dX10_woven_11 (by decide) ?_
    refine kk_callSi (cs' := 0) (sl' := 0) (st := []) hm.1 cs_X10_73 (t_X10_lies h) dX10_woven_12 rfl hm.2.2.1 ⟨by decide, by decide⟩ ⟨by decide, by decide⟩ rfl rfl (Nat.le_of_ble_eq_true rfl) rfl ?_
    rintro v12 _ _ _ _ _ ⟨rfl, rfl, rfl, rfl, rfl, h⟩
    refine kk_if_ne (tgt := 20) hm.1 dX10_woven_15 (by decide) (fun c15 => ?_) (fun c15 => ?_)
    · have h := h.1 c15
      refine kk_iload_n hm.1 3 dX10_woven_20 rfl rfl ?_
      refine kk_if_ne (tgt := 31) hm.1 dX10_woven_21 (by decide) (fun c21 => ?_) (fun c21 => ?_)
      · have h := h.1 c21
        refine kk_aload_n hm.1 0 dX10_woven_31 rfl rfl ?_
        refine kk_callVv (cs' := 0) (sl' := 0) (st := []) hm.1 cv_X10_283 (t_X10_looksBack h0 h) dX10_woven_32 h0 rfl rfl hm.2.2.1 ⟨by decide, by decide⟩ ⟨by decide, by decide⟩ rfl rfl (Nat.le_of_ble_eq_true rfl) rfl ?_
        rintro _ _ _ i32 _ ⟨rfl, rfl, rfl, rfl, h⟩
        exact q_X10_woven_35 hm  h0   i32 h
      · have h := h.2 c21
        refine kk_aload_n hm.1 0 dX10_woven_24 rfl rfl ?_
        refine kk_callVv (cs' := 0) (sl' := 0) (st := []) hm.1 cv_X10_280 (t_X10_looks h0 h) dX10_woven_25 h0 rfl rfl hm.2.2.1 ⟨by decide, by decide⟩ ⟨by decide, by decide⟩ rfl rfl (Nat.le_of_ble_eq_true rfl) rfl ?_
        rintro _ _ _ i25 _ ⟨rfl, rfl, rfl, rfl, h⟩
        refine kk_goto (tgt := 35) hm.1 dX10_woven_28 (by decide) ?_
        exact q_X10_woven_35 hm  h0   i25 h
    · have h := h.2 c15
      refine kk_iconst (v := (-1 : Int32)) hm.1 dX10_woven_18 (by decide) ?_
      exact kk_iret hm.1 hm.2.1 dX10_woven_19 ⟨_, rfl, rfl, rfl, rfl, rfl, h⟩
def w_X10_isOrFirst  (a0 : Nat) (x1 : Int32) (T : kw_T) (n : Nat) (r : kw_R) (i : kw_I) (w : kw_L) (Q : Int32 → Prop) : Prop :=
  (x1 = (-1 : Int32) → Q (1 : Int32)) ∧ (¬ x1 = (-1 : Int32) → w_X10_isVillage a0 x1 T n r i w (fun v7 => (v7 = 0 → Q (0 : Int32)) ∧ (¬ v7 = 0 → Q (1 : Int32))))
abbrev rm_X10_isOrFirst : Room := { frames := 3, cells := 0, slots := 0, locals := 103 }
set_option maxHeartbeats 4000000 in
set_option maxRecDepth 100000 in
theorem t_X10_isOrFirst {l : Launch} {G : kw_G} {a0 : Nat} {x1 : Int32} {T : kw_T} {n : Nat} {r : kw_R} {i : kw_I} {w : kw_L} {Q : Int32 → Prop} (h0 : T a0 = (0, 10)) (h : w_X10_isOrFirst a0 x1 T n r i w Q) : kw_Met l G yX10_isOrFirst cX10_isOrFirst 2 (some .boolean) rm_X10_isOrFirst [kw_a a0, kw_i x1] (T, n, r, i, w) (kw_PI (fun v T' n' r' i' w' => T = T' ∧ n = n' ∧ r = r' ∧ i = i' ∧ w = w' ∧ Q v)) := by
  refine kw_Met.of (by decide) (Nat.le_of_ble_eq_true rfl) fun E hl hRm hE hT hnm => ?_
  have hm : kw_m E G cX10_isOrFirst 2 RX10 (some .boolean) rm_X10_isOrFirst "isOrFirst" := ⟨hE, hT, hRm, hnm⟩
  subst hl
  show kw_K E G 2 0 0 (kw_Z E G 0 0 (kw_PI (fun v T' n' r' i' w' => T = T' ∧ n = n' ∧ r = r' ∧ i = i' ∧ w = w' ∧ Q v))) 0 [(0, kw_a a0), (1, kw_i x1)] [] T n r i w
  refine kk_iload_n hm.1 1 dX10_isOrFirst_0 rfl rfl ?_
  refine kk_iconst (v := (-1 : Int32)) hm.1 dX10_isOrFirst_1 (by decide) ?_
  refine kk_icmp_eq (tgt := 13) hm.1 dX10_isOrFirst_2 (by decide) (fun c2 => ?_) (fun c2 => ?_)
  · have h := h.1 c2
    refine kk_iconst (v := (1 : Int32)) hm.1 dX10_isOrFirst_13 (by decide) ?_
    refine kk_goto (tgt := 18) hm.1 dX10_isOrFirst_14 (by decide) ?_
    exact kk_zret hm.1 hm.2.1 dX10_isOrFirst_18 (Or.inr rfl) ⟨_, rfl, rfl, rfl, rfl, rfl, rfl, h⟩
  · have h := h.2 c2
    refine kk_aload_n hm.1 0 dX10_isOrFirst_5 rfl rfl ?_
    refine kk_iload_n hm.1 1 dX10_isOrFirst_6 rfl rfl ?_
    refine kk_callVi (cs' := 0) (sl' := 0) (st := []) hm.1 cv_X10_96 (t_X10_isVillage h0 h) dX10_isOrFirst_7 h0 rfl rfl hm.2.2.1 ⟨by decide, by decide⟩ ⟨by decide, by decide⟩ rfl rfl (Nat.le_of_ble_eq_true rfl) rfl ?_
    rintro v7 _ _ _ _ _ ⟨rfl, rfl, rfl, rfl, rfl, h⟩
    refine kk_if_eq (tgt := 17) hm.1 dX10_isOrFirst_10 (by decide) (fun c10 => ?_) (fun c10 => ?_)
    · have h := h.1 c10
      refine kk_iconst (v := (0 : Int32)) hm.1 dX10_isOrFirst_17 (by decide) ?_
      exact kk_zret hm.1 hm.2.1 dX10_isOrFirst_18 (Or.inl rfl) ⟨_, rfl, rfl, rfl, rfl, rfl, rfl, h⟩
    · have h := h.2 c10
      refine kk_iconst (v := (1 : Int32)) hm.1 dX10_isOrFirst_13 (by decide) ?_
      refine kk_goto (tgt := 18) hm.1 dX10_isOrFirst_14 (by decide) ?_
      exact kk_zret hm.1 hm.2.1 dX10_isOrFirst_18 (Or.inr rfl) ⟨_, rfl, rfl, rfl, rfl, rfl, rfl, h⟩
def w_X10_like  (a0 : Nat) (x1 : Int32) (x2 : Int32) (T : kw_T) (n : Nat) (r : kw_R) (i : kw_I) (w : kw_L) (Q : Int32 → kw_I → Prop) : Prop :=
  w_X10_isOrFirst a0 x1 T n r i w (fun v2 => (v2 = 0 → Q (-1 : Int32) i) ∧ (¬ v2 = 0 → w_X10_isOrFirst a0 x2 T n r i w (fun v10 => (¬ v10 = 0 → w_X10_looks a0 T n r i w (fun i19 => w_X10_likeness (r a0 22) ((36 : Int32) * (x1 + (1 : Int32))) (r a0 22) ((36 : Int32) * (x2 + (1 : Int32))) T n r i19 w (fun v42 => Q v42 i19))) ∧ (v10 = 0 → Q (-1 : Int32) i))))
abbrev rm_X10_like : Room := { frames := 129, cells := 0, slots := 0, locals := 6253 }
set_option maxHeartbeats 4000000 in
set_option maxRecDepth 100000 in
theorem t_X10_like {l : Launch} {G : kw_G} {a0 : Nat} {x1 : Int32} {x2 : Int32} {T : kw_T} {n : Nat} {r : kw_R} {i : kw_I} {w : kw_L} {Q : Int32 → kw_I → Prop} (h0 : T a0 = (0, 10)) (h : w_X10_like a0 x1 x2 T n r i w Q) : kw_Met l G yX10_like cX10_like 3 (some .int) rm_X10_like [kw_a a0, kw_i x1, kw_i x2] (T, n, r, i, w) (kw_PI (fun v T' n' r' i' w' => T = T' ∧ n = n' ∧ r = r' ∧ w = w' ∧ Q v i')) := by
  refine kw_Met.of (by decide) (Nat.le_of_ble_eq_true rfl) fun E hl hRm hE hT hnm => ?_
  have hm : kw_m E G cX10_like 3 RX10 (some .int) rm_X10_like "like" := ⟨hE, hT, hRm, hnm⟩
  subst hl
  show kw_K E G 3 0 0 (kw_Z E G 0 0 (kw_PI (fun v T' n' r' i' w' => T = T' ∧ n = n' ∧ r = r' ∧ w = w' ∧ Q v i'))) 0 [(0, kw_a a0), (1, kw_i x1), (2, kw_i x2)] [] T n r i w
  refine kk_aload_n hm.1 0 dX10_like_0 rfl rfl ?_
  refine kk_iload_n hm.1 1 dX10_like_1 rfl rfl ?_
  refine kk_callVi (cs' := 0) (sl' := 0) (st := []) hm.1 cv_X10_286 (t_X10_isOrFirst h0 h) dX10_like_2 h0 rfl rfl hm.2.2.1 ⟨by decide, by decide⟩ ⟨by decide, by decide⟩ rfl rfl (Nat.le_of_ble_eq_true rfl) rfl ?_
  rintro v2 _ _ _ _ _ ⟨rfl, rfl, rfl, rfl, rfl, h⟩
  refine kk_if_eq (tgt := 16) hm.1 dX10_like_5 (by decide) (fun c5 => ?_) (fun c5 => ?_)
  · have h := h.1 c5
    refine kk_iconst (v := (-1 : Int32)) hm.1 dX10_like_16 (by decide) ?_
    exact kk_iret hm.1 hm.2.1 dX10_like_17 ⟨_, rfl, rfl, rfl, rfl, rfl, h⟩
  · have h := h.2 c5
    refine kk_aload_n hm.1 0 dX10_like_8 rfl rfl ?_
    refine kk_iload_n hm.1 2 dX10_like_9 rfl rfl ?_
    refine kk_callVi (cs' := 0) (sl' := 0) (st := []) hm.1 cv_X10_286 (t_X10_isOrFirst h0 h) dX10_like_10 h0 rfl rfl hm.2.2.1 ⟨by decide, by decide⟩ ⟨by decide, by decide⟩ rfl rfl (Nat.le_of_ble_eq_true rfl) rfl ?_
    rintro v10 _ _ _ _ _ ⟨rfl, rfl, rfl, rfl, rfl, h⟩
    refine kk_if_ne (tgt := 18) hm.1 dX10_like_13 (by decide) (fun c13 => ?_) (fun c13 => ?_)
    · have h := h.1 c13
      refine kk_aload_n hm.1 0 dX10_like_18 rfl rfl ?_
      refine kk_callVv (cs' := 0) (sl' := 0) (st := []) hm.1 cv_X10_280 (t_X10_looks h0 h) dX10_like_19 h0 rfl rfl hm.2.2.1 ⟨by decide, by decide⟩ ⟨by decide, by decide⟩ rfl rfl (Nat.le_of_ble_eq_true rfl) rfl ?_
      rintro _ _ _ i19 _ ⟨rfl, rfl, rfl, rfl, h⟩
      refine kk_aload_n hm.1 0 dX10_like_22 rfl rfl ?_
      refine kk_getR hm.1 ff_X10_52 dX10_like_23 h0 ?_
      refine kk_bipush (v := (36 : Int32)) hm.1 dX10_like_26 (by decide) ?_
      refine kk_iload_n hm.1 1 dX10_like_28 rfl rfl ?_
      refine kk_iconst (v := (1 : Int32)) hm.1 dX10_like_29 (by decide) ?_
      refine kk_iadd hm.1 dX10_like_30 ?_
      refine kk_imul hm.1 dX10_like_31 ?_
      refine kk_aload_n hm.1 0 dX10_like_32 rfl rfl ?_
      refine kk_getR hm.1 ff_X10_52 dX10_like_33 h0 ?_
      refine kk_bipush (v := (36 : Int32)) hm.1 dX10_like_36 (by decide) ?_
      refine kk_iload_n hm.1 2 dX10_like_38 rfl rfl ?_
      refine kk_iconst (v := (1 : Int32)) hm.1 dX10_like_39 (by decide) ?_
      refine kk_iadd hm.1 dX10_like_40 ?_
      refine kk_imul hm.1 dX10_like_41 ?_
      refine kk_callSi (cs' := 0) (sl' := 0) (st := []) hm.1 cs_X10_289 (t_X10_likeness h) dX10_like_42 rfl hm.2.2.1 ⟨by decide, by decide⟩ ⟨by decide, by decide⟩ rfl rfl (Nat.le_of_ble_eq_true rfl) rfl ?_
      rintro v42 _ _ _ _ _ ⟨rfl, rfl, rfl, rfl, rfl, h⟩
      exact kk_iret hm.1 hm.2.1 dX10_like_45 ⟨_, rfl, rfl, rfl, rfl, rfl, h⟩
    · have h := h.2 c13
      refine kk_iconst (v := (-1 : Int32)) hm.1 dX10_like_16 (by decide) ?_
      exact kk_iret hm.1 hm.2.1 dX10_like_17 ⟨_, rfl, rfl, rfl, rfl, rfl, h⟩
def s_X10_costs_38 (a0 : Nat) (x1 : Int32) (T : kw_T) (n : Nat) (r : kw_R) (w : kw_L) (Q : Int32 → kw_I → Prop)  (k38 : Int32 → Int32 → Int32 → kw_I → Prop) (x2 : Int32) (x3 : Int32) (x4 : Int32) (i : kw_I) : Prop :=
  ((36 : Int32) ≤ x4 → Q x3 i) ∧ (¬ (36 : Int32) ≤ x4 → kw_in T 1 (r a0 22) (x2 + x4) ∧ (kw_in T 1 (r a0 2) ((168 : Int32) + (i (r a0 22) ((x2 + x4)).toNatClampNeg)) ∧ (k38 x2 ((x3 + (i (r a0 2) (((168 : Int32) + (i (r a0 22) ((x2 + x4)).toNatClampNeg))).toNatClampNeg))) ((x4 + (1 : Int32))) i)))
def w_X10_costs_38 (a0 : Nat) (x1 : Int32) (T : kw_T) (n : Nat) (r : kw_R) (w : kw_L) (Q : Int32 → kw_I → Prop)  : Nat → Int32 → Int32 → Int32 → kw_I → Prop
  | 0 => fun _ _ _ _ => False
  | N + 1 => s_X10_costs_38 a0 x1 T n r w Q  (w_X10_costs_38 a0 x1 T n r w Q  N)
def w_X10_costs_32 (a0 : Nat) (x1 : Int32) (T : kw_T) (n : Nat) (r : kw_R) (w : kw_L) (Q : Int32 → kw_I → Prop)  (s0 : Int32) (i : kw_I) : Prop :=
  ∃ N, w_X10_costs_38 a0 x1 T n r w Q  N s0 ((0 : Int32)) ((0 : Int32)) i
def w_X10_costs  (a0 : Nat) (x1 : Int32) (T : kw_T) (n : Nat) (r : kw_R) (i : kw_I) (w : kw_L) (Q : Int32 → kw_I → Prop) : Prop :=
  w_X10_isOrFirst a0 x1 T n r i w (fun v2 => (¬ v2 = 0 → w_X10_looks a0 T n r i w (fun i11 => (¬ x1 = (-1 : Int32) → w_X10_costs_32 a0 x1 T n r w Q  (((36 : Int32) * (x1 + (1 : Int32)))) i11) ∧ (x1 = (-1 : Int32) → w_X10_endOf a0 T n r i11 w (fun v20 => w_X10_costs_32 a0 x1 T n r w Q  v20 i11)))) ∧ (v2 = 0 → Q (-1 : Int32) i))
abbrev rm_X10_costs : Room := { frames := 129, cells := 0, slots := 0, locals := 6253 }
set_option maxHeartbeats 4000000 in
set_option maxRecDepth 100000 in
theorem qs_X10_costs_38 {a0 : Nat} {x1 : Int32} {T : kw_T} {n : Nat} {r : kw_R} {w : kw_L} {Q : Int32 → kw_I → Prop} {E : kw_E} {G : kw_G} (hm : kw_m E G cX10_costs 5 RX10 (some .int) rm_X10_costs "costs")  (h0 : T a0 = (0, 10))    {k38 : Int32 → Int32 → Int32 → kw_I → Prop} (hk38 : ∀ (x2 : Int32) (x3 : Int32) (x4 : Int32) (i : kw_I), k38 x2 x3 x4 i → kw_K E G 5 0 0 (kw_Z E G 0 0 (kw_PI (fun v T' n' r' i' w' => T = T' ∧ n = n' ∧ r = r' ∧ w = w' ∧ Q v i'))) 38 [(0, kw_a a0), (1, kw_i x1), (2, kw_i x2), (3, kw_i x3), (4, kw_i x4)] [] T n r i w) (x2 : Int32) (x3 : Int32) (x4 : Int32) (i : kw_I) (h : s_X10_costs_38 a0 x1 T n r w Q  k38 x2 x3 x4 i) : kw_K E G 5 0 0 (kw_Z E G 0 0 (kw_PI (fun v T' n' r' i' w' => T = T' ∧ n = n' ∧ r = r' ∧ w = w' ∧ Q v i'))) 38 [(0, kw_a a0), (1, kw_i x1), (2, kw_i x2), (3, kw_i x3), (4, kw_i x4)] [] T n r i w := by
  refine kk_iload hm.1 4 dX10_costs_38 rfl ?_
  refine kk_bipush (v := (36 : Int32)) hm.1 dX10_costs_40 (by decide) ?_
  refine kk_icmp_ge (tgt := 72) hm.1 dX10_costs_42 (by decide) (fun c42 => ?_) (fun c42 => ?_)
  · have h := h.1 c42
    refine kk_iload_n hm.1 3 dX10_costs_72 rfl rfl ?_
    exact kk_iret hm.1 hm.2.1 dX10_costs_73 ⟨_, rfl, rfl, rfl, rfl, rfl, h⟩
  · have h := h.2 c42
    refine kk_iload_n hm.1 3 dX10_costs_45 rfl rfl ?_
    refine kk_aload_n hm.1 0 dX10_costs_46 rfl rfl ?_
    refine kk_getR hm.1 ff_X10_17 dX10_costs_47 h0 ?_
    refine kk_sipush (v := (168 : Int32)) hm.1 dX10_costs_50 (by decide) ?_
    refine kk_aload_n hm.1 0 dX10_costs_53 rfl rfl ?_
    refine kk_getR hm.1 ff_X10_52 dX10_costs_54 h0 ?_
    refine kk_iload_n hm.1 2 dX10_costs_57 rfl rfl ?_
    refine kk_iload hm.1 4 dX10_costs_58 rfl ?_
    refine kk_iadd hm.1 dX10_costs_60 ?_
    obtain ⟨o61, h⟩ := h
    refine kk_iaload hm.1 dX10_costs_61 o61 ?_
    refine kk_iadd hm.1 dX10_costs_62 ?_
    obtain ⟨o63, h⟩ := h
    refine kk_iaload hm.1 dX10_costs_63 o63 ?_
    refine kk_iadd hm.1 dX10_costs_64 ?_
    refine kk_istore_n (L' := [(3, kw_i (x3 + (i (r a0 2) (((168 : Int32) + (i (r a0 22) ((x2 + x4)).toNatClampNeg))).toNatClampNeg))), (0, kw_a a0), (1, kw_i x1), (2, kw_i x2), (4, kw_i x4)]) hm.1 dX10_costs_65 rfl (by decide) rfl ?_
    refine kk_iinc (v := (x4 + (1 : Int32))) (L' := [(4, kw_i (x4 + (1 : Int32))), (3, kw_i (x3 + (i (r a0 2) (((168 : Int32) + (i (r a0 22) ((x2 + x4)).toNatClampNeg))).toNatClampNeg))), (0, kw_a a0), (1, kw_i x1), (2, kw_i x2)]) hm.1 4 dX10_costs_66 rfl rfl (by decide) rfl ?_
    refine kk_goto (tgt := 38) hm.1 dX10_costs_69 (by decide) ?_
    refine kk_loc (L' := [(0, kw_a a0), (1, kw_i x1), (2, kw_i x2), (3, kw_i (x3 + (i (r a0 2) (((168 : Int32) + (i (r a0 22) ((x2 + x4)).toNatClampNeg))).toNatClampNeg))), (4, kw_i (x4 + (1 : Int32)))]) [2, 3, 4, 1, 0] rfl ?_
    exact hk38 x2 ((x3 + (i (r a0 2) (((168 : Int32) + (i (r a0 22) ((x2 + x4)).toNatClampNeg))).toNatClampNeg))) ((x4 + (1 : Int32))) i h
set_option maxHeartbeats 4000000 in
set_option maxRecDepth 100000 in
theorem q_X10_costs_38 {a0 : Nat} {x1 : Int32} {T : kw_T} {n : Nat} {r : kw_R} {w : kw_L} {Q : Int32 → kw_I → Prop} {E : kw_E} {G : kw_G} (hm : kw_m E G cX10_costs 5 RX10 (some .int) rm_X10_costs "costs")  (h0 : T a0 = (0, 10))    : ∀ (N : Nat) (x2 : Int32) (x3 : Int32) (x4 : Int32) (i : kw_I), w_X10_costs_38 a0 x1 T n r w Q  N x2 x3 x4 i → kw_K E G 5 0 0 (kw_Z E G 0 0 (kw_PI (fun v T' n' r' i' w' => T = T' ∧ n = n' ∧ r = r' ∧ w = w' ∧ Q v i'))) 38 [(0, kw_a a0), (1, kw_i x1), (2, kw_i x2), (3, kw_i x3), (4, kw_i x4)] [] T n r i w := by
  intro N
  induction N with
  | zero => intro x2 x3 x4 i h; exact h.elim
  | succ N ih => intro x2 x3 x4 i h; exact qs_X10_costs_38 hm  h0  ih x2 x3 x4 i h
set_option maxHeartbeats 4000000 in
set_option maxRecDepth 100000 in
theorem q_X10_costs_32 {a0 : Nat} {x1 : Int32} {T : kw_T} {n : Nat} {r : kw_R} {w : kw_L} {Q : Int32 → kw_I → Prop} {E : kw_E} {G : kw_G} (hm : kw_m E G cX10_costs 5 RX10 (some .int) rm_X10_costs "costs")  (h0 : T a0 = (0, 10))    (s0 : Int32) (i : kw_I) (h : w_X10_costs_32 a0 x1 T n r w Q  s0 i) : kw_K E G 5 0 0 (kw_Z E G 0 0 (kw_PI (fun v T' n' r' i' w' => T = T' ∧ n = n' ∧ r = r' ∧ w = w' ∧ Q v i'))) 32 [(0, kw_a a0), (1, kw_i x1)] [kw_i s0] T n r i w := by
  refine kk_istore_n (L' := [(2, kw_i s0), (0, kw_a a0), (1, kw_i x1)]) hm.1 dX10_costs_32 rfl (by decide) rfl ?_
  refine kk_iconst (v := (0 : Int32)) hm.1 dX10_costs_33 (by decide) ?_
  refine kk_istore_n (L' := [(3, kw_i (0 : Int32)), (2, kw_i s0), (0, kw_a a0), (1, kw_i x1)]) hm.1 dX10_costs_34 rfl (by decide) rfl ?_
  refine kk_iconst (v := (0 : Int32)) hm.1 dX10_costs_35 (by decide) ?_
  refine kk_istore (L' := [(4, kw_i (0 : Int32)), (3, kw_i (0 : Int32)), (2, kw_i s0), (0, kw_a a0), (1, kw_i x1)]) hm.1 dX10_costs_36 (by decide) rfl ?_
  refine kk_loc (L' := [(0, kw_a a0), (1, kw_i x1), (2, kw_i s0), (3, kw_i (0 : Int32)), (4, kw_i (0 : Int32))]) [3, 4, 2, 1, 0] rfl ?_
  obtain ⟨N, h⟩ := h
  exact q_X10_costs_38 hm  h0   N s0 ((0 : Int32)) ((0 : Int32)) i h
set_option maxHeartbeats 4000000 in
set_option maxRecDepth 100000 in
theorem t_X10_costs {l : Launch} {G : kw_G} {a0 : Nat} {x1 : Int32} {T : kw_T} {n : Nat} {r : kw_R} {i : kw_I} {w : kw_L} {Q : Int32 → kw_I → Prop} (h0 : T a0 = (0, 10)) (h : w_X10_costs a0 x1 T n r i w Q) : kw_Met l G yX10_costs cX10_costs 5 (some .int) rm_X10_costs [kw_a a0, kw_i x1] (T, n, r, i, w) (kw_PI (fun v T' n' r' i' w' => T = T' ∧ n = n' ∧ r = r' ∧ w = w' ∧ Q v i')) := by
  refine kw_Met.of (by decide) (Nat.le_of_ble_eq_true rfl) fun E hl hRm hE hT hnm => ?_
  have hm : kw_m E G cX10_costs 5 RX10 (some .int) rm_X10_costs "costs" := ⟨hE, hT, hRm, hnm⟩
  subst hl
  show kw_K E G 5 0 0 (kw_Z E G 0 0 (kw_PI (fun v T' n' r' i' w' => T = T' ∧ n = n' ∧ r = r' ∧ w = w' ∧ Q v i'))) 0 [(0, kw_a a0), (1, kw_i x1)] [] T n r i w
  refine kk_aload_n hm.1 0 dX10_costs_0 rfl rfl ?_
  refine kk_iload_n hm.1 1 dX10_costs_1 rfl rfl ?_
  refine kk_callVi (cs' := 0) (sl' := 0) (st := []) hm.1 cv_X10_286 (t_X10_isOrFirst h0 h) dX10_costs_2 h0 rfl rfl hm.2.2.1 ⟨by decide, by decide⟩ ⟨by decide, by decide⟩ rfl rfl (Nat.le_of_ble_eq_true rfl) rfl ?_
  rintro v2 _ _ _ _ _ ⟨rfl, rfl, rfl, rfl, rfl, h⟩
  refine kk_if_ne (tgt := 10) hm.1 dX10_costs_5 (by decide) (fun c5 => ?_) (fun c5 => ?_)
  · have h := h.1 c5
    refine kk_aload_n hm.1 0 dX10_costs_10 rfl rfl ?_
    refine kk_callVv (cs' := 0) (sl' := 0) (st := []) hm.1 cv_X10_280 (t_X10_looks h0 h) dX10_costs_11 h0 rfl rfl hm.2.2.1 ⟨by decide, by decide⟩ ⟨by decide, by decide⟩ rfl rfl (Nat.le_of_ble_eq_true rfl) rfl ?_
    rintro _ _ _ i11 _ ⟨rfl, rfl, rfl, rfl, h⟩
    refine kk_iload_n hm.1 1 dX10_costs_14 rfl rfl ?_
    refine kk_iconst (v := (-1 : Int32)) hm.1 dX10_costs_15 (by decide) ?_
    refine kk_icmp_ne (tgt := 26) hm.1 dX10_costs_16 (by decide) (fun c16 => ?_) (fun c16 => ?_)
    · have h := h.1 c16
      refine kk_bipush (v := (36 : Int32)) hm.1 dX10_costs_26 (by decide) ?_
      refine kk_iload_n hm.1 1 dX10_costs_28 rfl rfl ?_
      refine kk_iconst (v := (1 : Int32)) hm.1 dX10_costs_29 (by decide) ?_
      refine kk_iadd hm.1 dX10_costs_30 ?_
      refine kk_imul hm.1 dX10_costs_31 ?_
      exact q_X10_costs_32 hm  h0   (((36 : Int32) * (x1 + (1 : Int32)))) i11 h
    · have h := h.2 c16
      refine kk_aload_n hm.1 0 dX10_costs_19 rfl rfl ?_
      refine kk_callVi (cs' := 0) (sl' := 0) (st := []) hm.1 cv_X10_293 (t_X10_endOf h0 h) dX10_costs_20 h0 rfl rfl hm.2.2.1 ⟨by decide, by decide⟩ ⟨by decide, by decide⟩ rfl rfl (Nat.le_of_ble_eq_true rfl) rfl ?_
      rintro v20 _ _ _ _ _ ⟨rfl, rfl, rfl, rfl, rfl, h⟩
      refine kk_goto (tgt := 32) hm.1 dX10_costs_23 (by decide) ?_
      exact q_X10_costs_32 hm  h0   v20 i11 h
  · have h := h.2 c5
    refine kk_iconst (v := (-1 : Int32)) hm.1 dX10_costs_8 (by decide) ?_
    exact kk_iret hm.1 hm.2.1 dX10_costs_9 ⟨_, rfl, rfl, rfl, rfl, rfl, h⟩
def w_X10_turned_87 (a0 : Nat) (x1 : Int32) (T : kw_T) (n : Nat) (r : kw_R) (w : kw_L) (Q : Int32 → kw_I → Prop) (k22 : Int32 → Int32 → Int32 → kw_I → Prop) (x2 : Int32) (x3 : Int32) (x4 : Int32) (i : kw_I) : Prop :=
  k22 x2 x3 ((x4 + (1 : Int32))) i
def s_X10_turned_22 (a0 : Nat) (x1 : Int32) (T : kw_T) (n : Nat) (r : kw_R) (w : kw_L) (Q : Int32 → kw_I → Prop)  (k22 : Int32 → Int32 → Int32 → kw_I → Prop) (x2 : Int32) (x3 : Int32) (x4 : Int32) (i : kw_I) : Prop :=
  w_X10_villages a0 T n r i w (fun v25 => (v25 ≤ x4 → (x2 = (-1 : Int32) → Q x2 i) ∧ (¬ x2 = (-1 : Int32) → (¬ x1 = 0 → Q x3 i) ∧ (x1 = 0 → Q x2 i))) ∧ (¬ v25 ≤ x4 → w_X10_likeness (r a0 22) ((36 : Int32) * x4) (r a0 2) (60 : Int32) T n r i w (fun v46 => w_X10_likeness (r a0 22) ((36 : Int32) * (x4 + (1 : Int32))) (r a0 2) (60 : Int32) T n r i w (fun v66 => (x3 < (v46 - v66) → w_X10_turned_87 a0 x1 T n r w Q k22 x4 ((v46 - v66)) x4 i) ∧ (¬ x3 < (v46 - v66) → w_X10_turned_87 a0 x1 T n r w Q k22 x2 x3 x4 i)))))
def w_X10_turned_22 (a0 : Nat) (x1 : Int32) (T : kw_T) (n : Nat) (r : kw_R) (w : kw_L) (Q : Int32 → kw_I → Prop)  : Nat → Int32 → Int32 → Int32 → kw_I → Prop
  | 0 => fun _ _ _ _ => False
  | N + 1 => s_X10_turned_22 a0 x1 T n r w Q  (w_X10_turned_22 a0 x1 T n r w Q  N)
def w_X10_turned  (a0 : Nat) (x1 : Int32) (T : kw_T) (n : Nat) (r : kw_R) (i : kw_I) (w : kw_L) (Q : Int32 → kw_I → Prop) : Prop :=
  w_X10_lies x1 (0 : Int32) (1 : Int32) T n r i w (fun v3 => (¬ v3 = 0 → w_X10_looks a0 T n r i w (fun i12 => ∃ N, w_X10_turned_22 a0 x1 T n r w Q  N ((-1 : Int32)) ((0 : Int32)) ((0 : Int32)) i12)) ∧ (v3 = 0 → Q (-1 : Int32) i))
abbrev rm_X10_turned : Room := { frames := 129, cells := 0, slots := 0, locals := 6253 }
set_option maxHeartbeats 4000000 in
set_option maxRecDepth 100000 in
theorem q_X10_turned_87 {a0 : Nat} {x1 : Int32} {T : kw_T} {n : Nat} {r : kw_R} {w : kw_L} {Q : Int32 → kw_I → Prop} {E : kw_E} {G : kw_G} (hm : kw_m E G cX10_turned 6 RX10 (some .int) rm_X10_turned "turned")  (h0 : T a0 = (0, 10))  {k22 : Int32 → Int32 → Int32 → kw_I → Prop} (hk22 : ∀ (x2 : Int32) (x3 : Int32) (x4 : Int32) (i : kw_I), k22 x2 x3 x4 i → kw_K E G 6 0 0 (kw_Z E G 0 0 (kw_PI (fun v T' n' r' i' w' => T = T' ∧ n = n' ∧ r = r' ∧ w = w' ∧ Q v i'))) 22 [(0, kw_a a0), (1, kw_i x1), (2, kw_i x2), (3, kw_i x3), (4, kw_i x4)] [] T n r i w) (x2 : Int32) (x3 : Int32) (x4 : Int32) (i : kw_I) (h : w_X10_turned_87 a0 x1 T n r w Q k22 x2 x3 x4 i) : kw_K E G 6 0 0 (kw_Z E G 0 0 (kw_PI (fun v T' n' r' i' w' => T = T' ∧ n = n' ∧ r = r' ∧ w = w' ∧ Q v i'))) 87 [(0, kw_a a0), (1, kw_i x1), (2, kw_i x2), (3, kw_i x3), (4, kw_i x4)] [] T n r i w := by
  refine kk_iinc (v := (x4 + (1 : Int32))) (L' := [(4, kw_i (x4 + (1 : Int32))), (0, kw_a a0), (1, kw_i x1), (2, kw_i x2), (3, kw_i x3)]) hm.1 4 dX10_turned_87 rfl rfl (by decide) rfl ?_
  refine kk_goto (tgt := 22) hm.1 dX10_turned_90 (by decide) ?_
  refine kk_loc (L' := [(0, kw_a a0), (1, kw_i x1), (2, kw_i x2), (3, kw_i x3), (4, kw_i (x4 + (1 : Int32)))]) [1, 2, 3, 4, 0] rfl ?_
  exact hk22 x2 x3 ((x4 + (1 : Int32))) i h
set_option maxHeartbeats 4000000 in
set_option maxRecDepth 100000 in
theorem qs_X10_turned_22 {a0 : Nat} {x1 : Int32} {T : kw_T} {n : Nat} {r : kw_R} {w : kw_L} {Q : Int32 → kw_I → Prop} {E : kw_E} {G : kw_G} (hm : kw_m E G cX10_turned 6 RX10 (some .int) rm_X10_turned "turned")  (h0 : T a0 = (0, 10))    {k22 : Int32 → Int32 → Int32 → kw_I → Prop} (hk22 : ∀ (x2 : Int32) (x3 : Int32) (x4 : Int32) (i : kw_I), k22 x2 x3 x4 i → kw_K E G 6 0 0 (kw_Z E G 0 0 (kw_PI (fun v T' n' r' i' w' => T = T' ∧ n = n' ∧ r = r' ∧ w = w' ∧ Q v i'))) 22 [(0, kw_a a0), (1, kw_i x1), (2, kw_i x2), (3, kw_i x3), (4, kw_i x4)] [] T n r i w) (x2 : Int32) (x3 : Int32) (x4 : Int32) (i : kw_I) (h : s_X10_turned_22 a0 x1 T n r w Q  k22 x2 x3 x4 i) : kw_K E G 6 0 0 (kw_Z E G 0 0 (kw_PI (fun v T' n' r' i' w' => T = T' ∧ n = n' ∧ r = r' ∧ w = w' ∧ Q v i'))) 22 [(0, kw_a a0), (1, kw_i x1), (2, kw_i x2), (3, kw_i x3), (4, kw_i x4)] [] T n r i w := by
  refine kk_iload hm.1 4 dX10_turned_22 rfl ?_
  refine kk_aload_n hm.1 0 dX10_turned_24 rfl rfl ?_
  refine kk_callVi (cs' := 0) (sl' := 0) (st := [kw_i x4]) hm.1 cv_X10_84 (t_X10_villages h0 h) dX10_turned_25 h0 rfl rfl hm.2.2.1 ⟨by decide, by decide⟩ ⟨by decide, by decide⟩ rfl rfl (Nat.le_of_ble_eq_true rfl) rfl ?_
  rintro v25 _ _ _ _ _ ⟨rfl, rfl, rfl, rfl, rfl, h⟩
  refine kk_icmp_ge (tgt := 93) hm.1 dX10_turned_28 (by decide) (fun c28 => ?_) (fun c28 => ?_)
  · have h := h.1 c28
    refine kk_iload_n hm.1 2 dX10_turned_93 rfl rfl ?_
    refine kk_iconst (v := (-1 : Int32)) hm.1 dX10_turned_94 (by decide) ?_
    refine kk_icmp_eq (tgt := 102) hm.1 dX10_turned_95 (by decide) (fun c95 => ?_) (fun c95 => ?_)
    · have h := h.1 c95
      refine kk_iload_n hm.1 2 dX10_turned_102 rfl rfl ?_
      refine kk_goto (tgt := 107) hm.1 dX10_turned_103 (by decide) ?_
      exact kk_iret hm.1 hm.2.1 dX10_turned_107 ⟨_, rfl, rfl, rfl, rfl, rfl, h⟩
    · have h := h.2 c95
      refine kk_iload_n hm.1 1 dX10_turned_98 rfl rfl ?_
      refine kk_if_ne (tgt := 106) hm.1 dX10_turned_99 (by decide) (fun c99 => ?_) (fun c99 => ?_)
      · have h := h.1 c99
        refine kk_iload_n hm.1 3 dX10_turned_106 rfl rfl ?_
        exact kk_iret hm.1 hm.2.1 dX10_turned_107 ⟨_, rfl, rfl, rfl, rfl, rfl, h⟩
      · have h := h.2 c99
        refine kk_iload_n hm.1 2 dX10_turned_102 rfl rfl ?_
        refine kk_goto (tgt := 107) hm.1 dX10_turned_103 (by decide) ?_
        exact kk_iret hm.1 hm.2.1 dX10_turned_107 ⟨_, rfl, rfl, rfl, rfl, rfl, h⟩
  · have h := h.2 c28
    refine kk_aload_n hm.1 0 dX10_turned_31 rfl rfl ?_
    refine kk_getR hm.1 ff_X10_52 dX10_turned_32 h0 ?_
    refine kk_bipush (v := (36 : Int32)) hm.1 dX10_turned_35 (by decide) ?_
    refine kk_iload hm.1 4 dX10_turned_37 rfl ?_
    refine kk_imul hm.1 dX10_turned_39 ?_
    refine kk_aload_n hm.1 0 dX10_turned_40 rfl rfl ?_
    refine kk_getR hm.1 ff_X10_17 dX10_turned_41 h0 ?_
    refine kk_bipush (v := (60 : Int32)) hm.1 dX10_turned_44 (by decide) ?_
    refine kk_callSi (cs' := 0) (sl' := 0) (st := []) hm.1 cs_X10_289 (t_X10_likeness h) dX10_turned_46 rfl hm.2.2.1 ⟨by decide, by decide⟩ ⟨by decide, by decide⟩ rfl rfl (Nat.le_of_ble_eq_true rfl) rfl ?_
    rintro v46 _ _ _ _ _ ⟨rfl, rfl, rfl, rfl, rfl, h⟩
    refine kk_aload_n hm.1 0 dX10_turned_49 rfl rfl ?_
    refine kk_getR hm.1 ff_X10_52 dX10_turned_50 h0 ?_
    refine kk_bipush (v := (36 : Int32)) hm.1 dX10_turned_53 (by decide) ?_
    refine kk_iload hm.1 4 dX10_turned_55 rfl ?_
    refine kk_iconst (v := (1 : Int32)) hm.1 dX10_turned_57 (by decide) ?_
    refine kk_iadd hm.1 dX10_turned_58 ?_
    refine kk_imul hm.1 dX10_turned_59 ?_
    refine kk_aload_n hm.1 0 dX10_turned_60 rfl rfl ?_
    refine kk_getR hm.1 ff_X10_17 dX10_turned_61 h0 ?_
    refine kk_bipush (v := (60 : Int32)) hm.1 dX10_turned_64 (by decide) ?_
    refine kk_callSi (cs' := 0) (sl' := 0) (st := [kw_i v46]) hm.1 cs_X10_289 (t_X10_likeness h) dX10_turned_66 rfl hm.2.2.1 ⟨by decide, by decide⟩ ⟨by decide, by decide⟩ rfl rfl (Nat.le_of_ble_eq_true rfl) rfl ?_
    rintro v66 _ _ _ _ _ ⟨rfl, rfl, rfl, rfl, rfl, h⟩
    refine kk_isub hm.1 dX10_turned_69 ?_
    refine kk_istore (L' := [(5, kw_i (v46 - v66)), (0, kw_a a0), (1, kw_i x1), (2, kw_i x2), (3, kw_i x3), (4, kw_i x4)]) hm.1 dX10_turned_70 (by decide) rfl ?_
    refine kk_iload hm.1 0 dX10_turned_72 rfl ?_
    refine kk_iload_n hm.1 4 dX10_turned_74 rfl rfl ?_
    refine kk_icmp_gt (tgt := 81) hm.1 dX10_turned_75 (by decide) (fun c75 => ?_) (fun c75 => ?_)
    · have h := h.1 c75
      refine kk_iload hm.1 0 dX10_turned_81 rfl ?_
      refine kk_istore_n (L' := [(3, kw_i (v46 - v66)), (5, kw_i (v46 - v66)), (0, kw_a a0), (1, kw_i x1), (2, kw_i x2), (4, kw_i x4)]) hm.1 dX10_turned_83 rfl (by decide) rfl ?_
      refine kk_iload hm.1 5 dX10_turned_84 rfl ?_
      refine kk_istore_n (L' := [(2, kw_i x4), (3, kw_i (v46 - v66)), (5, kw_i (v46 - v66)), (0, kw_a a0), (1, kw_i x1), (4, kw_i x4)]) hm.1 dX10_turned_86 rfl (by decide) rfl ?_
      refine kk_loc (L' := [(0, kw_a a0), (1, kw_i x1), (2, kw_i x4), (3, kw_i (v46 - v66)), (4, kw_i x4)]) [3, 4, 0, 1, 5] rfl ?_
      exact q_X10_turned_87 hm  h0  hk22 x4 ((v46 - v66)) x4 i h
    · have h := h.2 c75
      refine kk_goto (tgt := 87) hm.1 dX10_turned_78 (by decide) ?_
      refine kk_loc (L' := [(0, kw_a a0), (1, kw_i x1), (2, kw_i x2), (3, kw_i x3), (4, kw_i x4)]) [1, 2, 3, 4, 5] rfl ?_
      exact q_X10_turned_87 hm  h0  hk22 x2 x3 x4 i h
set_option maxHeartbeats 4000000 in
set_option maxRecDepth 100000 in
theorem q_X10_turned_22 {a0 : Nat} {x1 : Int32} {T : kw_T} {n : Nat} {r : kw_R} {w : kw_L} {Q : Int32 → kw_I → Prop} {E : kw_E} {G : kw_G} (hm : kw_m E G cX10_turned 6 RX10 (some .int) rm_X10_turned "turned")  (h0 : T a0 = (0, 10))    : ∀ (N : Nat) (x2 : Int32) (x3 : Int32) (x4 : Int32) (i : kw_I), w_X10_turned_22 a0 x1 T n r w Q  N x2 x3 x4 i → kw_K E G 6 0 0 (kw_Z E G 0 0 (kw_PI (fun v T' n' r' i' w' => T = T' ∧ n = n' ∧ r = r' ∧ w = w' ∧ Q v i'))) 22 [(0, kw_a a0), (1, kw_i x1), (2, kw_i x2), (3, kw_i x3), (4, kw_i x4)] [] T n r i w := by
  intro N
  induction N with
  | zero => intro x2 x3 x4 i h; exact h.elim
  | succ N ih => intro x2 x3 x4 i h; exact qs_X10_turned_22 hm  h0  ih x2 x3 x4 i h
set_option maxHeartbeats 4000000 in
set_option maxRecDepth 100000 in
theorem t_X10_turned {l : Launch} {G : kw_G} {a0 : Nat} {x1 : Int32} {T : kw_T} {n : Nat} {r : kw_R} {i : kw_I} {w : kw_L} {Q : Int32 → kw_I → Prop} (h0 : T a0 = (0, 10)) (h : w_X10_turned a0 x1 T n r i w Q) : kw_Met l G yX10_turned cX10_turned 6 (some .int) rm_X10_turned [kw_a a0, kw_i x1] (T, n, r, i, w) (kw_PI (fun v T' n' r' i' w' => T = T' ∧ n = n' ∧ r = r' ∧ w = w' ∧ Q v i')) := by
  refine kw_Met.of (by decide) (Nat.le_of_ble_eq_true rfl) fun E hl hRm hE hT hnm => ?_
  have hm : kw_m E G cX10_turned 6 RX10 (some .int) rm_X10_turned "turned" := ⟨hE, hT, hRm, hnm⟩
  subst hl
  show kw_K E G 6 0 0 (kw_Z E G 0 0 (kw_PI (fun v T' n' r' i' w' => T = T' ∧ n = n' ∧ r = r' ∧ w = w' ∧ Q v i'))) 0 [(0, kw_a a0), (1, kw_i x1)] [] T n r i w
  refine kk_iload_n hm.1 1 dX10_turned_0 rfl rfl ?_
  refine kk_iconst (v := (0 : Int32)) hm.1 dX10_turned_1 (by decide) ?_
  refine kk_iconst (v := (1 : Int32)) hm.1 dX10_turned_2 (by decide) ?_
  refine kk_callSi (cs' := 0) (sl' := 0) (st := []) hm.1 cs_X10_73 (t_X10_lies h) dX10_turned_3 rfl hm.2.2.1 ⟨by decide, by decide⟩ ⟨by decide, by decide⟩ rfl rfl (Nat.le_of_ble_eq_true rfl) rfl ?_
  rintro v3 _ _ _ _ _ ⟨rfl, rfl, rfl, rfl, rfl, h⟩
  refine kk_if_ne (tgt := 11) hm.1 dX10_turned_6 (by decide) (fun c6 => ?_) (fun c6 => ?_)
  · have h := h.1 c6
    refine kk_aload_n hm.1 0 dX10_turned_11 rfl rfl ?_
    refine kk_callVv (cs' := 0) (sl' := 0) (st := []) hm.1 cv_X10_280 (t_X10_looks h0 h) dX10_turned_12 h0 rfl rfl hm.2.2.1 ⟨by decide, by decide⟩ ⟨by decide, by decide⟩ rfl rfl (Nat.le_of_ble_eq_true rfl) rfl ?_
    rintro _ _ _ i12 _ ⟨rfl, rfl, rfl, rfl, h⟩
    refine kk_iconst (v := (-1 : Int32)) hm.1 dX10_turned_15 (by decide) ?_
    refine kk_istore_n (L' := [(2, kw_i (-1 : Int32)), (0, kw_a a0), (1, kw_i x1)]) hm.1 dX10_turned_16 rfl (by decide) rfl ?_
    refine kk_iconst (v := (0 : Int32)) hm.1 dX10_turned_17 (by decide) ?_
    refine kk_istore_n (L' := [(3, kw_i (0 : Int32)), (2, kw_i (-1 : Int32)), (0, kw_a a0), (1, kw_i x1)]) hm.1 dX10_turned_18 rfl (by decide) rfl ?_
    refine kk_iconst (v := (0 : Int32)) hm.1 dX10_turned_19 (by decide) ?_
    refine kk_istore (L' := [(4, kw_i (0 : Int32)), (3, kw_i (0 : Int32)), (2, kw_i (-1 : Int32)), (0, kw_a a0), (1, kw_i x1)]) hm.1 dX10_turned_20 (by decide) rfl ?_
    refine kk_loc (L' := [(0, kw_a a0), (1, kw_i x1), (2, kw_i (-1 : Int32)), (3, kw_i (0 : Int32)), (4, kw_i (0 : Int32))]) [3, 4, 2, 1, 0] rfl ?_
    obtain ⟨N, h⟩ := h
    exact q_X10_turned_22 hm  h0   N ((-1 : Int32)) ((0 : Int32)) ((0 : Int32)) i12 h
  · have h := h.2 c6
    refine kk_iconst (v := (-1 : Int32)) hm.1 dX10_turned_9 (by decide) ?_
    exact kk_iret hm.1 hm.2.1 dX10_turned_10 ⟨_, rfl, rfl, rfl, rfl, rfl, h⟩
def w_X10_tries_31 (a0 : Nat) (x1 : Int32) (x2 : Int32) (T : kw_T) (n : Nat) (r : kw_R) (w : kw_L) (Q : kw_I → Prop) (k2 : Int32 → kw_I → Prop) (x3 : Int32) (s0 : Nat) (s1 : Int32) (s2 : Int32) (i : kw_I) : Prop :=
  kw_in T 1 s0 s1 ∧ (∀ i31 : kw_I, i31 = kw_st i s0 (s1).toNatClampNeg s2 → (k2 ((x3 + (1 : Int32))) i31))
def s_X10_tries_2 (a0 : Nat) (x1 : Int32) (x2 : Int32) (T : kw_T) (n : Nat) (r : kw_R) (w : kw_L) (Q : kw_I → Prop)  (k2 : Int32 → kw_I → Prop) (x3 : Int32) (i : kw_I) : Prop :=
  ((36 : Int32) ≤ x3 → w_X10_goes a0 (r a0 24) (0 : Int32) T n r i w (fun i44 => Q i44)) ∧ (¬ (36 : Int32) ≤ x3 → (¬ x3 = x1 → kw_in T 1 (r a0 2) ((60 : Int32) + x3) ∧ (w_X10_tries_31 a0 x1 x2 T n r w Q k2 x3 ((r a0 24)) x3 ((i (r a0 2) (((60 : Int32) + x3)).toNatClampNeg)) i)) ∧ (x3 = x1 → w_X10_tries_31 a0 x1 x2 T n r w Q k2 x3 ((r a0 24)) x3 x2 i))
def w_X10_tries_2 (a0 : Nat) (x1 : Int32) (x2 : Int32) (T : kw_T) (n : Nat) (r : kw_R) (w : kw_L) (Q : kw_I → Prop)  : Nat → Int32 → kw_I → Prop
  | 0 => fun _ _ => False
  | N + 1 => s_X10_tries_2 a0 x1 x2 T n r w Q  (w_X10_tries_2 a0 x1 x2 T n r w Q  N)
def w_X10_tries  (a0 : Nat) (x1 : Int32) (x2 : Int32) (T : kw_T) (n : Nat) (r : kw_R) (i : kw_I) (w : kw_L) (Q : kw_I → Prop) : Prop :=
  ∃ N, w_X10_tries_2 a0 x1 x2 T n r w Q  N ((0 : Int32)) i
abbrev rm_X10_tries : Room := { frames := 128, cells := 0, slots := 0, locals := 6232 }
set_option maxHeartbeats 4000000 in
set_option maxRecDepth 100000 in
theorem q_X10_tries_31 {a0 : Nat} {x1 : Int32} {x2 : Int32} {T : kw_T} {n : Nat} {r : kw_R} {w : kw_L} {Q : kw_I → Prop} {E : kw_E} {G : kw_G} (hm : kw_m E G cX10_tries 4 RX10 none rm_X10_tries "tries")  (h0 : T a0 = (0, 10))  {k2 : Int32 → kw_I → Prop} (hk2 : ∀ (x3 : Int32) (i : kw_I), k2 x3 i → kw_K E G 4 0 0 (kw_Z E G 0 0 (kw_PV (fun T' n' r' i' w' => T = T' ∧ n = n' ∧ r = r' ∧ w = w' ∧ Q i'))) 2 [(0, kw_a a0), (1, kw_i x1), (2, kw_i x2), (3, kw_i x3)] [] T n r i w) (x3 : Int32) (s0 : Nat) (s1 : Int32) (s2 : Int32) (i : kw_I) (h : w_X10_tries_31 a0 x1 x2 T n r w Q k2 x3 s0 s1 s2 i) : kw_K E G 4 0 0 (kw_Z E G 0 0 (kw_PV (fun T' n' r' i' w' => T = T' ∧ n = n' ∧ r = r' ∧ w = w' ∧ Q i'))) 31 [(0, kw_a a0), (1, kw_i x1), (2, kw_i x2), (3, kw_i x3)] [kw_i s2, kw_i s1, kw_a s0] T n r i w := by
  obtain ⟨o31, h⟩ := h
  refine kn_iastore hm.1 dX10_tries_31 o31 (fun i31 e31 => ?_)
  have h := h i31 e31
  refine kk_iinc (v := (x3 + (1 : Int32))) (L' := [(3, kw_i (x3 + (1 : Int32))), (0, kw_a a0), (1, kw_i x1), (2, kw_i x2)]) hm.1 3 dX10_tries_32 rfl rfl (by decide) rfl ?_
  refine kk_goto (tgt := 2) hm.1 dX10_tries_35 (by decide) ?_
  refine kk_loc (L' := [(0, kw_a a0), (1, kw_i x1), (2, kw_i x2), (3, kw_i (x3 + (1 : Int32)))]) [1, 2, 3, 0] rfl ?_
  exact hk2 ((x3 + (1 : Int32))) i31 h
set_option maxHeartbeats 4000000 in
set_option maxRecDepth 100000 in
theorem qs_X10_tries_2 {a0 : Nat} {x1 : Int32} {x2 : Int32} {T : kw_T} {n : Nat} {r : kw_R} {w : kw_L} {Q : kw_I → Prop} {E : kw_E} {G : kw_G} (hm : kw_m E G cX10_tries 4 RX10 none rm_X10_tries "tries")  (h0 : T a0 = (0, 10))    {k2 : Int32 → kw_I → Prop} (hk2 : ∀ (x3 : Int32) (i : kw_I), k2 x3 i → kw_K E G 4 0 0 (kw_Z E G 0 0 (kw_PV (fun T' n' r' i' w' => T = T' ∧ n = n' ∧ r = r' ∧ w = w' ∧ Q i'))) 2 [(0, kw_a a0), (1, kw_i x1), (2, kw_i x2), (3, kw_i x3)] [] T n r i w) (x3 : Int32) (i : kw_I) (h : s_X10_tries_2 a0 x1 x2 T n r w Q  k2 x3 i) : kw_K E G 4 0 0 (kw_Z E G 0 0 (kw_PV (fun T' n' r' i' w' => T = T' ∧ n = n' ∧ r = r' ∧ w = w' ∧ Q i'))) 2 [(0, kw_a a0), (1, kw_i x1), (2, kw_i x2), (3, kw_i x3)] [] T n r i w := by
  refine kk_iload_n hm.1 3 dX10_tries_2 rfl rfl ?_
  refine kk_bipush (v := (36 : Int32)) hm.1 dX10_tries_3 (by decide) ?_
  refine kk_icmp_ge (tgt := 38) hm.1 dX10_tries_5 (by decide) (fun c5 => ?_) (fun c5 => ?_)
  · have h := h.1 c5
    refine kk_aload_n hm.1 0 dX10_tries_38 rfl rfl ?_
    refine kk_aload_n hm.1 0 dX10_tries_39 rfl rfl ?_
    refine kk_getR hm.1 ff_X10_58 dX10_tries_40 h0 ?_
    refine kk_iconst (v := (0 : Int32)) hm.1 dX10_tries_43 (by decide) ?_
    refine kk_callVv (cs' := 0) (sl' := 0) (st := []) hm.1 cv_X10_273 (t_X10_goes h0 h) dX10_tries_44 h0 rfl rfl hm.2.2.1 ⟨by decide, by decide⟩ ⟨by decide, by decide⟩ rfl rfl (Nat.le_of_ble_eq_true rfl) rfl ?_
    rintro _ _ _ i44 _ ⟨rfl, rfl, rfl, rfl, h⟩
    exact kk_vret hm.1 hm.2.1 dX10_tries_47 ⟨rfl, rfl, rfl, rfl, rfl, h⟩
  · have h := h.2 c5
    refine kk_aload_n hm.1 0 dX10_tries_8 rfl rfl ?_
    refine kk_getR hm.1 ff_X10_58 dX10_tries_9 h0 ?_
    refine kk_iload_n hm.1 3 dX10_tries_12 rfl rfl ?_
    refine kk_iload_n hm.1 3 dX10_tries_13 rfl rfl ?_
    refine kk_iload_n hm.1 1 dX10_tries_14 rfl rfl ?_
    refine kk_icmp_ne (tgt := 22) hm.1 dX10_tries_15 (by decide) (fun c15 => ?_) (fun c15 => ?_)
    · have h := h.1 c15
      refine kk_aload_n hm.1 0 dX10_tries_22 rfl rfl ?_
      refine kk_getR hm.1 ff_X10_17 dX10_tries_23 h0 ?_
      refine kk_bipush (v := (60 : Int32)) hm.1 dX10_tries_26 (by decide) ?_
      refine kk_iload_n hm.1 3 dX10_tries_28 rfl rfl ?_
      refine kk_iadd hm.1 dX10_tries_29 ?_
      obtain ⟨o30, h⟩ := h
      refine kk_iaload hm.1 dX10_tries_30 o30 ?_
      exact q_X10_tries_31 hm  h0  hk2 x3 ((r a0 24)) x3 ((i (r a0 2) (((60 : Int32) + x3)).toNatClampNeg)) i h
    · have h := h.2 c15
      refine kk_iload_n hm.1 2 dX10_tries_18 rfl rfl ?_
      refine kk_goto (tgt := 31) hm.1 dX10_tries_19 (by decide) ?_
      exact q_X10_tries_31 hm  h0  hk2 x3 ((r a0 24)) x3 x2 i h
set_option maxHeartbeats 4000000 in
set_option maxRecDepth 100000 in
theorem q_X10_tries_2 {a0 : Nat} {x1 : Int32} {x2 : Int32} {T : kw_T} {n : Nat} {r : kw_R} {w : kw_L} {Q : kw_I → Prop} {E : kw_E} {G : kw_G} (hm : kw_m E G cX10_tries 4 RX10 none rm_X10_tries "tries")  (h0 : T a0 = (0, 10))    : ∀ (N : Nat) (x3 : Int32) (i : kw_I), w_X10_tries_2 a0 x1 x2 T n r w Q  N x3 i → kw_K E G 4 0 0 (kw_Z E G 0 0 (kw_PV (fun T' n' r' i' w' => T = T' ∧ n = n' ∧ r = r' ∧ w = w' ∧ Q i'))) 2 [(0, kw_a a0), (1, kw_i x1), (2, kw_i x2), (3, kw_i x3)] [] T n r i w := by
  intro N
  induction N with
  | zero => intro x3 i h; exact h.elim
  | succ N ih => intro x3 i h; exact qs_X10_tries_2 hm  h0  ih x3 i h
set_option maxHeartbeats 4000000 in
set_option maxRecDepth 100000 in
theorem t_X10_tries {l : Launch} {G : kw_G} {a0 : Nat} {x1 : Int32} {x2 : Int32} {T : kw_T} {n : Nat} {r : kw_R} {i : kw_I} {w : kw_L} {Q : kw_I → Prop} (h0 : T a0 = (0, 10)) (h : w_X10_tries a0 x1 x2 T n r i w Q) : kw_Met l G yX10_tries cX10_tries 4 none rm_X10_tries [kw_a a0, kw_i x1, kw_i x2] (T, n, r, i, w) (kw_PV (fun T' n' r' i' w' => T = T' ∧ n = n' ∧ r = r' ∧ w = w' ∧ Q i')) := by
  refine kw_Met.of (by decide) (Nat.le_of_ble_eq_true rfl) fun E hl hRm hE hT hnm => ?_
  have hm : kw_m E G cX10_tries 4 RX10 none rm_X10_tries "tries" := ⟨hE, hT, hRm, hnm⟩
  subst hl
  show kw_K E G 4 0 0 (kw_Z E G 0 0 (kw_PV (fun T' n' r' i' w' => T = T' ∧ n = n' ∧ r = r' ∧ w = w' ∧ Q i'))) 0 [(0, kw_a a0), (1, kw_i x1), (2, kw_i x2)] [] T n r i w
  refine kk_iconst (v := (0 : Int32)) hm.1 dX10_tries_0 (by decide) ?_
  refine kk_istore_n (L' := [(3, kw_i (0 : Int32)), (0, kw_a a0), (1, kw_i x1), (2, kw_i x2)]) hm.1 dX10_tries_1 rfl (by decide) rfl ?_
  refine kk_loc (L' := [(0, kw_a a0), (1, kw_i x1), (2, kw_i x2), (3, kw_i (0 : Int32))]) [1, 2, 3, 0] rfl ?_
  obtain ⟨N, h⟩ := h
  exact q_X10_tries_2 hm  h0   N ((0 : Int32)) i h
def w_X10_lost_77 (a0 : Nat) (x1 : Int32) (T : kw_T) (n : Nat) (r : kw_R) (w : kw_L) (Q : Int32 → kw_I → Prop) (k17 : Int32 → Int32 → kw_I → Prop) (x2 : Int32) (x3 : Int32) (i : kw_I) : Prop :=
  k17 x2 ((x3 + (1 : Int32))) i
def w_X10_lost_75 (a0 : Nat) (x1 : Int32) (T : kw_T) (n : Nat) (r : kw_R) (w : kw_L) (Q : Int32 → kw_I → Prop) (k17 : Int32 → Int32 → kw_I → Prop) (x3 : Int32) (s0 : Int32) (s1 : Int32) (i : kw_I) : Prop :=
  w_X10_lost_77 a0 x1 T n r w Q k17 ((s0 + s1)) x3 i
def s_X10_lost_17 (a0 : Nat) (x1 : Int32) (T : kw_T) (n : Nat) (r : kw_R) (w : kw_L) (Q : Int32 → kw_I → Prop)  (k17 : Int32 → Int32 → kw_I → Prop) (x2 : Int32) (x3 : Int32) (i : kw_I) : Prop :=
  ((8 : Int32) ≤ x3 → Q x2 i) ∧ (¬ (8 : Int32) ≤ x3 → kw_in T 1 (r a0 2) ((60 : Int32) + x1) ∧ ((¬ x3 = (i (r a0 2) (((60 : Int32) + x1)).toNatClampNeg) → w_X10_tries a0 x1 x3 T n r i w (fun i42 => w_X10_endOf a0 T n r i42 w (fun v51 => w_X10_endOf a0 T n r i42 w (fun v59 => w_X10_likeness (r a0 24) v51 (r a0 22) v59 T n r i42 w (fun v62 => (¬ v62 = (36 : Int32) → w_X10_lost_75 a0 x1 T n r w Q k17 x3 x2 ((0 : Int32)) i42) ∧ (v62 = (36 : Int32) → w_X10_lost_75 a0 x1 T n r w Q k17 x3 x2 ((1 : Int32)) i42)))))) ∧ (x3 = (i (r a0 2) (((60 : Int32) + x1)).toNatClampNeg) → w_X10_lost_77 a0 x1 T n r w Q k17 x2 x3 i)))
def w_X10_lost_17 (a0 : Nat) (x1 : Int32) (T : kw_T) (n : Nat) (r : kw_R) (w : kw_L) (Q : Int32 → kw_I → Prop)  : Nat → Int32 → Int32 → kw_I → Prop
  | 0 => fun _ _ _ => False
  | N + 1 => s_X10_lost_17 a0 x1 T n r w Q  (w_X10_lost_17 a0 x1 T n r w Q  N)
def w_X10_lost  (a0 : Nat) (x1 : Int32) (T : kw_T) (n : Nat) (r : kw_R) (i : kw_I) (w : kw_L) (Q : Int32 → kw_I → Prop) : Prop :=
  w_X10_isCell x1 T n r i w (fun v1 => (¬ v1 = 0 → w_X10_looks a0 T n r i w (fun i10 => ∃ N, w_X10_lost_17 a0 x1 T n r w Q  N ((0 : Int32)) ((0 : Int32)) i10)) ∧ (v1 = 0 → Q (-1 : Int32) i))
abbrev rm_X10_lost : Room := { frames := 129, cells := 0, slots := 0, locals := 6255 }
set_option maxHeartbeats 4000000 in
set_option maxRecDepth 100000 in
theorem q_X10_lost_77 {a0 : Nat} {x1 : Int32} {T : kw_T} {n : Nat} {r : kw_R} {w : kw_L} {Q : Int32 → kw_I → Prop} {E : kw_E} {G : kw_G} (hm : kw_m E G cX10_lost 4 RX10 (some .int) rm_X10_lost "lost")  (h0 : T a0 = (0, 10))  {k17 : Int32 → Int32 → kw_I → Prop} (hk17 : ∀ (x2 : Int32) (x3 : Int32) (i : kw_I), k17 x2 x3 i → kw_K E G 4 0 0 (kw_Z E G 0 0 (kw_PI (fun v T' n' r' i' w' => T = T' ∧ n = n' ∧ r = r' ∧ w = w' ∧ Q v i'))) 17 [(0, kw_a a0), (1, kw_i x1), (2, kw_i x2), (3, kw_i x3)] [] T n r i w) (x2 : Int32) (x3 : Int32) (i : kw_I) (h : w_X10_lost_77 a0 x1 T n r w Q k17 x2 x3 i) : kw_K E G 4 0 0 (kw_Z E G 0 0 (kw_PI (fun v T' n' r' i' w' => T = T' ∧ n = n' ∧ r = r' ∧ w = w' ∧ Q v i'))) 77 [(0, kw_a a0), (1, kw_i x1), (2, kw_i x2), (3, kw_i x3)] [] T n r i w := by
  refine kk_iinc (v := (x3 + (1 : Int32))) (L' := [(3, kw_i (x3 + (1 : Int32))), (0, kw_a a0), (1, kw_i x1), (2, kw_i x2)]) hm.1 3 dX10_lost_77 rfl rfl (by decide) rfl ?_
  refine kk_goto (tgt := 17) hm.1 dX10_lost_80 (by decide) ?_
  refine kk_loc (L' := [(0, kw_a a0), (1, kw_i x1), (2, kw_i x2), (3, kw_i (x3 + (1 : Int32)))]) [1, 2, 3, 0] rfl ?_
  exact hk17 x2 ((x3 + (1 : Int32))) i h
set_option maxHeartbeats 4000000 in
set_option maxRecDepth 100000 in
theorem q_X10_lost_75 {a0 : Nat} {x1 : Int32} {T : kw_T} {n : Nat} {r : kw_R} {w : kw_L} {Q : Int32 → kw_I → Prop} {E : kw_E} {G : kw_G} (hm : kw_m E G cX10_lost 4 RX10 (some .int) rm_X10_lost "lost")  (h0 : T a0 = (0, 10))  {k17 : Int32 → Int32 → kw_I → Prop} (hk17 : ∀ (x2 : Int32) (x3 : Int32) (i : kw_I), k17 x2 x3 i → kw_K E G 4 0 0 (kw_Z E G 0 0 (kw_PI (fun v T' n' r' i' w' => T = T' ∧ n = n' ∧ r = r' ∧ w = w' ∧ Q v i'))) 17 [(0, kw_a a0), (1, kw_i x1), (2, kw_i x2), (3, kw_i x3)] [] T n r i w) (x3 : Int32) (s0 : Int32) (s1 : Int32) (i : kw_I) (h : w_X10_lost_75 a0 x1 T n r w Q k17 x3 s0 s1 i) : kw_K E G 4 0 0 (kw_Z E G 0 0 (kw_PI (fun v T' n' r' i' w' => T = T' ∧ n = n' ∧ r = r' ∧ w = w' ∧ Q v i'))) 75 [(0, kw_a a0), (1, kw_i x1), (3, kw_i x3)] [kw_i s1, kw_i s0] T n r i w := by
  refine kk_iadd hm.1 dX10_lost_75 ?_
  refine kk_istore_n (L' := [(2, kw_i (s0 + s1)), (0, kw_a a0), (1, kw_i x1), (3, kw_i x3)]) hm.1 dX10_lost_76 rfl (by decide) rfl ?_
  refine kk_loc (L' := [(0, kw_a a0), (1, kw_i x1), (2, kw_i (s0 + s1)), (3, kw_i x3)]) [1, 2, 0, 3] rfl ?_
  exact q_X10_lost_77 hm  h0  hk17 ((s0 + s1)) x3 i h
set_option maxHeartbeats 4000000 in
set_option maxRecDepth 100000 in
theorem qs_X10_lost_17 {a0 : Nat} {x1 : Int32} {T : kw_T} {n : Nat} {r : kw_R} {w : kw_L} {Q : Int32 → kw_I → Prop} {E : kw_E} {G : kw_G} (hm : kw_m E G cX10_lost 4 RX10 (some .int) rm_X10_lost "lost")  (h0 : T a0 = (0, 10))    {k17 : Int32 → Int32 → kw_I → Prop} (hk17 : ∀ (x2 : Int32) (x3 : Int32) (i : kw_I), k17 x2 x3 i → kw_K E G 4 0 0 (kw_Z E G 0 0 (kw_PI (fun v T' n' r' i' w' => T = T' ∧ n = n' ∧ r = r' ∧ w = w' ∧ Q v i'))) 17 [(0, kw_a a0), (1, kw_i x1), (2, kw_i x2), (3, kw_i x3)] [] T n r i w) (x2 : Int32) (x3 : Int32) (i : kw_I) (h : s_X10_lost_17 a0 x1 T n r w Q  k17 x2 x3 i) : kw_K E G 4 0 0 (kw_Z E G 0 0 (kw_PI (fun v T' n' r' i' w' => T = T' ∧ n = n' ∧ r = r' ∧ w = w' ∧ Q v i'))) 17 [(0, kw_a a0), (1, kw_i x1), (2, kw_i x2), (3, kw_i x3)] [] T n r i w := by
  refine kk_iload_n hm.1 3 dX10_lost_17 rfl rfl ?_
  refine kk_bipush (v := (8 : Int32)) hm.1 dX10_lost_18 (by decide) ?_
  refine kk_icmp_ge (tgt := 83) hm.1 dX10_lost_20 (by decide) (fun c20 => ?_) (fun c20 => ?_)
  · have h := h.1 c20
    refine kk_iload_n hm.1 2 dX10_lost_83 rfl rfl ?_
    exact kk_iret hm.1 hm.2.1 dX10_lost_84 ⟨_, rfl, rfl, rfl, rfl, rfl, h⟩
  · have h := h.2 c20
    refine kk_iload_n hm.1 3 dX10_lost_23 rfl rfl ?_
    refine kk_aload_n hm.1 0 dX10_lost_24 rfl rfl ?_
    refine kk_getR hm.1 ff_X10_17 dX10_lost_25 h0 ?_
    refine kk_bipush (v := (60 : Int32)) hm.1 dX10_lost_28 (by decide) ?_
    refine kk_iload_n hm.1 1 dX10_lost_30 rfl rfl ?_
    refine kk_iadd hm.1 dX10_lost_31 ?_
    obtain ⟨o32, h⟩ := h
    refine kk_iaload hm.1 dX10_lost_32 o32 ?_
    refine kk_icmp_ne (tgt := 39) hm.1 dX10_lost_33 (by decide) (fun c33 => ?_) (fun c33 => ?_)
    · have h := h.1 c33
      refine kk_aload_n hm.1 0 dX10_lost_39 rfl rfl ?_
      refine kk_iload_n hm.1 1 dX10_lost_40 rfl rfl ?_
      refine kk_iload_n hm.1 3 dX10_lost_41 rfl rfl ?_
      refine kk_callVv (cs' := 0) (sl' := 0) (st := []) hm.1 cv_X10_296 (t_X10_tries h0 h) dX10_lost_42 h0 rfl rfl hm.2.2.1 ⟨by decide, by decide⟩ ⟨by decide, by decide⟩ rfl rfl (Nat.le_of_ble_eq_true rfl) rfl ?_
      rintro _ _ _ i42 _ ⟨rfl, rfl, rfl, rfl, h⟩
      refine kk_iload_n hm.1 2 dX10_lost_45 rfl rfl ?_
      refine kk_aload_n hm.1 0 dX10_lost_46 rfl rfl ?_
      refine kk_getR hm.1 ff_X10_58 dX10_lost_47 h0 ?_
      refine kk_aload_n hm.1 0 dX10_lost_50 rfl rfl ?_
      refine kk_callVi (cs' := 0) (sl' := 0) (st := [kw_a (r a0 24), kw_i x2]) hm.1 cv_X10_293 (t_X10_endOf h0 h) dX10_lost_51 h0 rfl rfl hm.2.2.1 ⟨by decide, by decide⟩ ⟨by decide, by decide⟩ rfl rfl (Nat.le_of_ble_eq_true rfl) rfl ?_
      rintro v51 _ _ _ _ _ ⟨rfl, rfl, rfl, rfl, rfl, h⟩
      refine kk_aload_n hm.1 0 dX10_lost_54 rfl rfl ?_
      refine kk_getR hm.1 ff_X10_52 dX10_lost_55 h0 ?_
      refine kk_aload_n hm.1 0 dX10_lost_58 rfl rfl ?_
      refine kk_callVi (cs' := 0) (sl' := 0) (st := [kw_a (r a0 22), kw_i v51, kw_a (r a0 24), kw_i x2]) hm.1 cv_X10_293 (t_X10_endOf h0 h) dX10_lost_59 h0 rfl rfl hm.2.2.1 ⟨by decide, by decide⟩ ⟨by decide, by decide⟩ rfl rfl (Nat.le_of_ble_eq_true rfl) rfl ?_
      rintro v59 _ _ _ _ _ ⟨rfl, rfl, rfl, rfl, rfl, h⟩
      refine kk_callSi (cs' := 0) (sl' := 0) (st := [kw_i x2]) hm.1 cs_X10_289 (t_X10_likeness h) dX10_lost_62 rfl hm.2.2.1 ⟨by decide, by decide⟩ ⟨by decide, by decide⟩ rfl rfl (Nat.le_of_ble_eq_true rfl) rfl ?_
      rintro v62 _ _ _ _ _ ⟨rfl, rfl, rfl, rfl, rfl, h⟩
      refine kk_bipush (v := (36 : Int32)) hm.1 dX10_lost_65 (by decide) ?_
      refine kk_icmp_ne (tgt := 74) hm.1 dX10_lost_67 (by decide) (fun c67 => ?_) (fun c67 => ?_)
      · have h := h.1 c67
        refine kk_iconst (v := (0 : Int32)) hm.1 dX10_lost_74 (by decide) ?_
        refine kk_loc (L' := [(0, kw_a a0), (1, kw_i x1), (3, kw_i x3)]) [0, 1, 3] rfl ?_
        exact q_X10_lost_75 hm  h0  hk17 x3 x2 ((0 : Int32)) i42 h
      · have h := h.2 c67
        refine kk_iconst (v := (1 : Int32)) hm.1 dX10_lost_70 (by decide) ?_
        refine kk_goto (tgt := 75) hm.1 dX10_lost_71 (by decide) ?_
        refine kk_loc (L' := [(0, kw_a a0), (1, kw_i x1), (3, kw_i x3)]) [0, 1, 3] rfl ?_
        exact q_X10_lost_75 hm  h0  hk17 x3 x2 ((1 : Int32)) i42 h
    · have h := h.2 c33
      refine kk_goto (tgt := 77) hm.1 dX10_lost_36 (by decide) ?_
      exact q_X10_lost_77 hm  h0  hk17 x2 x3 i h
set_option maxHeartbeats 4000000 in
set_option maxRecDepth 100000 in
theorem q_X10_lost_17 {a0 : Nat} {x1 : Int32} {T : kw_T} {n : Nat} {r : kw_R} {w : kw_L} {Q : Int32 → kw_I → Prop} {E : kw_E} {G : kw_G} (hm : kw_m E G cX10_lost 4 RX10 (some .int) rm_X10_lost "lost")  (h0 : T a0 = (0, 10))    : ∀ (N : Nat) (x2 : Int32) (x3 : Int32) (i : kw_I), w_X10_lost_17 a0 x1 T n r w Q  N x2 x3 i → kw_K E G 4 0 0 (kw_Z E G 0 0 (kw_PI (fun v T' n' r' i' w' => T = T' ∧ n = n' ∧ r = r' ∧ w = w' ∧ Q v i'))) 17 [(0, kw_a a0), (1, kw_i x1), (2, kw_i x2), (3, kw_i x3)] [] T n r i w := by
  intro N
  induction N with
  | zero => intro x2 x3 i h; exact h.elim
  | succ N ih => intro x2 x3 i h; exact qs_X10_lost_17 hm  h0  ih x2 x3 i h
set_option maxHeartbeats 4000000 in
set_option maxRecDepth 100000 in
theorem t_X10_lost {l : Launch} {G : kw_G} {a0 : Nat} {x1 : Int32} {T : kw_T} {n : Nat} {r : kw_R} {i : kw_I} {w : kw_L} {Q : Int32 → kw_I → Prop} (h0 : T a0 = (0, 10)) (h : w_X10_lost a0 x1 T n r i w Q) : kw_Met l G yX10_lost cX10_lost 4 (some .int) rm_X10_lost [kw_a a0, kw_i x1] (T, n, r, i, w) (kw_PI (fun v T' n' r' i' w' => T = T' ∧ n = n' ∧ r = r' ∧ w = w' ∧ Q v i')) := by
  refine kw_Met.of (by decide) (Nat.le_of_ble_eq_true rfl) fun E hl hRm hE hT hnm => ?_
  have hm : kw_m E G cX10_lost 4 RX10 (some .int) rm_X10_lost "lost" := ⟨hE, hT, hRm, hnm⟩
  subst hl
  show kw_K E G 4 0 0 (kw_Z E G 0 0 (kw_PI (fun v T' n' r' i' w' => T = T' ∧ n = n' ∧ r = r' ∧ w = w' ∧ Q v i'))) 0 [(0, kw_a a0), (1, kw_i x1)] [] T n r i w
  refine kk_iload_n hm.1 1 dX10_lost_0 rfl rfl ?_
  refine kk_callSi (cs' := 0) (sl' := 0) (st := []) hm.1 cs_X10_104 (t_X10_isCell h) dX10_lost_1 rfl hm.2.2.1 ⟨by decide, by decide⟩ ⟨by decide, by decide⟩ rfl rfl (Nat.le_of_ble_eq_true rfl) rfl ?_
  rintro v1 _ _ _ _ _ ⟨rfl, rfl, rfl, rfl, rfl, h⟩
  refine kk_if_ne (tgt := 9) hm.1 dX10_lost_4 (by decide) (fun c4 => ?_) (fun c4 => ?_)
  · have h := h.1 c4
    refine kk_aload_n hm.1 0 dX10_lost_9 rfl rfl ?_
    refine kk_callVv (cs' := 0) (sl' := 0) (st := []) hm.1 cv_X10_280 (t_X10_looks h0 h) dX10_lost_10 h0 rfl rfl hm.2.2.1 ⟨by decide, by decide⟩ ⟨by decide, by decide⟩ rfl rfl (Nat.le_of_ble_eq_true rfl) rfl ?_
    rintro _ _ _ i10 _ ⟨rfl, rfl, rfl, rfl, h⟩
    refine kk_iconst (v := (0 : Int32)) hm.1 dX10_lost_13 (by decide) ?_
    refine kk_istore_n (L' := [(2, kw_i (0 : Int32)), (0, kw_a a0), (1, kw_i x1)]) hm.1 dX10_lost_14 rfl (by decide) rfl ?_
    refine kk_iconst (v := (0 : Int32)) hm.1 dX10_lost_15 (by decide) ?_
    refine kk_istore_n (L' := [(3, kw_i (0 : Int32)), (2, kw_i (0 : Int32)), (0, kw_a a0), (1, kw_i x1)]) hm.1 dX10_lost_16 rfl (by decide) rfl ?_
    refine kk_loc (L' := [(0, kw_a a0), (1, kw_i x1), (2, kw_i (0 : Int32)), (3, kw_i (0 : Int32))]) [2, 3, 1, 0] rfl ?_
    obtain ⟨N, h⟩ := h
    exact q_X10_lost_17 hm  h0   N ((0 : Int32)) ((0 : Int32)) i10 h
  · have h := h.2 c4
    refine kk_iconst (v := (-1 : Int32)) hm.1 dX10_lost_7 (by decide) ?_
    exact kk_iret hm.1 hm.2.1 dX10_lost_8 ⟨_, rfl, rfl, rfl, rfl, rfl, h⟩
def w_X10_could_60 (a0 : Nat) (x1 : Int32) (T : kw_T) (n : Nat) (r : kw_R) (w : kw_L) (Q : Int32 → kw_I → Prop) (k17 : Int32 → Int32 → kw_I → Prop) (x3 : Int32) (s0 : Int32) (s1 : Int32) (i : kw_I) : Prop :=
  k17 ((s0 ||| s1)) ((x3 + (1 : Int32))) i
def s_X10_could_17 (a0 : Nat) (x1 : Int32) (T : kw_T) (n : Nat) (r : kw_R) (w : kw_L) (Q : Int32 → kw_I → Prop)  (k17 : Int32 → Int32 → kw_I → Prop) (x2 : Int32) (x3 : Int32) (i : kw_I) : Prop :=
  ((8 : Int32) ≤ x3 → Q x2 i) ∧ (¬ (8 : Int32) ≤ x3 → w_X10_tries a0 x1 x3 T n r i w (fun i26 => w_X10_endOf a0 T n r i26 w (fun v35 => w_X10_likeness (r a0 24) v35 (r a0 2) (132 : Int32) T n r i26 w (fun v45 => (¬ v45 = (36 : Int32) → w_X10_could_60 a0 x1 T n r w Q k17 x3 x2 ((0 : Int32)) i26) ∧ (v45 = (36 : Int32) → w_X10_could_60 a0 x1 T n r w Q k17 x3 x2 (((1 : Int32) <<< (x3 &&& 31))) i26)))))
def w_X10_could_17 (a0 : Nat) (x1 : Int32) (T : kw_T) (n : Nat) (r : kw_R) (w : kw_L) (Q : Int32 → kw_I → Prop)  : Nat → Int32 → Int32 → kw_I → Prop
  | 0 => fun _ _ _ => False
  | N + 1 => s_X10_could_17 a0 x1 T n r w Q  (w_X10_could_17 a0 x1 T n r w Q  N)
def w_X10_could  (a0 : Nat) (x1 : Int32) (T : kw_T) (n : Nat) (r : kw_R) (i : kw_I) (w : kw_L) (Q : Int32 → kw_I → Prop) : Prop :=
  w_X10_isCell x1 T n r i w (fun v1 => (¬ v1 = 0 → w_X10_plain a0 T n r i w (fun i10 => ∃ N, w_X10_could_17 a0 x1 T n r w Q  N ((0 : Int32)) ((0 : Int32)) i10)) ∧ (v1 = 0 → Q (-1 : Int32) i))
abbrev rm_X10_could : Room := { frames := 129, cells := 0, slots := 0, locals := 6255 }
set_option maxHeartbeats 4000000 in
set_option maxRecDepth 100000 in
theorem q_X10_could_60 {a0 : Nat} {x1 : Int32} {T : kw_T} {n : Nat} {r : kw_R} {w : kw_L} {Q : Int32 → kw_I → Prop} {E : kw_E} {G : kw_G} (hm : kw_m E G cX10_could 4 RX10 (some .int) rm_X10_could "could")  (h0 : T a0 = (0, 10))  {k17 : Int32 → Int32 → kw_I → Prop} (hk17 : ∀ (x2 : Int32) (x3 : Int32) (i : kw_I), k17 x2 x3 i → kw_K E G 4 0 0 (kw_Z E G 0 0 (kw_PI (fun v T' n' r' i' w' => T = T' ∧ n = n' ∧ r = r' ∧ w = w' ∧ Q v i'))) 17 [(0, kw_a a0), (1, kw_i x1), (2, kw_i x2), (3, kw_i x3)] [] T n r i w) (x3 : Int32) (s0 : Int32) (s1 : Int32) (i : kw_I) (h : w_X10_could_60 a0 x1 T n r w Q k17 x3 s0 s1 i) : kw_K E G 4 0 0 (kw_Z E G 0 0 (kw_PI (fun v T' n' r' i' w' => T = T' ∧ n = n' ∧ r = r' ∧ w = w' ∧ Q v i'))) 60 [(0, kw_a a0), (1, kw_i x1), (3, kw_i x3)] [kw_i s1, kw_i s0] T n r i w := by
  refine kk_ior hm.1 dX10_could_60 ?_
  refine kk_istore_n (L' := [(2, kw_i (s0 ||| s1)), (0, kw_a a0), (1, kw_i x1), (3, kw_i x3)]) hm.1 dX10_could_61 rfl (by decide) rfl ?_
  refine kk_iinc (v := (x3 + (1 : Int32))) (L' := [(3, kw_i (x3 + (1 : Int32))), (2, kw_i (s0 ||| s1)), (0, kw_a a0), (1, kw_i x1)]) hm.1 3 dX10_could_62 rfl rfl (by decide) rfl ?_
  refine kk_goto (tgt := 17) hm.1 dX10_could_65 (by decide) ?_
  refine kk_loc (L' := [(0, kw_a a0), (1, kw_i x1), (2, kw_i (s0 ||| s1)), (3, kw_i (x3 + (1 : Int32)))]) [2, 3, 1, 0] rfl ?_
  exact hk17 ((s0 ||| s1)) ((x3 + (1 : Int32))) i h
set_option maxHeartbeats 4000000 in
set_option maxRecDepth 100000 in
theorem qs_X10_could_17 {a0 : Nat} {x1 : Int32} {T : kw_T} {n : Nat} {r : kw_R} {w : kw_L} {Q : Int32 → kw_I → Prop} {E : kw_E} {G : kw_G} (hm : kw_m E G cX10_could 4 RX10 (some .int) rm_X10_could "could")  (h0 : T a0 = (0, 10))    {k17 : Int32 → Int32 → kw_I → Prop} (hk17 : ∀ (x2 : Int32) (x3 : Int32) (i : kw_I), k17 x2 x3 i → kw_K E G 4 0 0 (kw_Z E G 0 0 (kw_PI (fun v T' n' r' i' w' => T = T' ∧ n = n' ∧ r = r' ∧ w = w' ∧ Q v i'))) 17 [(0, kw_a a0), (1, kw_i x1), (2, kw_i x2), (3, kw_i x3)] [] T n r i w) (x2 : Int32) (x3 : Int32) (i : kw_I) (h : s_X10_could_17 a0 x1 T n r w Q  k17 x2 x3 i) : kw_K E G 4 0 0 (kw_Z E G 0 0 (kw_PI (fun v T' n' r' i' w' => T = T' ∧ n = n' ∧ r = r' ∧ w = w' ∧ Q v i'))) 17 [(0, kw_a a0), (1, kw_i x1), (2, kw_i x2), (3, kw_i x3)] [] T n r i w := by
  refine kk_iload_n hm.1 3 dX10_could_17 rfl rfl ?_
  refine kk_bipush (v := (8 : Int32)) hm.1 dX10_could_18 (by decide) ?_
  refine kk_icmp_ge (tgt := 68) hm.1 dX10_could_20 (by decide) (fun c20 => ?_) (fun c20 => ?_)
  · have h := h.1 c20
    refine kk_iload_n hm.1 2 dX10_could_68 rfl rfl ?_
    exact kk_iret hm.1 hm.2.1 dX10_could_69 ⟨_, rfl, rfl, rfl, rfl, rfl, h⟩
  · have h := h.2 c20
    refine kk_aload_n hm.1 0 dX10_could_23 rfl rfl ?_
    refine kk_iload_n hm.1 1 dX10_could_24 rfl rfl ?_
    refine kk_iload_n hm.1 3 dX10_could_25 rfl rfl ?_
    refine kk_callVv (cs' := 0) (sl' := 0) (st := []) hm.1 cv_X10_296 (t_X10_tries h0 h) dX10_could_26 h0 rfl rfl hm.2.2.1 ⟨by decide, by decide⟩ ⟨by decide, by decide⟩ rfl rfl (Nat.le_of_ble_eq_true rfl) rfl ?_
    rintro _ _ _ i26 _ ⟨rfl, rfl, rfl, rfl, h⟩
    refine kk_iload_n hm.1 2 dX10_could_29 rfl rfl ?_
    refine kk_aload_n hm.1 0 dX10_could_30 rfl rfl ?_
    refine kk_getR hm.1 ff_X10_58 dX10_could_31 h0 ?_
    refine kk_aload_n hm.1 0 dX10_could_34 rfl rfl ?_
    refine kk_callVi (cs' := 0) (sl' := 0) (st := [kw_a (r a0 24), kw_i x2]) hm.1 cv_X10_293 (t_X10_endOf h0 h) dX10_could_35 h0 rfl rfl hm.2.2.1 ⟨by decide, by decide⟩ ⟨by decide, by decide⟩ rfl rfl (Nat.le_of_ble_eq_true rfl) rfl ?_
    rintro v35 _ _ _ _ _ ⟨rfl, rfl, rfl, rfl, rfl, h⟩
    refine kk_aload_n hm.1 0 dX10_could_38 rfl rfl ?_
    refine kk_getR hm.1 ff_X10_17 dX10_could_39 h0 ?_
    refine kk_sipush (v := (132 : Int32)) hm.1 dX10_could_42 (by decide) ?_
    refine kk_callSi (cs' := 0) (sl' := 0) (st := [kw_i x2]) hm.1 cs_X10_289 (t_X10_likeness h) dX10_could_45 rfl hm.2.2.1 ⟨by decide, by decide⟩ ⟨by decide, by decide⟩ rfl rfl (Nat.le_of_ble_eq_true rfl) rfl ?_
    rintro v45 _ _ _ _ _ ⟨rfl, rfl, rfl, rfl, rfl, h⟩
    refine kk_bipush (v := (36 : Int32)) hm.1 dX10_could_48 (by decide) ?_
    refine kk_icmp_ne (tgt := 59) hm.1 dX10_could_50 (by decide) (fun c50 => ?_) (fun c50 => ?_)
    · have h := h.1 c50
      refine kk_iconst (v := (0 : Int32)) hm.1 dX10_could_59 (by decide) ?_
      refine kk_loc (L' := [(0, kw_a a0), (1, kw_i x1), (3, kw_i x3)]) [0, 1, 3] rfl ?_
      exact q_X10_could_60 hm  h0  hk17 x3 x2 ((0 : Int32)) i26 h
    · have h := h.2 c50
      refine kk_iconst (v := (1 : Int32)) hm.1 dX10_could_53 (by decide) ?_
      refine kk_iload_n hm.1 3 dX10_could_54 rfl rfl ?_
      refine kk_ishl hm.1 dX10_could_55 ?_
      refine kk_goto (tgt := 60) hm.1 dX10_could_56 (by decide) ?_
      refine kk_loc (L' := [(0, kw_a a0), (1, kw_i x1), (3, kw_i x3)]) [0, 1, 3] rfl ?_
      exact q_X10_could_60 hm  h0  hk17 x3 x2 (((1 : Int32) <<< (x3 &&& 31))) i26 h
set_option maxHeartbeats 4000000 in
set_option maxRecDepth 100000 in
theorem q_X10_could_17 {a0 : Nat} {x1 : Int32} {T : kw_T} {n : Nat} {r : kw_R} {w : kw_L} {Q : Int32 → kw_I → Prop} {E : kw_E} {G : kw_G} (hm : kw_m E G cX10_could 4 RX10 (some .int) rm_X10_could "could")  (h0 : T a0 = (0, 10))    : ∀ (N : Nat) (x2 : Int32) (x3 : Int32) (i : kw_I), w_X10_could_17 a0 x1 T n r w Q  N x2 x3 i → kw_K E G 4 0 0 (kw_Z E G 0 0 (kw_PI (fun v T' n' r' i' w' => T = T' ∧ n = n' ∧ r = r' ∧ w = w' ∧ Q v i'))) 17 [(0, kw_a a0), (1, kw_i x1), (2, kw_i x2), (3, kw_i x3)] [] T n r i w := by
  intro N
  induction N with
  | zero => intro x2 x3 i h; exact h.elim
  | succ N ih => intro x2 x3 i h; exact qs_X10_could_17 hm  h0  ih x2 x3 i h
set_option maxHeartbeats 4000000 in
set_option maxRecDepth 100000 in
theorem t_X10_could {l : Launch} {G : kw_G} {a0 : Nat} {x1 : Int32} {T : kw_T} {n : Nat} {r : kw_R} {i : kw_I} {w : kw_L} {Q : Int32 → kw_I → Prop} (h0 : T a0 = (0, 10)) (h : w_X10_could a0 x1 T n r i w Q) : kw_Met l G yX10_could cX10_could 4 (some .int) rm_X10_could [kw_a a0, kw_i x1] (T, n, r, i, w) (kw_PI (fun v T' n' r' i' w' => T = T' ∧ n = n' ∧ r = r' ∧ w = w' ∧ Q v i')) := by
  refine kw_Met.of (by decide) (Nat.le_of_ble_eq_true rfl) fun E hl hRm hE hT hnm => ?_
  have hm : kw_m E G cX10_could 4 RX10 (some .int) rm_X10_could "could" := ⟨hE, hT, hRm, hnm⟩
  subst hl
  show kw_K E G 4 0 0 (kw_Z E G 0 0 (kw_PI (fun v T' n' r' i' w' => T = T' ∧ n = n' ∧ r = r' ∧ w = w' ∧ Q v i'))) 0 [(0, kw_a a0), (1, kw_i x1)] [] T n r i w
  refine kk_iload_n hm.1 1 dX10_could_0 rfl rfl ?_
  refine kk_callSi (cs' := 0) (sl' := 0) (st := []) hm.1 cs_X10_104 (t_X10_isCell h) dX10_could_1 rfl hm.2.2.1 ⟨by decide, by decide⟩ ⟨by decide, by decide⟩ rfl rfl (Nat.le_of_ble_eq_true rfl) rfl ?_
  rintro v1 _ _ _ _ _ ⟨rfl, rfl, rfl, rfl, rfl, h⟩
  refine kk_if_ne (tgt := 9) hm.1 dX10_could_4 (by decide) (fun c4 => ?_) (fun c4 => ?_)
  · have h := h.1 c4
    refine kk_aload_n hm.1 0 dX10_could_9 rfl rfl ?_
    refine kk_callVv (cs' := 0) (sl' := 0) (st := []) hm.1 cv_X10_270 (t_X10_plain h0 h) dX10_could_10 h0 rfl rfl hm.2.2.1 ⟨by decide, by decide⟩ ⟨by decide, by decide⟩ rfl rfl (Nat.le_of_ble_eq_true rfl) rfl ?_
    rintro _ _ _ i10 _ ⟨rfl, rfl, rfl, rfl, h⟩
    refine kk_iconst (v := (0 : Int32)) hm.1 dX10_could_13 (by decide) ?_
    refine kk_istore_n (L' := [(2, kw_i (0 : Int32)), (0, kw_a a0), (1, kw_i x1)]) hm.1 dX10_could_14 rfl (by decide) rfl ?_
    refine kk_iconst (v := (0 : Int32)) hm.1 dX10_could_15 (by decide) ?_
    refine kk_istore_n (L' := [(3, kw_i (0 : Int32)), (2, kw_i (0 : Int32)), (0, kw_a a0), (1, kw_i x1)]) hm.1 dX10_could_16 rfl (by decide) rfl ?_
    refine kk_loc (L' := [(0, kw_a a0), (1, kw_i x1), (2, kw_i (0 : Int32)), (3, kw_i (0 : Int32))]) [2, 3, 1, 0] rfl ?_
    obtain ⟨N, h⟩ := h
    exact q_X10_could_17 hm  h0   N ((0 : Int32)) ((0 : Int32)) i10 h
  · have h := h.2 c4
    refine kk_iconst (v := (-1 : Int32)) hm.1 dX10_could_7 (by decide) ?_
    exact kk_iret hm.1 hm.2.1 dX10_could_8 ⟨_, rfl, rfl, rfl, rfl, rfl, h⟩
