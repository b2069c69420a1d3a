def w_X9_could  (a0 : Nat) (x1 : Int32) (T : kw_T) (n : Nat) (r : kw_R) (i : kw_I) (w : kw_L) (Q : Int32 → kw_R → kw_I → kw_L → Prop) : Prop :=
  w_X9_isCell x1 T n r i w (fun v1 => (¬ v1 = 0 → w_X9_weaveIfStale a0 T n r i w (fun r10 i10 w10 => T ((r10 a0 0)) = (0, 6) ∧ (kw_in T 5 (r10 (r10 a0 0) 1) (2 : Int32) ∧ (T ((r10 a0 5)) = (0, 0) ∧ (w_X0_coloursFor (r10 a0 5) x1 (r10 (r10 (r10 a0 0) 1) ((2 : Int32)).toNatClampNeg) T n r10 i10 w10 (fun v27 i27 w27 => Q v27 r10 i27 w27)))))) ∧ (v1 = 0 → Q (-1 : Int32) r i w))
abbrev rm_X9_could : Room := { frames := 7, cells := 0, slots := 0, locals := 224 }
set_option maxHeartbeats 4000000 in
set_option maxRecDepth 100000 in
theorem t_X9_could {l : Launch} {G : kw_G} {a0 : Nat} {x1 : Int32} {T : kw_T} {n : Nat} {r : kw_R} {i : kw_I} {w : kw_L} {Q : Int32 → kw_R → kw_I → kw_L → Prop} (h0 : T a0 = (0, 9)) (h : w_X9_could a0 x1 T n r i w Q) : kw_Met l G yX9_could cX9_could 2 (some .int) rm_X9_could [kw_a a0, kw_i x1] (T, n, r, i, w) (kw_PI (fun v T' n' r' i' w' => T = T' ∧ n = n' ∧ Q v r' i' w')) := by
  refine kw_Met.of (by decide) (Nat.le_of_ble_eq_true rfl) fun E hl hRm hE hT hnm => ?_
  have hm : kw_m E G cX9_could 2 RX9 (some .int) rm_X9_could "could" := ⟨hE, hT, hRm, hnm⟩
  subst hl
  show kw_K E G 2 0 0 (kw_Z E G 0 0 (kw_PI (fun v T' n' r' i' w' => T = T' ∧ n = n' ∧ Q v r' i' w'))) 0 [(0, kw_a a0), (1, kw_i x1)] [] T n r i w
  refine kk_iload_n hm.1 1 dX9_could_0 rfl rfl ?_
  refine kk_callSi (cs' := 0) (sl' := 0) (st := []) hm.1 cs_X9_114 (t_X9_isCell h) dX9_could_1 rfl hm.2.2.1 ⟨by decide, by decide⟩ ⟨by decide, by decide⟩ rfl rfl (Nat.le_of_ble_eq_true rfl) rfl ?_
  rintro v1 _ _ _ _ _ ⟨rfl, rfl, rfl, rfl, rfl, h⟩
  refine kk_if_ne (tgt := 9) hm.1 dX9_could_4 (by decide) (fun c4 => ?_) (fun c4 => ?_)
  · have h := h.1 c4
    refine kk_aload_n hm.1 0 dX9_could_9 rfl rfl ?_
    refine kk_callVv (cs' := 0) (sl' := 0) (st := []) hm.1 cv_X9_162 (t_X9_weaveIfStale h0 h) dX9_could_10 h0 rfl rfl hm.2.2.1 ⟨by decide, by decide⟩ ⟨by decide, by decide⟩ rfl rfl (Nat.le_of_ble_eq_true rfl) rfl ?_
    rintro _ _ r10 i10 w10 ⟨rfl, rfl, h⟩
    refine kk_aload_n hm.1 0 dX9_could_13 rfl rfl ?_
    refine kk_getR hm.1 ff_X9_46 dX9_could_14 h0 ?_
    refine kk_iload_n hm.1 1 dX9_could_17 rfl rfl ?_
    refine kk_aload_n hm.1 0 dX9_could_18 rfl rfl ?_
    refine kk_getR hm.1 ff_X9_10 dX9_could_19 h0 ?_
    obtain ⟨o22, h⟩ := h
    refine kk_getR hm.1 ff_X9_117 dX9_could_22 o22 ?_
    refine kk_iconst (v := (2 : Int32)) hm.1 dX9_could_25 (by decide) ?_
    obtain ⟨o26, h⟩ := h
    refine kk_aaload hm.1 5 (by decide) (by decide) rfl rfl dX9_could_26 o26 ?_
    obtain ⟨o27, h⟩ := h
    refine kk_callVi (cs' := 0) (sl' := 0) (st := []) hm.1 cv_X9_187 (t_X0_coloursFor o27 h) dX9_could_27 o27 rfl rfl hm.2.2.1 ⟨by decide, by decide⟩ ⟨by decide, by decide⟩ rfl rfl (Nat.le_of_ble_eq_true rfl) rfl ?_
    rintro v27 _ _ _ i27 w27 ⟨rfl, rfl, rfl, h⟩
    exact kk_iret hm.1 hm.2.1 dX9_could_30 ⟨_, rfl, rfl, rfl, h⟩
  · have h := h.2 c4
    refine kk_iconst (v := (-1 : Int32)) hm.1 dX9_could_7 (by decide) ?_
    exact kk_iret hm.1 hm.2.1 dX9_could_8 ⟨_, rfl, rfl, rfl, h⟩
def w_X9_meeting_91 (a0 : Nat) (x1 : Int32) (T : kw_T) (n : Nat) (Q : Int32 → kw_R → kw_I → kw_L → Prop) (k42 : Nat → Int32 → Int32 → Int32 → kw_R → kw_I → kw_L → Prop) (a2 : Nat) (x3 : Int32) (x4 : Int32) (x5 : Int32) (r : kw_R) (i : kw_I) (w : kw_L) : Prop :=
  k42 a2 x3 x4 ((x5 + (1 : Int32))) r i w
def s_X9_meeting_42 (a0 : Nat) (x1 : Int32) (T : kw_T) (n : Nat) (Q : Int32 → kw_R → kw_I → kw_L → Prop)  (k42 : Nat → Int32 → Int32 → Int32 → kw_R → kw_I → kw_L → Prop) (a2 : Nat) (x3 : Int32) (x4 : Int32) (x5 : Int32) (r : kw_R) (i : kw_I) (w : kw_L) : Prop :=
  T ((r a0 0)) = (0, 6) ∧ (((i (r a0 0) 5) ≤ (x5 + (1 : Int32)) → (¬ x1 = 0 → Q x4 r i w) ∧ (x1 = 0 → Q x3 r i w)) ∧ (¬ (i (r a0 0) 5) ≤ (x5 + (1 : Int32)) → T ((r a0 4)) = (0, 5) ∧ (kw_in T 5 (r (r a0 4) 1) x5 ∧ (kw_in T 5 a2 (x5 + (1 : Int32)) ∧ (w_X9_likeness (r (r (r a0 4) 1) (x5).toNatClampNeg) (r a2 ((x5 + (1 : Int32))).toNatClampNeg) T n r i w (fun v72 => (v72 ≤ x4 → w_X9_meeting_91 a0 x1 T n Q k42 a2 x3 x4 x5 r i w) ∧ (¬ v72 ≤ x4 → w_X9_meeting_91 a0 x1 T n Q k42 a2 x5 v72 x5 r i w)))))))
def w_X9_meeting_42 (a0 : Nat) (x1 : Int32) (T : kw_T) (n : Nat) (Q : Int32 → kw_R → kw_I → kw_L → Prop)  : Nat → Nat → Int32 → Int32 → Int32 → kw_R → kw_I → kw_L → Prop
  | 0 => fun _ _ _ _ _ _ _ => False
  | N + 1 => s_X9_meeting_42 a0 x1 T n Q  (w_X9_meeting_42 a0 x1 T n Q  N)
def w_X9_meeting  (a0 : Nat) (x1 : Int32) (T : kw_T) (n : Nat) (r : kw_R) (i : kw_I) (w : kw_L) (Q : Int32 → kw_R → kw_I → kw_L → Prop) : Prop :=
  (x1 < 0 → Q (-1 : Int32) r i w) ∧ (¬ x1 < 0 → ((1 : Int32) < x1 → Q (-1 : Int32) r i w) ∧ (¬ (1 : Int32) < x1 → T ((r a0 0)) = (0, 6) ∧ (((2 : Int32) ≤ (i (r a0 0) 5) → w_X9_weaveIfStale a0 T n r i w (fun r23 i23 w23 => T ((r23 a0 4)) = (0, 5) ∧ (w_X5_backward (r23 a0 4) T n r23 i23 w23 (fun v30 i30 w30 => ∃ N, w_X9_meeting_42 a0 x1 T n Q  N v30 ((0 : Int32)) ((-1 : Int32)) ((0 : Int32)) r23 i30 w30)))) ∧ (¬ (2 : Int32) ≤ (i (r a0 0) 5) → Q (-1 : Int32) r i w))))
abbrev rm_X9_meeting : Room := { frames := 7, cells := 0, slots := 0, locals := 210 }
set_option maxHeartbeats 4000000 in
set_option maxRecDepth 100000 in
theorem q_X9_meeting_91 {a0 : Nat} {x1 : Int32} {T : kw_T} {n : Nat} {Q : Int32 → kw_R → kw_I → kw_L → Prop} {E : kw_E} {G : kw_G} (hm : kw_m E G cX9_meeting 7 RX9 (some .int) rm_X9_meeting "meeting")  (h0 : T a0 = (0, 9))  {k42 : Nat → Int32 → Int32 → Int32 → kw_R → kw_I → kw_L → Prop} (hk42 : ∀ (a2 : Nat) (x3 : Int32) (x4 : Int32) (x5 : Int32) (r : kw_R) (i : kw_I) (w : kw_L), k42 a2 x3 x4 x5 r i w → kw_K E G 7 0 0 (kw_Z E G 0 0 (kw_PI (fun v T' n' r' i' w' => T = T' ∧ n = n' ∧ Q v r' i' w'))) 42 [(0, kw_a a0), (1, kw_i x1), (2, kw_a a2), (3, kw_i x3), (4, kw_i x4), (5, kw_i x5)] [] T n r i w) (a2 : Nat) (x3 : Int32) (x4 : Int32) (x5 : Int32) (r : kw_R) (i : kw_I) (w : kw_L) (h : w_X9_meeting_91 a0 x1 T n Q k42 a2 x3 x4 x5 r i w) : kw_K E G 7 0 0 (kw_Z E G 0 0 (kw_PI (fun v T' n' r' i' w' => T = T' ∧ n = n' ∧ Q v r' i' w'))) 91 [(0, kw_a a0), (1, kw_i x1), (2, kw_a a2), (3, kw_i x3), (4, kw_i x4), (5, kw_i x5)] [] T n r i w := by
  refine kk_iinc (v := (x5 + (1 : Int32))) (L' := [(5, kw_i (x5 + (1 : Int32))), (0, kw_a a0), (1, kw_i x1), (2, kw_a a2), (3, kw_i x3), (4, kw_i x4)]) hm.1 5 dX9_meeting_91 rfl rfl (by decide) rfl ?_
  refine kk_goto (tgt := 42) hm.1 dX9_meeting_94 (by decide) ?_
  refine kk_loc (L' := [(0, kw_a a0), (1, kw_i x1), (2, kw_a a2), (3, kw_i x3), (4, kw_i x4), (5, kw_i (x5 + (1 : Int32)))]) [1, 2, 3, 4, 5, 0] rfl ?_
  exact hk42 a2 x3 x4 ((x5 + (1 : Int32))) r i w h
set_option maxHeartbeats 4000000 in
set_option maxRecDepth 100000 in
theorem qs_X9_meeting_42 {a0 : Nat} {x1 : Int32} {T : kw_T} {n : Nat} {Q : Int32 → kw_R → kw_I → kw_L → Prop} {E : kw_E} {G : kw_G} (hm : kw_m E G cX9_meeting 7 RX9 (some .int) rm_X9_meeting "meeting")  (h0 : T a0 = (0, 9))    {k42 : Nat → Int32 → Int32 → Int32 → kw_R → kw_I → kw_L → Prop} (hk42 : ∀ (a2 : Nat) (x3 : Int32) (x4 : Int32) (x5 : Int32) (r : kw_R) (i : kw_I) (w : kw_L), k42 a2 x3 x4 x5 r i w → kw_K E G 7 0 0 (kw_Z E G 0 0 (kw_PI (fun v T' n' r' i' w' => T = T' ∧ n = n' ∧ Q v r' i' w'))) 42 [(0, kw_a a0), (1, kw_i x1), (2, kw_a a2), (3, kw_i x3), (4, kw_i x4), (5, kw_i x5)] [] T n r i w) (a2 : Nat) (x3 : Int32) (x4 : Int32) (x5 : Int32) (r : kw_R) (i : kw_I) (w : kw_L) (h : s_X9_meeting_42 a0 x1 T n Q  k42 a2 x3 x4 x5 r i w) : kw_K E G 7 0 0 (kw_Z E G 0 0 (kw_PI (fun v T' n' r' i' w' => T = T' ∧ n = n' ∧ Q v r' i' w'))) 42 [(0, kw_a a0), (1, kw_i x1), (2, kw_a a2), (3, kw_i x3), (4, kw_i x4), (5, kw_i x5)] [] T n r i w := by
  refine kk_iload hm.1 5 dX9_meeting_42 rfl ?_
  refine kk_iconst (v := (1 : Int32)) hm.1 dX9_meeting_44 (by decide) ?_
  refine kk_iadd hm.1 dX9_meeting_45 ?_
  refine kk_aload_n hm.1 0 dX9_meeting_46 rfl rfl ?_
  refine kk_getR hm.1 ff_X9_10 dX9_meeting_47 h0 ?_
  obtain ⟨o50, h⟩ := h
  refine kk_getI hm.1 ff_X9_90 dX9_meeting_50 o50 ?_
  refine kk_icmp_ge (tgt := 97) hm.1 dX9_meeting_53 (by decide) (fun c53 => ?_) (fun c53 => ?_)
  · have h := h.1 c53
    refine kk_iload_n hm.1 1 dX9_meeting_97 rfl rfl ?_
    refine kk_if_ne (tgt := 105) hm.1 dX9_meeting_98 (by decide) (fun c98 => ?_) (fun c98 => ?_)
    · have h := h.1 c98
      refine kk_iload hm.1 4 dX9_meeting_105 rfl ?_
      exact kk_iret hm.1 hm.2.1 dX9_meeting_107 ⟨_, rfl, rfl, rfl, h⟩
    · have h := h.2 c98
      refine kk_iload_n hm.1 3 dX9_meeting_101 rfl rfl ?_
      refine kk_goto (tgt := 107) hm.1 dX9_meeting_102 (by decide) ?_
      exact kk_iret hm.1 hm.2.1 dX9_meeting_107 ⟨_, rfl, rfl, rfl, h⟩
  · have h := h.2 c53
    refine kk_aload_n hm.1 0 dX9_meeting_56 rfl rfl ?_
    refine kk_getR hm.1 ff_X9_37 dX9_meeting_57 h0 ?_
    obtain ⟨o60, h⟩ := h
    refine kk_getR hm.1 ff_X9_165 dX9_meeting_60 o60 ?_
    refine kk_iload hm.1 5 dX9_meeting_63 rfl ?_
    obtain ⟨o65, h⟩ := h
    refine kk_aaload hm.1 5 (by decide) (by decide) rfl rfl dX9_meeting_65 o65 ?_
    refine kk_aload_n hm.1 2 dX9_meeting_66 rfl rfl ?_
    refine kk_iload hm.1 5 dX9_meeting_67 rfl ?_
    refine kk_iconst (v := (1 : Int32)) hm.1 dX9_meeting_69 (by decide) ?_
    refine kk_iadd hm.1 dX9_meeting_70 ?_
    obtain ⟨o71, h⟩ := h
    refine kk_aaload hm.1 5 (by decide) (by decide) rfl rfl dX9_meeting_71 o71 ?_
    refine kk_callSi (cs' := 0) (sl' := 0) (st := []) hm.1 cs_X9_179 (t_X9_likeness h) dX9_meeting_72 rfl hm.2.2.1 ⟨by decide, by decide⟩ ⟨by decide, by decide⟩ rfl rfl (Nat.le_of_ble_eq_true rfl) rfl ?_
    rintro v72 _ _ _ _ _ ⟨rfl, rfl, rfl, rfl, rfl, h⟩
    refine kk_istore (L' := [(6, kw_i v72), (0, kw_a a0), (1, kw_i x1), (2, kw_a a2), (3, kw_i x3), (4, kw_i x4), (5, kw_i x5)]) hm.1 dX9_meeting_75 (by decide) rfl ?_
    refine kk_iload hm.1 0 dX9_meeting_77 rfl ?_
    refine kk_iload hm.1 5 dX9_meeting_79 rfl ?_
    refine kk_icmp_le (tgt := 91) hm.1 dX9_meeting_81 (by decide) (fun c81 => ?_) (fun c81 => ?_)
    · have h := h.1 c81
      refine kk_loc (L' := [(0, kw_a a0), (1, kw_i x1), (2, kw_a a2), (3, kw_i x3), (4, kw_i x4), (5, kw_i x5)]) [1, 2, 3, 4, 5, 6] rfl ?_
      exact q_X9_meeting_91 hm  h0  hk42 a2 x3 x4 x5 r i w h
    · have h := h.2 c81
      refine kk_iload hm.1 0 dX9_meeting_84 rfl ?_
      refine kk_istore (L' := [(4, kw_i v72), (6, kw_i v72), (0, kw_a a0), (1, kw_i x1), (2, kw_a a2), (3, kw_i x3), (5, kw_i x5)]) hm.1 dX9_meeting_86 (by decide) rfl ?_
      refine kk_iload hm.1 6 dX9_meeting_88 rfl ?_
      refine kk_istore_n (L' := [(3, kw_i x5), (4, kw_i v72), (6, kw_i v72), (0, kw_a a0), (1, kw_i x1), (2, kw_a a2), (5, kw_i x5)]) hm.1 dX9_meeting_90 rfl (by decide) rfl ?_
      refine kk_loc (L' := [(0, kw_a a0), (1, kw_i x1), (2, kw_a a2), (3, kw_i x5), (4, kw_i v72), (5, kw_i x5)]) [3, 4, 5, 0, 1, 6] rfl ?_
      exact q_X9_meeting_91 hm  h0  hk42 a2 x5 v72 x5 r i w h
set_option maxHeartbeats 4000000 in
set_option maxRecDepth 100000 in
theorem q_X9_meeting_42 {a0 : Nat} {x1 : Int32} {T : kw_T} {n : Nat} {Q : Int32 → kw_R → kw_I → kw_L → Prop} {E : kw_E} {G : kw_G} (hm : kw_m E G cX9_meeting 7 RX9 (some .int) rm_X9_meeting "meeting")  (h0 : T a0 = (0, 9))    : ∀ (N : Nat) (a2 : Nat) (x3 : Int32) (x4 : Int32) (x5 : Int32) (r : kw_R) (i : kw_I) (w : kw_L), w_X9_meeting_42 a0 x1 T n Q  N a2 x3 x4 x5 r i w → kw_K E G 7 0 0 (kw_Z E G 0 0 (kw_PI (fun v T' n' r' i' w' => T = T' ∧ n = n' ∧ Q v r' i' w'))) 42 [(0, kw_a a0), (1, kw_i x1), (2, kw_a a2), (3, kw_i x3), (4, kw_i x4), (5, kw_i x5)] [] T n r i w := by
  intro N
  induction N with
  | zero => intro a2 x3 x4 x5 r i w h; exact h.elim
  | succ N ih => intro a2 x3 x4 x5 r i w h; exact qs_X9_meeting_42 hm  h0  ih a2 x3 x4 x5 r i w h
set_option maxHeartbeats 4000000 in
set_option maxRecDepth 100000 in
theorem t_X9_meeting {l : Launch} {G : kw_G} {a0 : Nat} {x1 : Int32} {T : kw_T} {n : Nat} {r : kw_R} {i : kw_I} {w : kw_L} {Q : Int32 → kw_R → kw_I → kw_L → Prop} (h0 : T a0 = (0, 9)) (h : w_X9_meeting a0 x1 T n r i w Q) : kw_Met l G yX9_meeting cX9_meeting 7 (some .int) rm_X9_meeting [kw_a a0, kw_i x1] (T, n, r, i, w) (kw_PI (fun v T' n' r' i' w' => T = T' ∧ n = n' ∧ Q v r' i' w')) := by
  refine kw_Met.of (by decide) (Nat.le_of_ble_eq_true rfl) fun E hl hRm hE hT hnm => ?_
  have hm : kw_m E G cX9_meeting 7 RX9 (some .int) rm_X9_meeting "meeting" := ⟨hE, hT, hRm, hnm⟩
  subst hl
  show kw_K E G 7 0 0 (kw_Z E G 0 0 (kw_PI (fun v T' n' r' i' w' => T = T' ∧ n = n' ∧ Q v r' i' w'))) 0 [(0, kw_a a0), (1, kw_i x1)] [] T n r i w
  refine kk_iload_n hm.1 1 dX9_meeting_0 rfl rfl ?_
  refine kk_if_lt (tgt := 20) hm.1 dX9_meeting_1 (by decide) (fun c1 => ?_) (fun c1 => ?_)
  · have h := h.1 c1
    refine kk_iconst (v := (-1 : Int32)) hm.1 dX9_meeting_20 (by decide) ?_
    exact kk_iret hm.1 hm.2.1 dX9_meeting_21 ⟨_, rfl, rfl, rfl, h⟩
  · have h := h.2 c1
    refine kk_iload_n hm.1 1 dX9_meeting_4 rfl rfl ?_
    refine kk_iconst (v := (1 : Int32)) hm.1 dX9_meeting_5 (by decide) ?_
    refine kk_icmp_gt (tgt := 20) hm.1 dX9_meeting_6 (by decide) (fun c6 => ?_) (fun c6 => ?_)
    · have h := h.1 c6
      refine kk_iconst (v := (-1 : Int32)) hm.1 dX9_meeting_20 (by decide) ?_
      exact kk_iret hm.1 hm.2.1 dX9_meeting_21 ⟨_, rfl, rfl, rfl, h⟩
    · have h := h.2 c6
      refine kk_aload_n hm.1 0 dX9_meeting_9 rfl rfl ?_
      refine kk_getR hm.1 ff_X9_10 dX9_meeting_10 h0 ?_
      obtain ⟨o13, h⟩ := h
      refine kk_getI hm.1 ff_X9_90 dX9_meeting_13 o13 ?_
      refine kk_iconst (v := (2 : Int32)) hm.1 dX9_meeting_16 (by decide) ?_
      refine kk_icmp_ge (tgt := 22) hm.1 dX9_meeting_17 (by decide) (fun c17 => ?_) (fun c17 => ?_)
      · have h := h.1 c17
        refine kk_aload_n hm.1 0 dX9_meeting_22 rfl rfl ?_
        refine kk_callVv (cs' := 0) (sl' := 0) (st := []) hm.1 cv_X9_162 (t_X9_weaveIfStale h0 h) dX9_meeting_23 h0 rfl rfl hm.2.2.1 ⟨by decide, by decide⟩ ⟨by decide, by decide⟩ rfl rfl (Nat.le_of_ble_eq_true rfl) rfl ?_
        rintro _ _ r23 i23 w23 ⟨rfl, rfl, h⟩
        refine kk_aload_n hm.1 0 dX9_meeting_26 rfl rfl ?_
        refine kk_getR hm.1 ff_X9_37 dX9_meeting_27 h0 ?_
        obtain ⟨o30, h⟩ := h
        refine kk_callVa (cs' := 0) (sl' := 0) (st := []) hm.1 cv_X9_168 (t_X5_backward o30 h) dX9_meeting_30 o30 rfl rfl hm.2.2.1 ⟨by decide, by decide⟩ ⟨by decide, by decide⟩ rfl rfl (Nat.le_of_ble_eq_true rfl) rfl ?_
        rintro v30 _ _ _ i30 w30 ⟨rfl, rfl, rfl, h⟩
        refine kk_astore_n (L' := [(2, kw_a v30), (0, kw_a a0), (1, kw_i x1)]) hm.1 dX9_meeting_33 rfl (by decide) rfl ?_
        refine kk_iconst (v := (0 : Int32)) hm.1 dX9_meeting_34 (by decide) ?_
        refine kk_istore_n (L' := [(3, kw_i (0 : Int32)), (2, kw_a v30), (0, kw_a a0), (1, kw_i x1)]) hm.1 dX9_meeting_35 rfl (by decide) rfl ?_
        refine kk_iconst (v := (-1 : Int32)) hm.1 dX9_meeting_36 (by decide) ?_
        refine kk_istore (L' := [(4, kw_i (-1 : Int32)), (3, kw_i (0 : Int32)), (2, kw_a v30), (0, kw_a a0), (1, kw_i x1)]) hm.1 dX9_meeting_37 (by decide) rfl ?_
        refine kk_iconst (v := (0 : Int32)) hm.1 dX9_meeting_39 (by decide) ?_
        refine kk_istore (L' := [(5, kw_i (0 : Int32)), (4, kw_i (-1 : Int32)), (3, kw_i (0 : Int32)), (2, kw_a v30), (0, kw_a a0), (1, kw_i x1)]) hm.1 dX9_meeting_40 (by decide) rfl ?_
        refine kk_loc (L' := [(0, kw_a a0), (1, kw_i x1), (2, kw_a v30), (3, kw_i (0 : Int32)), (4, kw_i (-1 : Int32)), (5, kw_i (0 : Int32))]) [4, 5, 3, 2, 1, 0] rfl ?_
        obtain ⟨N, h⟩ := h
        exact q_X9_meeting_42 hm  h0   N v30 ((0 : Int32)) ((-1 : Int32)) ((0 : Int32)) r23 i30 w30 h
      · have h := h.2 c17
        refine kk_iconst (v := (-1 : Int32)) hm.1 dX9_meeting_20 (by decide) ?_
        exact kk_iret hm.1 hm.2.1 dX9_meeting_21 ⟨_, rfl, rfl, rfl, h⟩
def w_X9_seams  (a0 : Nat) (x1 : Int32) (T : kw_T) (n : Nat) (r : kw_R) (i : kw_I) (w : kw_L) (Q : Int32 → kw_R → kw_I → kw_L → Prop) : Prop :=
  w_X9_isVillageOrNone a0 x1 T n r i w (fun v2 => (¬ v2 = 0 → w_X9_weaveIfStale a0 T n r i w (fun r11 i11 w11 => T ((r11 a0 4)) = (0, 5) ∧ (w_X5_picture (r11 a0 4) x1 T n r11 i11 w11 (fun v19 => w_X9_seamsOf v19 T n r11 i11 w11 (fun v22 => Q v22 r11 i11 w11))))) ∧ (v2 = 0 → Q (-1 : Int32) r i w))
abbrev rm_X9_seams : Room := { frames := 7, cells := 0, slots := 0, locals := 210 }
set_option maxHeartbeats 4000000 in
set_option maxRecDepth 100000 in
theorem t_X9_seams {l : Launch} {G : kw_G} {a0 : Nat} {x1 : Int32} {T : kw_T} {n : Nat} {r : kw_R} {i : kw_I} {w : kw_L} {Q : Int32 → kw_R → kw_I → kw_L → Prop} (h0 : T a0 = (0, 9)) (h : w_X9_seams a0 x1 T n r i w Q) : kw_Met l G yX9_seams cX9_seams 2 (some .int) rm_X9_seams [kw_a a0, kw_i x1] (T, n, r, i, w) (kw_PI (fun v T' n' r' i' w' => T = T' ∧ n = n' ∧ Q v r' i' w')) := by
  refine kw_Met.of (by decide) (Nat.le_of_ble_eq_true rfl) fun E hl hRm hE hT hnm => ?_
  have hm : kw_m E G cX9_seams 2 RX9 (some .int) rm_X9_seams "seams" := ⟨hE, hT, hRm, hnm⟩
  subst hl
  show kw_K E G 2 0 0 (kw_Z E G 0 0 (kw_PI (fun v T' n' r' i' w' => T = T' ∧ n = n' ∧ Q v r' i' w'))) 0 [(0, kw_a a0), (1, kw_i x1)] [] T n r i w
  refine kk_aload_n hm.1 0 dX9_seams_0 rfl rfl ?_
  refine kk_iload_n hm.1 1 dX9_seams_1 rfl rfl ?_
  refine kk_callVi (cs' := 0) (sl' := 0) (st := []) hm.1 cv_X9_172 (t_X9_isVillageOrNone h0 h) dX9_seams_2 h0 rfl rfl hm.2.2.1 ⟨by decide, by decide⟩ ⟨by decide, by decide⟩ rfl rfl (Nat.le_of_ble_eq_true rfl) rfl ?_
  rintro v2 _ _ _ _ _ ⟨rfl, rfl, rfl, rfl, rfl, h⟩
  refine kk_if_ne (tgt := 10) hm.1 dX9_seams_5 (by decide) (fun c5 => ?_) (fun c5 => ?_)
  · have h := h.1 c5
    refine kk_aload_n hm.1 0 dX9_seams_10 rfl rfl ?_
    refine kk_callVv (cs' := 0) (sl' := 0) (st := []) hm.1 cv_X9_162 (t_X9_weaveIfStale h0 h) dX9_seams_11 h0 rfl rfl hm.2.2.1 ⟨by decide, by decide⟩ ⟨by decide, by decide⟩ rfl rfl (Nat.le_of_ble_eq_true rfl) rfl ?_
    rintro _ _ r11 i11 w11 ⟨rfl, rfl, h⟩
    refine kk_aload_n hm.1 0 dX9_seams_14 rfl rfl ?_
    refine kk_getR hm.1 ff_X9_37 dX9_seams_15 h0 ?_
    refine kk_iload_n hm.1 1 dX9_seams_18 rfl rfl ?_
    obtain ⟨o19, h⟩ := h
    refine kk_callVa (cs' := 0) (sl' := 0) (st := []) hm.1 cv_X9_175 (t_X5_picture o19 h) dX9_seams_19 o19 rfl rfl hm.2.2.1 ⟨by decide, by decide⟩ ⟨by decide, by decide⟩ rfl rfl (Nat.le_of_ble_eq_true rfl) rfl ?_
    rintro v19 _ _ _ _ _ ⟨rfl, rfl, rfl, rfl, rfl, h⟩
    refine kk_callSi (cs' := 0) (sl' := 0) (st := []) hm.1 cs_X9_217 (t_X9_seamsOf h) dX9_seams_22 rfl hm.2.2.1 ⟨by decide, by decide⟩ ⟨by decide, by decide⟩ rfl rfl (Nat.le_of_ble_eq_true rfl) rfl ?_
    rintro v22 _ _ _ _ _ ⟨rfl, rfl, rfl, rfl, rfl, h⟩
    exact kk_iret hm.1 hm.2.1 dX9_seams_25 ⟨_, rfl, rfl, rfl, h⟩
  · have h := h.2 c5
    refine kk_iconst (v := (-1 : Int32)) hm.1 dX9_seams_8 (by decide) ?_
    exact kk_iret hm.1 hm.2.1 dX9_seams_9 ⟨_, rfl, rfl, rfl, h⟩
def w_X9_mend  (a0 : Nat) (x1 : Int32) (x2 : Int32) (x3 : Int32) (x4 : Int32) (x5 : Int32) (x6 : Int32) (T : kw_T) (n : Nat) (r : kw_R) (i : kw_I) (w : kw_L) (Q : Int32 → kw_R → kw_I → kw_L → Prop) : Prop :=
  T ((r a0 6)) = (0, 3) ∧ (w_X3_takeCells (r a0 6) x1 x2 x3 x4 x5 T n r i w (fun v11 i11 => (¬ v11 = 0 → (x6 < 0 → Q (-1 : Int32) r i11 w) ∧ (¬ x6 < 0 → (x6 ≤ (i11 (r a0 6) 5) → w_X9_weaveIfStale a0 T n r i11 w (fun r39 i39 w39 => T ((r39 a0 4)) = (0, 5) ∧ (w_X5_last (r39 a0 4) T n r39 i39 w39 (fun v50 => T ((r39 a0 6)) = (0, 3) ∧ (w_X3_mendAll (r39 a0 6) v50 T n r39 i39 w39 (fun i53 => (¬ x6 = 0 → kw_in T 1 (r39 (r39 a0 6) 3) (x6 - (1 : Int32)) ∧ (Q (i53 (r39 (r39 a0 6) 3) ((x6 - (1 : Int32))).toNatClampNeg) r39 i53 w39)) ∧ (x6 = 0 → Q (i53 (r39 a0 6) 6) r39 i53 w39))))))) ∧ (¬ x6 ≤ (i11 (r a0 6) 5) → Q (-1 : Int32) r i11 w))) ∧ (v11 = 0 → Q (-1 : Int32) r i11 w)))
abbrev rm_X9_mend : Room := { frames := 65, cells := 0, slots := 0, locals := 3150 }
set_option maxHeartbeats 4000000 in
set_option maxRecDepth 100000 in
theorem t_X9_mend {l : Launch} {G : kw_G} {a0 : Nat} {x1 : Int32} {x2 : Int32} {x3 : Int32} {x4 : Int32} {x5 : Int32} {x6 : Int32} {T : kw_T} {n : Nat} {r : kw_R} {i : kw_I} {w : kw_L} {Q : Int32 → kw_R → kw_I → kw_L → Prop} (h0 : T a0 = (0, 9)) (h : w_X9_mend a0 x1 x2 x3 x4 x5 x6 T n r i w Q) : kw_Met l G yX9_mend cX9_mend 7 (some .int) rm_X9_mend [kw_a a0, kw_i x1, kw_i x2, kw_i x3, kw_i x4, kw_i x5, kw_i x6] (T, n, r, i, w) (kw_PI (fun v T' n' r' i' w' => T = T' ∧ n = n' ∧ Q v r' i' w')) := by
  refine kw_Met.of (by decide) (Nat.le_of_ble_eq_true rfl) fun E hl hRm hE hT hnm => ?_
  have hm : kw_m E G cX9_mend 7 RX9 (some .int) rm_X9_mend "mend" := ⟨hE, hT, hRm, hnm⟩
  subst hl
  show kw_K E G 7 0 0 (kw_Z E G 0 0 (kw_PI (fun v T' n' r' i' w' => T = T' ∧ n = n' ∧ Q v r' i' w'))) 0 [(0, kw_a a0), (1, kw_i x1), (2, kw_i x2), (3, kw_i x3), (4, kw_i x4), (5, kw_i x5), (6, kw_i x6)] [] T n r i w
  refine kk_aload_n hm.1 0 dX9_mend_0 rfl rfl ?_
  refine kk_getR hm.1 ff_X9_53 dX9_mend_1 h0 ?_
  refine kk_iload_n hm.1 1 dX9_mend_4 rfl rfl ?_
  refine kk_iload_n hm.1 2 dX9_mend_5 rfl rfl ?_
  refine kk_iload_n hm.1 3 dX9_mend_6 rfl rfl ?_
  refine kk_iload hm.1 4 dX9_mend_7 rfl ?_
  refine kk_iload hm.1 5 dX9_mend_9 rfl ?_
  obtain ⟨o11, h⟩ := h
  refine kk_callVi (cs' := 0) (sl' := 0) (st := []) hm.1 cv_X9_221 (t_X3_takeCells o11 h) dX9_mend_11 o11 rfl rfl hm.2.2.1 ⟨by decide, by decide⟩ ⟨by decide, by decide⟩ rfl rfl (Nat.le_of_ble_eq_true rfl) rfl ?_
  rintro v11 _ _ _ i11 _ ⟨rfl, rfl, rfl, rfl, h⟩
  refine kk_if_ne (tgt := 19) hm.1 dX9_mend_14 (by decide) (fun c14 => ?_) (fun c14 => ?_)
  · have h := h.1 c14
    refine kk_iload hm.1 6 dX9_mend_19 rfl ?_
    refine kk_if_lt (tgt := 36) hm.1 dX9_mend_21 (by decide) (fun c21 => ?_) (fun c21 => ?_)
    · have h := h.1 c21
      refine kk_iconst (v := (-1 : Int32)) hm.1 dX9_mend_36 (by decide) ?_
      exact kk_iret hm.1 hm.2.1 dX9_mend_37 ⟨_, rfl, rfl, rfl, h⟩
    · have h := h.2 c21
      refine kk_iload hm.1 6 dX9_mend_24 rfl ?_
      refine kk_aload_n hm.1 0 dX9_mend_26 rfl rfl ?_
      refine kk_getR hm.1 ff_X9_53 dX9_mend_27 h0 ?_
      refine kk_getI hm.1 ff_X9_225 dX9_mend_30 o11 ?_
      refine kk_icmp_le (tgt := 38) hm.1 dX9_mend_33 (by decide) (fun c33 => ?_) (fun c33 => ?_)
      · have h := h.1 c33
        refine kk_aload_n hm.1 0 dX9_mend_38 rfl rfl ?_
        refine kk_callVv (cs' := 0) (sl' := 0) (st := []) hm.1 cv_X9_162 (t_X9_weaveIfStale h0 h) dX9_mend_39 h0 rfl rfl hm.2.2.1 ⟨by decide, by decide⟩ ⟨by decide, by decide⟩ rfl rfl (Nat.le_of_ble_eq_true rfl) rfl ?_
        rintro _ _ r39 i39 w39 ⟨rfl, rfl, h⟩
        refine kk_aload_n hm.1 0 dX9_mend_42 rfl rfl ?_
        refine kk_getR hm.1 ff_X9_53 dX9_mend_43 h0 ?_
        refine kk_aload_n hm.1 0 dX9_mend_46 rfl rfl ?_
        refine kk_getR hm.1 ff_X9_37 dX9_mend_47 h0 ?_
        obtain ⟨o50, h⟩ := h
        refine kk_callVa (cs' := 0) (sl' := 0) (st := [kw_a (r39 a0 6)]) hm.1 cv_X9_183 (t_X5_last o50 h) dX9_mend_50 o50 rfl rfl hm.2.2.1 ⟨by decide, by decide⟩ ⟨by decide, by decide⟩ rfl rfl (Nat.le_of_ble_eq_true rfl) rfl ?_
        rintro v50 _ _ _ _ _ ⟨rfl, rfl, rfl, rfl, rfl, h⟩
        obtain ⟨o53, h⟩ := h
        refine kk_callVv (cs' := 0) (sl' := 0) (st := []) hm.1 cv_X9_228 (t_X3_mendAll o53 h) dX9_mend_53 o53 rfl rfl hm.2.2.1 ⟨by decide, by decide⟩ ⟨by decide, by decide⟩ rfl rfl (Nat.le_of_ble_eq_true rfl) rfl ?_
        rintro _ _ _ i53 _ ⟨rfl, rfl, rfl, rfl, h⟩
        refine kk_iload hm.1 6 dX9_mend_56 rfl ?_
        refine kk_if_ne (tgt := 71) hm.1 dX9_mend_58 (by decide) (fun c58 => ?_) (fun c58 => ?_)
        · have h := h.1 c58
          refine kk_aload_n hm.1 0 dX9_mend_71 rfl rfl ?_
          refine kk_getR hm.1 ff_X9_53 dX9_mend_72 h0 ?_
          refine kk_getR hm.1 ff_X9_235 dX9_mend_75 o53 ?_
          refine kk_iload hm.1 6 dX9_mend_78 rfl ?_
          refine kk_iconst (v := (1 : Int32)) hm.1 dX9_mend_80 (by decide) ?_
          refine kk_isub hm.1 dX9_mend_81 ?_
          obtain ⟨o82, h⟩ := h
          refine kk_iaload hm.1 dX9_mend_82 o82 ?_
          exact kk_iret hm.1 hm.2.1 dX9_mend_83 ⟨_, rfl, rfl, rfl, h⟩
        · have h := h.2 c58
          refine kk_aload_n hm.1 0 dX9_mend_61 rfl rfl ?_
          refine kk_getR hm.1 ff_X9_53 dX9_mend_62 h0 ?_
          refine kk_getI hm.1 ff_X9_232 dX9_mend_65 o53 ?_
          refine kk_goto (tgt := 83) hm.1 dX9_mend_68 (by decide) ?_
          exact kk_iret hm.1 hm.2.1 dX9_mend_83 ⟨_, rfl, rfl, rfl, h⟩
      · have h := h.2 c33
        refine kk_iconst (v := (-1 : Int32)) hm.1 dX9_mend_36 (by decide) ?_
        exact kk_iret hm.1 hm.2.1 dX9_mend_37 ⟨_, rfl, rfl, rfl, h⟩
  · have h := h.2 c14
    refine kk_iconst (v := (-1 : Int32)) hm.1 dX9_mend_17 (by decide) ?_
    exact kk_iret hm.1 hm.2.1 dX9_mend_18 ⟨_, rfl, rfl, rfl, h⟩
def w_X9_weavers_10 (a0 : Nat) (x1 : Int32) (T : kw_T) (n : Nat) (Q : Int32 → kw_R → kw_I → kw_L → Prop)  (r : kw_R) (i : kw_I) (w : kw_L) : Prop :=
  w_X9_refuse a0 (-1 : Int32) T n r i w (fun v12 i12 => Q v12 r i12 w)
def w_X9_weavers  (a0 : Nat) (x1 : Int32) (T : kw_T) (n : Nat) (r : kw_R) (i : kw_I) (w : kw_L) (Q : Int32 → kw_R → kw_I → kw_L → Prop) : Prop :=
  (x1 < 0 → w_X9_weavers_10 a0 x1 T n Q  r i w) ∧ (¬ x1 < 0 → (x1 ≤ (1000000 : Int32) → w_X9_weaveIfStale a0 T n r i w (fun r17 i17 w17 => T ((r17 a0 4)) = (0, 5) ∧ (T ((r17 a0 7)) = (0, 8) ∧ (w_X8_weaveAll (r17 a0 7) (r17 (r17 a0 4) 0) (r17 a0 0) x1 T n r17 i17 w17 (fun v36 i36 w36 => T ((r17 a0 0)) = (0, 6) ∧ (kw_in T 5 (r17 (r17 a0 0) 1) (0 : Int32) ∧ (w_X9_likeness v36 (r17 (r17 (r17 a0 0) 1) ((0 : Int32)).toNatClampNeg) T n r17 i36 w36 (fun v51 => w_X9_allow a0 v51 T n r17 i36 w36 (fun v54 i54 => Q v54 r17 i54 w36))))))))) ∧ (¬ x1 ≤ (1000000 : Int32) → w_X9_weavers_10 a0 x1 T n Q  r i w))
abbrev rm_X9_weavers : Room := { frames := 7, cells := 0, slots := 0, locals := 210 }
set_option maxHeartbeats 4000000 in
set_option maxRecDepth 100000 in
theorem q_X9_weavers_10 {a0 : Nat} {x1 : Int32} {T : kw_T} {n : Nat} {Q : Int32 → kw_R → kw_I → kw_L → Prop} {E : kw_E} {G : kw_G} (hm : kw_m E G cX9_weavers 3 RX9 (some .int) rm_X9_weavers "weavers")  (h0 : T a0 = (0, 9))    (r : kw_R) (i : kw_I) (w : kw_L) (h : w_X9_weavers_10 a0 x1 T n Q  r i w) : kw_K E G 3 0 0 (kw_Z E G 0 0 (kw_PI (fun v T' n' r' i' w' => T = T' ∧ n = n' ∧ Q v r' i' w'))) 10 [(0, kw_a a0), (1, kw_i x1)] [] T n r i w := by
  refine kk_aload_n hm.1 0 dX9_weavers_10 rfl rfl ?_
  refine kk_iconst (v := (-1 : Int32)) hm.1 dX9_weavers_11 (by decide) ?_
  refine kk_callVi (cs' := 0) (sl' := 0) (st := []) hm.1 cv_X9_86 (t_X9_refuse h0 h) dX9_weavers_12 h0 rfl rfl hm.2.2.1 ⟨by decide, by decide⟩ ⟨by decide, by decide⟩ rfl rfl (Nat.le_of_ble_eq_true rfl) rfl ?_
  rintro v12 _ _ _ i12 _ ⟨rfl, rfl, rfl, rfl, h⟩
  exact kk_iret hm.1 hm.2.1 dX9_weavers_15 ⟨_, rfl, rfl, rfl, h⟩
set_option maxHeartbeats 4000000 in
set_option maxRecDepth 100000 in
theorem t_X9_weavers {l : Launch} {G : kw_G} {a0 : Nat} {x1 : Int32} {T : kw_T} {n : Nat} {r : kw_R} {i : kw_I} {w : kw_L} {Q : Int32 → kw_R → kw_I → kw_L → Prop} (h0 : T a0 = (0, 9)) (h : w_X9_weavers a0 x1 T n r i w Q) : kw_Met l G yX9_weavers cX9_weavers 3 (some .int) rm_X9_weavers [kw_a a0, kw_i x1] (T, n, r, i, w) (kw_PI (fun v T' n' r' i' w' => T = T' ∧ n = n' ∧ Q v r' i' w')) := by
  refine kw_Met.of (by decide) (Nat.le_of_ble_eq_true rfl) fun E hl hRm hE hT hnm => ?_
  have hm : kw_m E G cX9_weavers 3 RX9 (some .int) rm_X9_weavers "weavers" := ⟨hE, hT, hRm, hnm⟩
  subst hl
  show kw_K E G 3 0 0 (kw_Z E G 0 0 (kw_PI (fun v T' n' r' i' w' => T = T' ∧ n = n' ∧ Q v r' i' w'))) 0 [(0, kw_a a0), (1, kw_i x1)] [] T n r i w
  refine kk_iload_n hm.1 1 dX9_weavers_0 rfl rfl ?_
  refine kk_if_lt (tgt := 10) hm.1 dX9_weavers_1 (by decide) (fun c1 => ?_) (fun c1 => ?_)
  · have h := h.1 c1
    exact q_X9_weavers_10 hm  h0   r i w h
  · have h := h.2 c1
    refine kk_iload_n hm.1 1 dX9_weavers_4 rfl rfl ?_
    refine kk_ldc (v := (1000000 : Int32)) hm.1 dX9_weavers_5 wc_X9_238 ?_
    refine kk_icmp_le (tgt := 16) hm.1 dX9_weavers_7 (by decide) (fun c7 => ?_) (fun c7 => ?_)
    · have h := h.1 c7
      refine kk_aload_n hm.1 0 dX9_weavers_16 rfl rfl ?_
      refine kk_callVv (cs' := 0) (sl' := 0) (st := []) hm.1 cv_X9_162 (t_X9_weaveIfStale h0 h) dX9_weavers_17 h0 rfl rfl hm.2.2.1 ⟨by decide, by decide⟩ ⟨by decide, by decide⟩ rfl rfl (Nat.le_of_ble_eq_true rfl) rfl ?_
      rintro _ _ r17 i17 w17 ⟨rfl, rfl, h⟩
      refine kk_aload_n hm.1 0 dX9_weavers_20 rfl rfl ?_
      refine kk_getR hm.1 ff_X9_60 dX9_weavers_21 h0 ?_
      refine kk_aload_n hm.1 0 dX9_weavers_24 rfl rfl ?_
      refine kk_getR hm.1 ff_X9_37 dX9_weavers_25 h0 ?_
      obtain ⟨o28, h⟩ := h
      refine kk_getR hm.1 ff_X9_239 dX9_weavers_28 o28 ?_
      refine kk_aload_n hm.1 0 dX9_weavers_31 rfl rfl ?_
      refine kk_getR hm.1 ff_X9_10 dX9_weavers_32 h0 ?_
      refine kk_iload_n hm.1 1 dX9_weavers_35 rfl rfl ?_
      obtain ⟨o36, h⟩ := h
      refine kk_callVa (cs' := 0) (sl' := 0) (st := []) hm.1 cv_X9_243 (t_X8_weaveAll o36 h) dX9_weavers_36 o36 rfl rfl hm.2.2.1 ⟨by decide, by decide⟩ ⟨by decide, by decide⟩ rfl rfl (Nat.le_of_ble_eq_true rfl) rfl ?_
      rintro v36 _ _ _ i36 w36 ⟨rfl, rfl, rfl, h⟩
      refine kk_astore_n (L' := [(2, kw_a v36), (0, kw_a a0), (1, kw_i x1)]) hm.1 dX9_weavers_39 rfl (by decide) rfl ?_
      refine kk_aload_n hm.1 1 dX9_weavers_40 rfl rfl ?_
      refine kk_aload_n hm.1 0 dX9_weavers_41 rfl rfl ?_
      refine kk_aload_n hm.1 1 dX9_weavers_42 rfl rfl ?_
      refine kk_getR hm.1 ff_X9_10 dX9_weavers_43 h0 ?_
      obtain ⟨o46, h⟩ := h
      refine kk_getR hm.1 ff_X9_117 dX9_weavers_46 o46 ?_
      refine kk_iconst (v := (0 : Int32)) hm.1 dX9_weavers_49 (by decide) ?_
      obtain ⟨o50, h⟩ := h
      refine kk_aaload hm.1 5 (by decide) (by decide) rfl rfl dX9_weavers_50 o50 ?_
      refine kk_callSi (cs' := 0) (sl' := 0) (st := [kw_a a0]) hm.1 cs_X9_179 (t_X9_likeness h) dX9_weavers_51 rfl hm.2.2.1 ⟨by decide, by decide⟩ ⟨by decide, by decide⟩ rfl rfl (Nat.le_of_ble_eq_true rfl) rfl ?_
      rintro v51 _ _ _ _ _ ⟨rfl, rfl, rfl, rfl, rfl, h⟩
      refine kk_callVi (cs' := 0) (sl' := 0) (st := []) hm.1 cv_X9_123 (t_X9_allow h0 h) dX9_weavers_54 h0 rfl rfl hm.2.2.1 ⟨by decide, by decide⟩ ⟨by decide, by decide⟩ rfl rfl (Nat.le_of_ble_eq_true rfl) rfl ?_
      rintro v54 _ _ _ i54 _ ⟨rfl, rfl, rfl, rfl, h⟩
      exact kk_iret hm.1 hm.2.1 dX9_weavers_57 ⟨_, rfl, rfl, rfl, h⟩
    · have h := h.2 c7
      exact q_X9_weavers_10 hm  h0   r i w h
def w_X9_drawn  (a0 : Nat) (x1 : Int32) (x2 : Int32) (T : kw_T) (n : Nat) (r : kw_R) (i : kw_I) (w : kw_L) (Q : Int32 → Prop) : Prop :=
  (x1 < 0 → Q (-1 : Int32)) ∧ (¬ x1 < 0 → T ((r a0 7)) = (0, 8) ∧ ((x1 < (i (r a0 7) 2) → (¬ x2 = (-1 : Int32) → w_X9_isCell x2 T n r i w (fun v33 => (v33 = 0 → Q (-1 : Int32)) ∧ (¬ v33 = 0 → kw_in T 5 (r (r a0 7) 0) x1 ∧ (kw_in T 1 (r (r (r a0 7) 0) (x1).toNatClampNeg) x2 ∧ (Q (i (r (r (r a0 7) 0) (x1).toNatClampNeg) (x2).toNatClampNeg)))))) ∧ (x2 = (-1 : Int32) → kw_in T 1 (r (r a0 7) 1) x1 ∧ (Q (i (r (r a0 7) 1) (x1).toNatClampNeg)))) ∧ (¬ x1 < (i (r a0 7) 2) → Q (-1 : Int32))))
abbrev rm_X9_drawn : Room := { frames := 2, cells := 0, slots := 0, locals := 80 }
set_option maxHeartbeats 4000000 in
set_option maxRecDepth 100000 in
theorem t_X9_drawn {l : Launch} {G : kw_G} {a0 : Nat} {x1 : Int32} {x2 : Int32} {T : kw_T} {n : Nat} {r : kw_R} {i : kw_I} {w : kw_L} {Q : Int32 → Prop} (h0 : T a0 = (0, 9)) (h : w_X9_drawn a0 x1 x2 T n r i w Q) : kw_Met l G yX9_drawn cX9_drawn 3 (some .int) rm_X9_drawn [kw_a a0, kw_i x1, kw_i x2] (T, n, r, i, w) (kw_PI (fun v T' n' r' i' w' => T = T' ∧ n = n' ∧ r = r' ∧ i = i' ∧ w = w' ∧ Q v)) := by
  refine kw_Met.of (by decide) (Nat.le_of_ble_eq_true rfl) fun E hl hRm hE hT hnm => ?_
  have hm : kw_m E G cX9_drawn 3 RX9 (some .int) rm_X9_drawn "drawn" := ⟨hE, hT, hRm, hnm⟩
  subst hl
  show kw_K E G 3 0 0 (kw_Z E G 0 0 (kw_PI (fun v T' n' r' i' w' => T = T' ∧ n = n' ∧ r = r' ∧ i = i' ∧ w = w' ∧ Q v))) 0 [(0, kw_a a0), (1, kw_i x1), (2, kw_i x2)] [] T n r i w
  refine kk_iload_n hm.1 1 dX9_drawn_0 rfl rfl ?_
  refine kk_if_lt (tgt := 15) hm.1 dX9_drawn_1 (by decide) (fun c1 => ?_) (fun c1 => ?_)
  · have h := h.1 c1
    refine kk_iconst (v := (-1 : Int32)) hm.1 dX9_drawn_15 (by decide) ?_
    exact kk_iret hm.1 hm.2.1 dX9_drawn_16 ⟨_, rfl, rfl, rfl, rfl, rfl, rfl, h⟩
  · have h := h.2 c1
    refine kk_iload_n hm.1 1 dX9_drawn_4 rfl rfl ?_
    refine kk_aload_n hm.1 0 dX9_drawn_5 rfl rfl ?_
    refine kk_getR hm.1 ff_X9_60 dX9_drawn_6 h0 ?_
    obtain ⟨o9, h⟩ := h
    refine kk_getI hm.1 ff_X9_247 dX9_drawn_9 o9 ?_
    refine kk_icmp_lt (tgt := 17) hm.1 dX9_drawn_12 (by decide) (fun c12 => ?_) (fun c12 => ?_)
    · have h := h.1 c12
      refine kk_iload_n hm.1 2 dX9_drawn_17 rfl rfl ?_
      refine kk_iconst (v := (-1 : Int32)) hm.1 dX9_drawn_18 (by decide) ?_
      refine kk_icmp_ne (tgt := 32) hm.1 dX9_drawn_19 (by decide) (fun c19 => ?_) (fun c19 => ?_)
      · have h := h.1 c19
        refine kk_iload_n hm.1 2 dX9_drawn_32 rfl rfl ?_
        refine kk_callSi (cs' := 0) (sl' := 0) (st := []) hm.1 cs_X9_114 (t_X9_isCell h) dX9_drawn_33 rfl hm.2.2.1 ⟨by decide, by decide⟩ ⟨by decide, by decide⟩ rfl rfl (Nat.le_of_ble_eq_true rfl) rfl ?_
        rintro v33 _ _ _ _ _ ⟨rfl, rfl, rfl, rfl, rfl, h⟩
        refine kk_if_eq (tgt := 53) hm.1 dX9_drawn_36 (by decide) (fun c36 => ?_) (fun c36 => ?_)
        · have h := h.1 c36
          refine kk_iconst (v := (-1 : Int32)) hm.1 dX9_drawn_53 (by decide) ?_
          exact kk_iret hm.1 hm.2.1 dX9_drawn_54 ⟨_, rfl, rfl, rfl, rfl, rfl, rfl, h⟩
        · have h := h.2 c36
          refine kk_aload_n hm.1 0 dX9_drawn_39 rfl rfl ?_
          refine kk_getR hm.1 ff_X9_60 dX9_drawn_40 h0 ?_
          refine kk_getR hm.1 ff_X9_251 dX9_drawn_43 o9 ?_
          refine kk_iload_n hm.1 1 dX9_drawn_46 rfl rfl ?_
          obtain ⟨o47, h⟩ := h
          refine kk_aaload hm.1 5 (by decide) (by decide) rfl rfl dX9_drawn_47 o47 ?_
          refine kk_iload_n hm.1 2 dX9_drawn_48 rfl rfl ?_
          obtain ⟨o49, h⟩ := h
          refine kk_iaload hm.1 dX9_drawn_49 o49 ?_
          refine kk_goto (tgt := 54) hm.1 dX9_drawn_50 (by decide) ?_
          exact kk_iret hm.1 hm.2.1 dX9_drawn_54 ⟨_, rfl, rfl, rfl, rfl, rfl, rfl, h⟩
      · have h := h.2 c19
        refine kk_aload_n hm.1 0 dX9_drawn_22 rfl rfl ?_
        refine kk_getR hm.1 ff_X9_60 dX9_drawn_23 h0 ?_
        refine kk_getR hm.1 ff_X9_248 dX9_drawn_26 o9 ?_
        refine kk_iload_n hm.1 1 dX9_drawn_29 rfl rfl ?_
        obtain ⟨o30, h⟩ := h
        refine kk_iaload hm.1 dX9_drawn_30 o30 ?_
        exact kk_iret hm.1 hm.2.1 dX9_drawn_31 ⟨_, rfl, rfl, rfl, rfl, rfl, rfl, h⟩
    · have h := h.2 c12
      refine kk_iconst (v := (-1 : Int32)) hm.1 dX9_drawn_15 (by decide) ?_
      exact kk_iret hm.1 hm.2.1 dX9_drawn_16 ⟨_, rfl, rfl, rfl, rfl, rfl, rfl, h⟩
def w_X9_image_9 (a0 : Nat) (x1 : Int32) (w : kw_L) (Q : Int32 → kw_T → Nat → kw_R → kw_I → Prop)  (T : kw_T) (n : Nat) (r : kw_R) (i : kw_I) : Prop :=
  T a0 = (0, 9) ∧ (w_X9_refuse a0 (-1 : Int32) T n r i w (fun v11 i11 => Q v11 T n r i11))
def w_X9_image_37 (a0 : Nat) (x1 : Int32) (w : kw_L) (Q : Int32 → kw_T → Nat → kw_R → kw_I → Prop)  (T : kw_T) (n : Nat) (r : kw_R) (i : kw_I) : Prop :=
  T a0 = (0, 9) ∧ (kw_in T 6 (r a0 1) x1 ∧ (T ((r (r a0 1) (x1).toNatClampNeg)) = (0, 6) ∧ (w_X6_copyFrom (r (r a0 1) (x1).toNatClampNeg) (r a0 0) T n r i w (fun r47 i47 => w_X9_allow a0 (0 : Int32) T n r47 i47 w (fun v52 i52 => Q v52 T n r47 i52)))))
def w_X9_image  (a0 : Nat) (x1 : Int32) (T : kw_T) (n : Nat) (r : kw_R) (i : kw_I) (w : kw_L) (Q : Int32 → kw_T → Nat → kw_R → kw_I → Prop) : Prop :=
  (x1 < 0 → w_X9_image_9 a0 x1 w Q  T n r i) ∧ (¬ x1 < 0 → (x1 < (2 : Int32) → kw_in T 6 (r a0 1) x1 ∧ (((r (r a0 1) (x1).toNatClampNeg) = 0 → kw_al n 1 ∧ (∀ (T29 : kw_T) (r29 : kw_R) (i29 : kw_I), T29 = kw_row T n (0, 6) → r29 = kw_row r n (fun _ => 0) → i29 = kw_row i n (fun _ => 0) → (w_X6_init n T29 (n + 1) r29 i29 w (fun T33 n33 r33 i33 => kw_in T33 6 (r a0 1) x1 ∧ (kw_el T33 6 n ∧ (∀ r36 : kw_R, r36 = kw_st r33 (r a0 1) (x1).toNatClampNeg n → (w_X9_image_37 a0 x1 w Q  T33 n33 r36 i33))))))) ∧ (¬ (r (r a0 1) (x1).toNatClampNeg) = 0 → w_X9_image_37 a0 x1 w Q  T n r i))) ∧ (¬ x1 < (2 : Int32) → w_X9_image_9 a0 x1 w Q  T n r i))
abbrev rm_X9_image : Room := { frames := 3, cells := 15, slots := 201, locals := 103 }
set_option maxHeartbeats 4000000 in
set_option maxRecDepth 100000 in
theorem q_X9_image_9 {a0 : Nat} {x1 : Int32} {w : kw_L} {Q : Int32 → kw_T → Nat → kw_R → kw_I → Prop} {E : kw_E} {G : kw_G} (hm : kw_m E G cX9_image 2 RX9 (some .int) rm_X9_image "image")     (T : kw_T) (n : Nat) (r : kw_R) (i : kw_I) (h : w_X9_image_9 a0 x1 w Q  T n r i) : kw_K E G 2 0 0 (kw_Z E G 15 201 (kw_PI (fun v T' n' r' i' w' => w = w' ∧ Q v T' n' r' i'))) 9 [(0, kw_a a0), (1, kw_i x1)] [] T n r i w := by
  refine kk_aload_n hm.1 0 dX9_image_9 rfl rfl ?_
  refine kk_iconst (v := (-1 : Int32)) hm.1 dX9_image_10 (by decide) ?_
  obtain ⟨o11, h⟩ := h
  refine kk_callVi (cs' := 0) (sl' := 0) (st := []) hm.1 cv_X9_86 (t_X9_refuse o11 h) dX9_image_11 o11 rfl rfl hm.2.2.1 ⟨by decide, by decide⟩ ⟨by decide, by decide⟩ rfl rfl (Nat.le_of_ble_eq_true rfl) rfl ?_
  rintro v11 _ _ _ i11 _ ⟨rfl, rfl, rfl, rfl, h⟩
  refine kk_widen (cs' := 15) (sl' := 201) (by decide) (by decide) ?_
  exact kk_iret hm.1 hm.2.1 dX9_image_14 ⟨_, rfl, rfl, h⟩
set_option maxHeartbeats 4000000 in
set_option maxRecDepth 100000 in
theorem q_X9_image_37 {a0 : Nat} {x1 : Int32} {w : kw_L} {Q : Int32 → kw_T → Nat → kw_R → kw_I → Prop} {E : kw_E} {G : kw_G} (hm : kw_m E G cX9_image 2 RX9 (some .int) rm_X9_image "image")     (T : kw_T) (n : Nat) (r : kw_R) (i : kw_I) (h : w_X9_image_37 a0 x1 w Q  T n r i) : kw_K E G 2 15 201 (kw_Z E G 15 201 (kw_PI (fun v T' n' r' i' w' => w = w' ∧ Q v T' n' r' i'))) 37 [(0, kw_a a0), (1, kw_i x1)] [] T n r i w := by
  refine kk_aload_n hm.1 0 dX9_image_37 rfl rfl ?_
  obtain ⟨o38, h⟩ := h
  refine kk_getR hm.1 ff_X9_16 dX9_image_38 o38 ?_
  refine kk_iload_n hm.1 1 dX9_image_41 rfl rfl ?_
  obtain ⟨o42, h⟩ := h
  refine kk_aaload hm.1 6 (by decide) (by decide) rfl rfl dX9_image_42 o42 ?_
  refine kk_aload_n hm.1 0 dX9_image_43 rfl rfl ?_
  refine kk_getR hm.1 ff_X9_10 dX9_image_44 o38 ?_
  obtain ⟨o47, h⟩ := h
  refine kk_callVv (cs' := 15) (sl' := 201) (st := []) hm.1 cv_X9_252 (t_X6_copyFrom o47 h) dX9_image_47 o47 rfl rfl hm.2.2.1 ⟨by decide, by decide⟩ ⟨by decide, by decide⟩ rfl rfl (Nat.le_of_ble_eq_true rfl) rfl ?_
  rintro _ _ r47 i47 _ ⟨rfl, rfl, rfl, h⟩
  refine kk_aload_n hm.1 0 dX9_image_50 rfl rfl ?_
  refine kk_iconst (v := (0 : Int32)) hm.1 dX9_image_51 (by decide) ?_
  refine kk_callVi (cs' := 15) (sl' := 201) (st := []) hm.1 cv_X9_123 (t_X9_allow o38 h) dX9_image_52 o38 rfl rfl hm.2.2.1 ⟨by decide, by decide⟩ ⟨by decide, by decide⟩ rfl rfl (Nat.le_of_ble_eq_true rfl) rfl ?_
  rintro v52 _ _ _ i52 _ ⟨rfl, rfl, rfl, rfl, h⟩
  exact kk_iret hm.1 hm.2.1 dX9_image_55 ⟨_, rfl, rfl, h⟩
set_option maxHeartbeats 4000000 in
set_option maxRecDepth 100000 in
theorem t_X9_image {l : Launch} {G : kw_G} {a0 : Nat} {x1 : Int32} {T : kw_T} {n : Nat} {r : kw_R} {i : kw_I} {w : kw_L} {Q : Int32 → kw_T → Nat → kw_R → kw_I → Prop} (h0 : T a0 = (0, 9)) (h : w_X9_image a0 x1 T n r i w Q) : kw_Met l G yX9_image cX9_image 2 (some .int) rm_X9_image [kw_a a0, kw_i x1] (T, n, r, i, w) (kw_PI (fun v T' n' r' i' w' => w = w' ∧ Q v T' n' r' i')) := by
  refine kw_Met.of (by decide) (Nat.le_of_ble_eq_true rfl) fun E hl hRm hE hT hnm => ?_
  have hm : kw_m E G cX9_image 2 RX9 (some .int) rm_X9_image "image" := ⟨hE, hT, hRm, hnm⟩
  subst hl
  show kw_K E G 2 0 0 (kw_Z E G 15 201 (kw_PI (fun v T' n' r' i' w' => w = w' ∧ Q v T' n' r' i'))) 0 [(0, kw_a a0), (1, kw_i x1)] [] T n r i w
  refine kk_iload_n hm.1 1 dX9_image_0 rfl rfl ?_
  refine kk_if_lt (tgt := 9) hm.1 dX9_image_1 (by decide) (fun c1 => ?_) (fun c1 => ?_)
  · have h := h.1 c1
    exact q_X9_image_9 hm    T n r i h
  · have h := h.2 c1
    refine kk_iload_n hm.1 1 dX9_image_4 rfl rfl ?_
    refine kk_iconst (v := (2 : Int32)) hm.1 dX9_image_5 (by decide) ?_
    refine kk_icmp_lt (tgt := 15) hm.1 dX9_image_6 (by decide) (fun c6 => ?_) (fun c6 => ?_)
    · have h := h.1 c6
      refine kk_aload_n hm.1 0 dX9_image_15 rfl rfl ?_
      refine kk_getR hm.1 ff_X9_16 dX9_image_16 h0 ?_
      refine kk_iload_n hm.1 1 dX9_image_19 rfl rfl ?_
      obtain ⟨o20, h⟩ := h
      refine kk_aaload hm.1 6 (by decide) (by decide) rfl rfl dX9_image_20 o20 ?_
      refine kk_ifnonnull (tgt := 37) hm.1 dX9_image_21 (by decide) (fun c21 => ?_) (fun c21 => ?_)
      · have h := h.1 c21
        refine kk_aload_n hm.1 0 dX9_image_24 rfl rfl ?_
        refine kk_getR hm.1 ff_X9_16 dX9_image_25 h0 ?_
        refine kk_iload_n hm.1 1 dX9_image_28 rfl rfl ?_
        obtain ⟨o29, h⟩ := h
        refine kn_new hm.1 nw_X9_7 dX9_image_29 o29 hm.2.2.1 (by decide) (by decide) rfl rfl (fun T29 r29 i29 e29 f29 g29 u29 => ?_)
        have h := h T29 r29 i29 e29 f29 g29
        refine kk_dup hm.1 dX9_image_32 rfl ?_
        refine kk_callIv (cs' := 15) (sl' := 201) (st := [kw_a n, kw_i x1, kw_a (r a0 1)]) hm.1 ci_X9_9 (t_X6_init u29 h) dX9_image_33 u29 rfl hm.2.2.1 ⟨by decide, by decide⟩ ⟨by decide, by decide⟩ rfl rfl (Nat.le_of_ble_eq_true rfl) rfl ?_
        rintro T33 n33 r33 i33 _ ⟨rfl, h⟩
        obtain ⟨o36, h⟩ := h
        obtain ⟨b36, h⟩ := h
        refine kn_aastore hm.1 6 (by decide) dX9_image_36 o36 b36 (fun r36 e36 => ?_)
        have h := h r36 e36
        exact q_X9_image_37 hm    T33 n33 r36 i33 h
      · have h := h.2 c21
        refine kk_widen (cs' := 15) (sl' := 201) (by decide) (by decide) ?_
        exact q_X9_image_37 hm    T n r i h
    · have h := h.2 c6
      exact q_X9_image_9 hm    T n r i h
def w_X9_back_9 (a0 : Nat) (x1 : Int32) (T : kw_T) (n : Nat) (w : kw_L) (Q : Int32 → kw_R → kw_I → Prop)  (r : kw_R) (i : kw_I) : Prop :=
  w_X9_refuse a0 (-1 : Int32) T n r i w (fun v11 i11 => Q v11 r i11)
def w_X9_back  (a0 : Nat) (x1 : Int32) (T : kw_T) (n : Nat) (r : kw_R) (i : kw_I) (w : kw_L) (Q : Int32 → kw_R → kw_I → Prop) : Prop :=
  (x1 < 0 → w_X9_back_9 a0 x1 T n w Q  r i) ∧ (¬ x1 < 0 → (x1 < (2 : Int32) → kw_in T 6 (r a0 1) x1 ∧ (((r (r a0 1) (x1).toNatClampNeg) = 0 → w_X9_refuse a0 (-2 : Int32) T n r i w (fun v27 i27 => Q v27 r i27)) ∧ (¬ (r (r a0 1) (x1).toNatClampNeg) = 0 → kw_in T 6 (r a0 1) x1 ∧ (T ((r a0 0)) = (0, 6) ∧ (w_X6_copyFrom (r a0 0) (r (r a0 1) (x1).toNatClampNeg) T n r i w (fun r41 i41 => w_X9_changed a0 (0 : Int32) T n r41 i41 w (fun v46 i46 => Q v46 r41 i46))))))) ∧ (¬ x1 < (2 : Int32) → w_X9_back_9 a0 x1 T n w Q  r i))
abbrev rm_X9_back : Room := { frames := 3, cells := 0, slots := 0, locals := 102 }
set_option maxHeartbeats 4000000 in
set_option maxRecDepth 100000 in
theorem q_X9_back_9 {a0 : Nat} {x1 : Int32} {T : kw_T} {n : Nat} {w : kw_L} {Q : Int32 → kw_R → kw_I → Prop} {E : kw_E} {G : kw_G} (hm : kw_m E G cX9_back 2 RX9 (some .int) rm_X9_back "back")  (h0 : T a0 = (0, 9))    (r : kw_R) (i : kw_I) (h : w_X9_back_9 a0 x1 T n w Q  r i) : kw_K E G 2 0 0 (kw_Z E G 0 0 (kw_PI (fun v T' n' r' i' w' => T = T' ∧ n = n' ∧ w = w' ∧ Q v r' i'))) 9 [(0, kw_a a0), (1, kw_i x1)] [] T n r i w := by
  refine kk_aload_n hm.1 0 dX9_back_9 rfl rfl ?_
  refine kk_iconst (v := (-1 : Int32)) hm.1 dX9_back_10 (by decide) ?_
  refine kk_callVi (cs' := 0) (sl' := 0) (st := []) hm.1 cv_X9_86 (t_X9_refuse h0 h) dX9_back_11 h0 rfl rfl hm.2.2.1 ⟨by decide, by decide⟩ ⟨by decide, by decide⟩ rfl rfl (Nat.le_of_ble_eq_true rfl) rfl ?_
  rintro v11 _ _ _ i11 _ ⟨rfl, rfl, rfl, rfl, h⟩
  exact kk_iret hm.1 hm.2.1 dX9_back_14 ⟨_, rfl, rfl, rfl, rfl, h⟩
set_option maxHeartbeats 4000000 in
set_option maxRecDepth 100000 in
theorem t_X9_back {l : Launch} {G : kw_G} {a0 : Nat} {x1 : Int32} {T : kw_T} {n : Nat} {r : kw_R} {i : kw_I} {w : kw_L} {Q : Int32 → kw_R → kw_I → Prop} (h0 : T a0 = (0, 9)) (h : w_X9_back a0 x1 T n r i w Q) : kw_Met l G yX9_back cX9_back 2 (some .int) rm_X9_back [kw_a a0, kw_i x1] (T, n, r, i, w) (kw_PI (fun v T' n' r' i' w' => T = T' ∧ n = n' ∧ w = w' ∧ Q v r' i')) := by
  refine kw_Met.of (by decide) (Nat.le_of_ble_eq_true rfl) fun E hl hRm hE hT hnm => ?_
  have hm : kw_m E G cX9_back 2 RX9 (some .int) rm_X9_back "back" := ⟨hE, hT, hRm, hnm⟩
  subst hl
  show kw_K E G 2 0 0 (kw_Z E G 0 0 (kw_PI (fun v T' n' r' i' w' => T = T' ∧ n = n' ∧ w = w' ∧ Q v r' i'))) 0 [(0, kw_a a0), (1, kw_i x1)] [] T n r i w
  refine kk_iload_n hm.1 1 dX9_back_0 rfl rfl ?_
  refine kk_if_lt (tgt := 9) hm.1 dX9_back_1 (by decide) (fun c1 => ?_) (fun c1 => ?_)
  · have h := h.1 c1
    exact q_X9_back_9 hm  h0   r i h
  · have h := h.2 c1
    refine kk_iload_n hm.1 1 dX9_back_4 rfl rfl ?_
    refine kk_iconst (v := (2 : Int32)) hm.1 dX9_back_5 (by decide) ?_
    refine kk_icmp_lt (tgt := 15) hm.1 dX9_back_6 (by decide) (fun c6 => ?_) (fun c6 => ?_)
    · have h := h.1 c6
      refine kk_aload_n hm.1 0 dX9_back_15 rfl rfl ?_
      refine kk_getR hm.1 ff_X9_16 dX9_back_16 h0 ?_
      refine kk_iload_n hm.1 1 dX9_back_19 rfl rfl ?_
      obtain ⟨o20, h⟩ := h
      refine kk_aaload hm.1 6 (by decide) (by decide) rfl rfl dX9_back_20 o20 ?_
      refine kk_ifnonnull (tgt := 31) hm.1 dX9_back_21 (by decide) (fun c21 => ?_) (fun c21 => ?_)
      · have h := h.1 c21
        refine kk_aload_n hm.1 0 dX9_back_24 rfl rfl ?_
        refine kk_bipush (v := (-2 : Int32)) hm.1 dX9_back_25 (by decide) ?_
        refine kk_callVi (cs' := 0) (sl' := 0) (st := []) hm.1 cv_X9_86 (t_X9_refuse h0 h) dX9_back_27 h0 rfl rfl hm.2.2.1 ⟨by decide, by decide⟩ ⟨by decide, by decide⟩ rfl rfl (Nat.le_of_ble_eq_true rfl) rfl ?_
        rintro v27 _ _ _ i27 _ ⟨rfl, rfl, rfl, rfl, h⟩
        exact kk_iret hm.1 hm.2.1 dX9_back_30 ⟨_, rfl, rfl, rfl, rfl, h⟩
      · have h := h.2 c21
        refine kk_aload_n hm.1 0 dX9_back_31 rfl rfl ?_
        refine kk_getR hm.1 ff_X9_10 dX9_back_32 h0 ?_
        refine kk_aload_n hm.1 0 dX9_back_35 rfl rfl ?_
        refine kk_getR hm.1 ff_X9_16 dX9_back_36 h0 ?_
        refine kk_iload_n hm.1 1 dX9_back_39 rfl rfl ?_
        obtain ⟨o40, h⟩ := h
        refine kk_aaload hm.1 6 (by decide) (by decide) rfl rfl dX9_back_40 o40 ?_
        obtain ⟨o41, h⟩ := h
        refine kk_callVv (cs' := 0) (sl' := 0) (st := []) hm.1 cv_X9_252 (t_X6_copyFrom o41 h) dX9_back_41 o41 rfl rfl hm.2.2.1 ⟨by decide, by decide⟩ ⟨by decide, by decide⟩ rfl rfl (Nat.le_of_ble_eq_true rfl) rfl ?_
        rintro _ _ r41 i41 _ ⟨rfl, rfl, rfl, h⟩
        refine kk_aload_n hm.1 0 dX9_back_44 rfl rfl ?_
        refine kk_iconst (v := (0 : Int32)) hm.1 dX9_back_45 (by decide) ?_
        refine kk_callVi (cs' := 0) (sl' := 0) (st := []) hm.1 cv_X9_101 (t_X9_changed h0 h) dX9_back_46 h0 rfl rfl hm.2.2.1 ⟨by decide, by decide⟩ ⟨by decide, by decide⟩ rfl rfl (Nat.le_of_ble_eq_true rfl) rfl ?_
        rintro v46 _ _ _ i46 _ ⟨rfl, rfl, rfl, rfl, h⟩
        exact kk_iret hm.1 hm.2.1 dX9_back_49 ⟨_, rfl, rfl, rfl, rfl, h⟩
    · have h := h.2 c6
      exact q_X9_back_9 hm  h0   r i h
def w_X9_count  (a0 : Nat) (x1 : Int32) (T : kw_T) (n : Nat) (r : kw_R) (i : kw_I) (w : kw_L) (Q : Int32 → Prop) : Prop :=
  (x1 = (0 : Int32) → T ((r a0 0)) = (0, 6) ∧ (Q (i (r a0 0) 5))) ∧ (x1 = (1 : Int32) → T ((r a0 0)) = (0, 6) ∧ (Q (i (r a0 0) 6))) ∧ (x1 = (2 : Int32) → T ((r a0 2)) = (0, 7) ∧ (Q (i (r a0 2) 1))) ∧ (x1 = (3 : Int32) → kw_in T 1 (r a0 8) (x1 - (3 : Int32)) ∧ (Q (i (r a0 8) ((x1 - (3 : Int32))).toNatClampNeg))) ∧ (x1 = (4 : Int32) → kw_in T 1 (r a0 8) (x1 - (3 : Int32)) ∧ (Q (i (r a0 8) ((x1 - (3 : Int32))).toNatClampNeg))) ∧ (x1 = (5 : Int32) → kw_in T 1 (r a0 8) (x1 - (3 : Int32)) ∧ (Q (i (r a0 8) ((x1 - (3 : Int32))).toNatClampNeg))) ∧ (x1 = (6 : Int32) → kw_in T 1 (r a0 8) (x1 - (3 : Int32)) ∧ (Q (i (r a0 8) ((x1 - (3 : Int32))).toNatClampNeg))) ∧ (x1 = (7 : Int32) → T ((r a0 0)) = (0, 6) ∧ (Q (i (r a0 0) 7))) ∧ (x1 = (8 : Int32) → T ((r a0 0)) = (0, 6) ∧ (kw_in T 1 (r (r a0 0) 3) (0 : Int32) ∧ (Q (i (r (r a0 0) 3) ((0 : Int32)).toNatClampNeg)))) ∧ (x1 = (9 : Int32) → T ((r a0 0)) = (0, 6) ∧ (kw_in T 1 (r (r a0 0) 3) (1 : Int32) ∧ (Q (i (r (r a0 0) 3) ((1 : Int32)).toNatClampNeg)))) ∧ ((x1.toInt < 0 ∨ 9 < x1.toInt) → Q (-1 : Int32))
abbrev rm_X9_count : Room := { frames := 1, cells := 0, slots := 0, locals := 60 }
set_option maxHeartbeats 4000000 in
set_option maxRecDepth 100000 in
theorem t_X9_count {l : Launch} {G : kw_G} {a0 : Nat} {x1 : Int32} {T : kw_T} {n : Nat} {r : kw_R} {i : kw_I} {w : kw_L} {Q : Int32 → Prop} (h0 : T a0 = (0, 9)) (h : w_X9_count a0 x1 T n r i w Q) : kw_Met l G yX9_count cX9_count 2 (some .int) rm_X9_count [kw_a a0, kw_i x1] (T, n, r, i, w) (kw_PI (fun v T' n' r' i' w' => T = T' ∧ n = n' ∧ r = r' ∧ i = i' ∧ w = w' ∧ Q v)) := by
  refine kw_Met.of (by decide) (Nat.le_of_ble_eq_true rfl) fun E hl hRm hE hT hnm => ?_
  have hm : kw_m E G cX9_count 2 RX9 (some .int) rm_X9_count "count" := ⟨hE, hT, hRm, hnm⟩
  subst hl
  show kw_K E G 2 0 0 (kw_Z E G 0 0 (kw_PI (fun v T' n' r' i' w' => T = T' ∧ n = n' ∧ r = r' ∧ i = i' ∧ w = w' ∧ Q v))) 0 [(0, kw_a a0), (1, kw_i x1)] [] T n r i w
  refine kk_iload_n hm.1 1 dX9_count_0 rfl rfl ?_
  by_cases c1_0 : x1 = (0 : Int32)
  · have h := h.1 c1_0
    refine kk_tin (tgt := 56) hm.1 dX9_count_1 (by rw [c1_0]; decide) (by rw [c1_0]; decide) (by rw [c1_0]; rfl) (by decide) ?_
    refine kk_aload_n hm.1 0 dX9_count_56 rfl rfl ?_
    refine kk_getR hm.1 ff_X9_10 dX9_count_57 h0 ?_
    obtain ⟨o60, h⟩ := h
    refine kk_getI hm.1 ff_X9_90 dX9_count_60 o60 ?_
    exact kk_iret hm.1 hm.2.1 dX9_count_63 ⟨_, rfl, rfl, rfl, rfl, rfl, rfl, h⟩
  by_cases c1_1 : x1 = (1 : Int32)
  · have h := h.2.1 c1_1
    refine kk_tin (tgt := 64) hm.1 dX9_count_1 (by rw [c1_1]; decide) (by rw [c1_1]; decide) (by rw [c1_1]; rfl) (by decide) ?_
    refine kk_aload_n hm.1 0 dX9_count_64 rfl rfl ?_
    refine kk_getR hm.1 ff_X9_10 dX9_count_65 h0 ?_
    obtain ⟨o68, h⟩ := h
    refine kk_getI hm.1 ff_X9_145 dX9_count_68 o68 ?_
    exact kk_iret hm.1 hm.2.1 dX9_count_71 ⟨_, rfl, rfl, rfl, rfl, rfl, rfl, h⟩
  by_cases c1_2 : x1 = (2 : Int32)
  · have h := h.2.2.1 c1_2
    refine kk_tin (tgt := 72) hm.1 dX9_count_1 (by rw [c1_2]; decide) (by rw [c1_2]; decide) (by rw [c1_2]; rfl) (by decide) ?_
    refine kk_aload_n hm.1 0 dX9_count_72 rfl rfl ?_
    refine kk_getR hm.1 ff_X9_23 dX9_count_73 h0 ?_
    obtain ⟨o76, h⟩ := h
    refine kk_getI hm.1 ff_X9_129 dX9_count_76 o76 ?_
    exact kk_iret hm.1 hm.2.1 dX9_count_79 ⟨_, rfl, rfl, rfl, rfl, rfl, rfl, h⟩
  by_cases c1_3 : x1 = (3 : Int32)
  · have h := h.2.2.2.1 c1_3
    refine kk_tin (tgt := 80) hm.1 dX9_count_1 (by rw [c1_3]; decide) (by rw [c1_3]; decide) (by rw [c1_3]; rfl) (by decide) ?_
    refine kk_aload_n hm.1 0 dX9_count_80 rfl rfl ?_
    refine kk_getR hm.1 ff_X9_64 dX9_count_81 h0 ?_
    refine kk_iload_n hm.1 1 dX9_count_84 rfl rfl ?_
    refine kk_iconst (v := (3 : Int32)) hm.1 dX9_count_85 (by decide) ?_
    refine kk_isub hm.1 dX9_count_86 ?_
    obtain ⟨o87, h⟩ := h
    refine kk_iaload hm.1 dX9_count_87 o87 ?_
    exact kk_iret hm.1 hm.2.1 dX9_count_88 ⟨_, rfl, rfl, rfl, rfl, rfl, rfl, h⟩
  by_cases c1_4 : x1 = (4 : Int32)
  · have h := h.2.2.2.2.1 c1_4
    refine kk_tin (tgt := 80) hm.1 dX9_count_1 (by rw [c1_4]; decide) (by rw [c1_4]; decide) (by rw [c1_4]; rfl) (by decide) ?_
    refine kk_aload_n hm.1 0 dX9_count_80 rfl rfl ?_
    refine kk_getR hm.1 ff_X9_64 dX9_count_81 h0 ?_
    refine kk_iload_n hm.1 1 dX9_count_84 rfl rfl ?_
    refine kk_iconst (v := (3 : Int32)) hm.1 dX9_count_85 (by decide) ?_
    refine kk_isub hm.1 dX9_count_86 ?_
    obtain ⟨o87, h⟩ := h
    refine kk_iaload hm.1 dX9_count_87 o87 ?_
    exact kk_iret hm.1 hm.2.1 dX9_count_88 ⟨_, rfl, rfl, rfl, rfl, rfl, rfl, h⟩
  by_cases c1_5 : x1 = (5 : Int32)
  · have h := h.2.2.2.2.2.1 c1_5
    refine kk_tin (tgt := 80) hm.1 dX9_count_1 (by rw [c1_5]; decide) (by rw [c1_5]; decide) (by rw [c1_5]; rfl) (by decide) ?_
    refine kk_aload_n hm.1 0 dX9_count_80 rfl rfl ?_
    refine kk_getR hm.1 ff_X9_64 dX9_count_81 h0 ?_
    refine kk_iload_n hm.1 1 dX9_count_84 rfl rfl ?_
    refine kk_iconst (v := (3 : Int32)) hm.1 dX9_count_85 (by decide) ?_
    refine kk_isub hm.1 dX9_count_86 ?_
    obtain ⟨o87, h⟩ := h
    refine kk_iaload hm.1 dX9_count_87 o87 ?_
    exact kk_iret hm.1 hm.2.1 dX9_count_88 ⟨_, rfl, rfl, rfl, rfl, rfl, rfl, h⟩
  by_cases c1_6 : x1 = (6 : Int32)
  · have h := h.2.2.2.2.2.2.1 c1_6
    refine kk_tin (tgt := 80) hm.1 dX9_count_1 (by rw [c1_6]; decide) (by rw [c1_6]; decide) (by rw [c1_6]; rfl) (by decide) ?_
    refine kk_aload_n hm.1 0 dX9_count_80 rfl rfl ?_
    refine kk_getR hm.1 ff_X9_64 dX9_count_81 h0 ?_
    refine kk_iload_n hm.1 1 dX9_count_84 rfl rfl ?_
    refine kk_iconst (v := (3 : Int32)) hm.1 dX9_count_85 (by decide) ?_
    refine kk_isub hm.1 dX9_count_86 ?_
    obtain ⟨o87, h⟩ := h
    refine kk_iaload hm.1 dX9_count_87 o87 ?_
    exact kk_iret hm.1 hm.2.1 dX9_count_88 ⟨_, rfl, rfl, rfl, rfl, rfl, rfl, h⟩
  by_cases c1_7 : x1 = (7 : Int32)
  · have h := h.2.2.2.2.2.2.2.1 c1_7
    refine kk_tin (tgt := 89) hm.1 dX9_count_1 (by rw [c1_7]; decide) (by rw [c1_7]; decide) (by rw [c1_7]; rfl) (by decide) ?_
    refine kk_aload_n hm.1 0 dX9_count_89 rfl rfl ?_
    refine kk_getR hm.1 ff_X9_10 dX9_count_90 h0 ?_
    obtain ⟨o93, h⟩ := h
    refine kk_getI hm.1 ff_X9_159 dX9_count_93 o93 ?_
    exact kk_iret hm.1 hm.2.1 dX9_count_96 ⟨_, rfl, rfl, rfl, rfl, rfl, rfl, h⟩
  by_cases c1_8 : x1 = (8 : Int32)
  · have h := h.2.2.2.2.2.2.2.2.1 c1_8
    refine kk_tin (tgt := 97) hm.1 dX9_count_1 (by rw [c1_8]; decide) (by rw [c1_8]; decide) (by rw [c1_8]; rfl) (by decide) ?_
    refine kk_aload_n hm.1 0 dX9_count_97 rfl rfl ?_
    refine kk_getR hm.1 ff_X9_10 dX9_count_98 h0 ?_
    obtain ⟨o101, h⟩ := h
    refine kk_getR hm.1 ff_X9_126 dX9_count_101 o101 ?_
    refine kk_iconst (v := (0 : Int32)) hm.1 dX9_count_104 (by decide) ?_
    obtain ⟨o105, h⟩ := h
    refine kk_iaload hm.1 dX9_count_105 o105 ?_
    exact kk_iret hm.1 hm.2.1 dX9_count_106 ⟨_, rfl, rfl, rfl, rfl, rfl, rfl, h⟩
  by_cases c1_9 : x1 = (9 : Int32)
  · have h := h.2.2.2.2.2.2.2.2.2.1 c1_9
    refine kk_tin (tgt := 107) hm.1 dX9_count_1 (by rw [c1_9]; decide) (by rw [c1_9]; decide) (by rw [c1_9]; rfl) (by decide) ?_
    refine kk_aload_n hm.1 0 dX9_count_107 rfl rfl ?_
    refine kk_getR hm.1 ff_X9_10 dX9_count_108 h0 ?_
    obtain ⟨o111, h⟩ := h
    refine kk_getR hm.1 ff_X9_126 dX9_count_111 o111 ?_
    refine kk_iconst (v := (1 : Int32)) hm.1 dX9_count_114 (by decide) ?_
    obtain ⟨o115, h⟩ := h
    refine kk_iaload hm.1 dX9_count_115 o115 ?_
    exact kk_iret hm.1 hm.2.1 dX9_count_116 ⟨_, rfl, rfl, rfl, rfl, rfl, rfl, h⟩
  have c1 : x1.toInt < 0 ∨ 9 < x1.toInt := by
    have e0 := lv_neT c1_0 (a := 0) rfl
    have e1 := lv_neT c1_1 (a := 1) rfl
    have e2 := lv_neT c1_2 (a := 2) rfl
    have e3 := lv_neT c1_3 (a := 3) rfl
    have e4 := lv_neT c1_4 (a := 4) rfl
    have e5 := lv_neT c1_5 (a := 5) rfl
    have e6 := lv_neT c1_6 (a := 6) rfl
    have e7 := lv_neT c1_7 (a := 7) rfl
    have e8 := lv_neT c1_8 (a := 8) rfl
    have e9 := lv_neT c1_9 (a := 9) rfl
    omega
  have h := h.2.2.2.2.2.2.2.2.2.2 c1
  refine kk_tout (tgt := 117) hm.1 dX9_count_1 c1 (by decide) ?_
  refine kk_iconst (v := (-1 : Int32)) hm.1 dX9_count_117 (by decide) ?_
  exact kk_iret hm.1 hm.2.1 dX9_count_118 ⟨_, rfl, rfl, rfl, rfl, rfl, rfl, h⟩
def w_X9_status  (a0 : Nat) (T : kw_T) (n : Nat) (r : kw_R) (i : kw_I) (w : kw_L) (Q : Int32 → Prop) : Prop :=
  Q (i a0 9)
abbrev rm_X9_status : Room := { frames := 1, cells := 0, slots := 0, locals := 60 }
set_option maxHeartbeats 4000000 in
set_option maxRecDepth 100000 in
theorem t_X9_status {l : Launch} {G : kw_G} {a0 : Nat} {T : kw_T} {n : Nat} {r : kw_R} {i : kw_I} {w : kw_L} {Q : Int32 → Prop} (h0 : T a0 = (0, 9)) (h : w_X9_status a0 T n r i w Q) : kw_Met l G yX9_status cX9_status 1 (some .int) rm_X9_status [kw_a a0] (T, n, r, i, w) (kw_PI (fun v T' n' r' i' w' => T = T' ∧ n = n' ∧ r = r' ∧ i = i' ∧ w = w' ∧ Q v)) := by
  refine kw_Met.of (by decide) (Nat.le_of_ble_eq_true rfl) fun E hl hRm hE hT hnm => ?_
  have hm : kw_m E G cX9_status 1 RX9 (some .int) rm_X9_status "status" := ⟨hE, hT, hRm, hnm⟩
  subst hl
  show kw_K E G 1 0 0 (kw_Z E G 0 0 (kw_PI (fun v T' n' r' i' w' => T = T' ∧ n = n' ∧ r = r' ∧ i = i' ∧ w = w' ∧ Q v))) 0 [(0, kw_a a0)] [] T n r i w
  refine kk_aload_n hm.1 0 dX9_status_0 rfl rfl ?_
  refine kk_getI hm.1 ff_X9_68 dX9_status_1 h0 ?_
  exact kk_iret hm.1 hm.2.1 dX9_status_4 ⟨_, rfl, rfl, rfl, rfl, rfl, rfl, h⟩
def w_X10_lies  (x0 : Int32) (x1 : Int32) (x2 : Int32) (T : kw_T) (n : Nat) (r : kw_R) (i : kw_I) (w : kw_L) (Q : Int32 → Prop) : Prop :=
  (x0 < x1 → Q (0 : Int32)) ∧ (¬ x0 < x1 → (x2 < x0 → Q (0 : Int32)) ∧ (¬ x2 < x0 → Q (1 : Int32)))
abbrev rm_X10_lies : Room := { frames := 1, cells := 0, slots := 0, locals := 60 }
set_option maxHeartbeats 4000000 in
set_option maxRecDepth 100000 in
theorem t_X10_lies {l : Launch} {G : kw_G} {x0 : Int32} {x1 : Int32} {x2 : Int32} {T : kw_T} {n : Nat} {r : kw_R} {i : kw_I} {w : kw_L} {Q : Int32 → Prop} (h : w_X10_lies x0 x1 x2 T n r i w Q) : kw_Met l G yX10_lies cX10_lies 3 (some .boolean) rm_X10_lies [kw_i x0, kw_i x1, kw_i x2] (T, n, r, i, w) (kw_PI (fun v T' n' r' i' w' => T = T' ∧ n = n' ∧ r = r' ∧ i = i' ∧ w = w' ∧ Q v)) := by
  refine kw_Met.of (by decide) (Nat.le_of_ble_eq_true rfl) fun E hl hRm hE hT hnm => ?_
  have hm : kw_m E G cX10_lies 3 RX10 (some .boolean) rm_X10_lies "lies" := ⟨hE, hT, hRm, hnm⟩
  subst hl
  show kw_K E G 3 0 0 (kw_Z E G 0 0 (kw_PI (fun v T' n' r' i' w' => T = T' ∧ n = n' ∧ r = r' ∧ i = i' ∧ w = w' ∧ Q v))) 0 [(0, kw_i x0), (1, kw_i x1), (2, kw_i x2)] [] T n r i w
  refine kk_iload_n hm.1 0 dX10_lies_0 rfl rfl ?_
  refine kk_iload_n hm.1 1 dX10_lies_1 rfl rfl ?_
  refine kk_icmp_lt (tgt := 14) hm.1 dX10_lies_2 (by decide) (fun c2 => ?_) (fun c2 => ?_)
  · have h := h.1 c2
    refine kk_iconst (v := (0 : Int32)) hm.1 dX10_lies_14 (by decide) ?_
    exact kk_zret hm.1 hm.2.1 dX10_lies_15 (Or.inl rfl) ⟨_, rfl, rfl, rfl, rfl, rfl, rfl, h⟩
  · have h := h.2 c2
    refine kk_iload_n hm.1 0 dX10_lies_5 rfl rfl ?_
    refine kk_iload_n hm.1 2 dX10_lies_6 rfl rfl ?_
    refine kk_icmp_gt (tgt := 14) hm.1 dX10_lies_7 (by decide) (fun c7 => ?_) (fun c7 => ?_)
    · have h := h.1 c7
      refine kk_iconst (v := (0 : Int32)) hm.1 dX10_lies_14 (by decide) ?_
      exact kk_zret hm.1 hm.2.1 dX10_lies_15 (Or.inl rfl) ⟨_, rfl, rfl, rfl, rfl, rfl, rfl, h⟩
    · have h := h.2 c7
      refine kk_iconst (v := (1 : Int32)) hm.1 dX10_lies_10 (by decide) ?_
      refine kk_goto (tgt := 15) hm.1 dX10_lies_11 (by decide) ?_
      exact kk_zret hm.1 hm.2.1 dX10_lies_15 (Or.inr rfl) ⟨_, rfl, rfl, rfl, rfl, rfl, rfl, h⟩
def w_X10_refuses  (a0 : Nat) (x1 : Int32) (T : kw_T) (n : Nat) (r : kw_R) (i : kw_I) (w : kw_L) (Q : Int32 → kw_I → Prop) : Prop :=
  ∀ i2 : kw_I, i2 = kw_st i a0 0 x1 → (kw_in T 1 (r a0 1) ((-x1)) ∧ (kw_in T 1 (r a0 1) ((-x1)) ∧ (∀ i15 : kw_I, i15 = kw_st i2 (r a0 1) (((-x1))).toNatClampNeg ((i2 (r a0 1) (((-x1))).toNatClampNeg) + (1 : Int32)) → (Q x1 i15))))
abbrev rm_X10_refuses : Room := { frames := 1, cells := 0, slots := 0, locals := 60 }
set_option maxHeartbeats 4000000 in
set_option maxRecDepth 100000 in
theorem t_X10_refuses {l : Launch} {G : kw_G} {a0 : Nat} {x1 : Int32} {T : kw_T} {n : Nat} {r : kw_R} {i : kw_I} {w : kw_L} {Q : Int32 → kw_I → Prop} (h0 : T a0 = (0, 10)) (h : w_X10_refuses a0 x1 T n r i w Q) : kw_Met l G yX10_refuses cX10_refuses 2 (some .int) rm_X10_refuses [kw_a a0, kw_i x1] (T, n, r, i, w) (kw_PI (fun v T' n' r' i' w' => T = T' ∧ n = n' ∧ r = r' ∧ w = w' ∧ Q v i')) := by
  refine kw_Met.of (by decide) (Nat.le_of_ble_eq_true rfl) fun E hl hRm hE hT hnm => ?_
  have hm : kw_m E G cX10_refuses 2 RX10 (some .int) rm_X10_refuses "refuses" := ⟨hE, hT, hRm, hnm⟩
  subst hl
  show kw_K E G 2 0 0 (kw_Z E G 0 0 (kw_PI (fun v T' n' r' i' w' => T = T' ∧ n = n' ∧ r = r' ∧ w = w' ∧ Q v i'))) 0 [(0, kw_a a0), (1, kw_i x1)] [] T n r i w
  refine kk_aload_n hm.1 0 dX10_refuses_0 rfl rfl ?_
  refine kk_iload_n hm.1 1 dX10_refuses_1 rfl rfl ?_
  refine kn_putI hm.1 fp_X10_3 dX10_refuses_2 h0 (fun i2 e2 => ?_)
  have h := h i2 e2
  refine kk_aload_n hm.1 0 dX10_refuses_5 rfl rfl ?_
  refine kk_getR hm.1 ff_X10_7 dX10_refuses_6 h0 ?_
  refine kk_iload_n hm.1 1 dX10_refuses_9 rfl rfl ?_
  refine kk_ineg hm.1 dX10_refuses_10 ?_
  refine kk_dup2 hm.1 dX10_refuses_11 rfl rfl ?_
  obtain ⟨o12, h⟩ := h
  refine kk_iaload hm.1 dX10_refuses_12 o12 ?_
  refine kk_iconst (v := (1 : Int32)) hm.1 dX10_refuses_13 (by decide) ?_
  refine kk_iadd hm.1 dX10_refuses_14 ?_
  obtain ⟨o15, h⟩ := h
  refine kn_iastore hm.1 dX10_refuses_15 o15 (fun i15 e15 => ?_)
  have h := h i15 e15
  refine kk_iload_n hm.1 1 dX10_refuses_16 rfl rfl ?_
  exact kk_iret hm.1 hm.2.1 dX10_refuses_17 ⟨_, rfl, rfl, rfl, rfl, rfl, h⟩
def w_X10_good  (a0 : Nat) (x1 : Int32) (T : kw_T) (n : Nat) (r : kw_R) (i : kw_I) (w : kw_L) (Q : Int32 → kw_I → Prop) : Prop :=
  ∀ i2 : kw_I, i2 = kw_st i a0 0 (0 : Int32) → (Q x1 i2)
abbrev rm_X10_good : Room := { frames := 1, cells := 0, slots := 0, locals := 60 }
set_option maxHeartbeats 4000000 in
set_option maxRecDepth 100000 in
theorem t_X10_good {l : Launch} {G : kw_G} {a0 : Nat} {x1 : Int32} {T : kw_T} {n : Nat} {r : kw_R} {i : kw_I} {w : kw_L} {Q : Int32 → kw_I → Prop} (h0 : T a0 = (0, 10)) (h : w_X10_good a0 x1 T n r i w Q) : kw_Met l G yX10_good cX10_good 2 (some .int) rm_X10_good [kw_a a0, kw_i x1] (T, n, r, i, w) (kw_PI (fun v T' n' r' i' w' => T = T' ∧ n = n' ∧ r = r' ∧ w = w' ∧ Q v i')) := by
  refine kw_Met.of (by decide) (Nat.le_of_ble_eq_true rfl) fun E hl hRm hE hT hnm => ?_
  have hm : kw_m E G cX10_good 2 RX10 (some .int) rm_X10_good "good" := ⟨hE, hT, hRm, hnm⟩
  subst hl
  show kw_K E G 2 0 0 (kw_Z E G 0 0 (kw_PI (fun v T' n' r' i' w' => T = T' ∧ n = n' ∧ r = r' ∧ w = w' ∧ Q v i'))) 0 [(0, kw_a a0), (1, kw_i x1)] [] T n r i w
  refine kk_aload_n hm.1 0 dX10_good_0 rfl rfl ?_
  refine kk_iconst (v := (0 : Int32)) hm.1 dX10_good_1 (by decide) ?_
  refine kn_putI hm.1 fp_X10_3 dX10_good_2 h0 (fun i2 e2 => ?_)
  have h := h i2 e2
  refine kk_iload_n hm.1 1 dX10_good_5 rfl rfl ?_
  exact kk_iret hm.1 hm.2.1 dX10_good_6 ⟨_, rfl, rfl, rfl, rfl, rfl, h⟩
def s_X10_ones_4 (x0 : Int32) (T : kw_T) (n : Nat) (r : kw_R) (i : kw_I) (w : kw_L) (Q : Int32 → Prop)  (k4 : Int32 → Int32 → Prop) (x1 : Int32) (x2 : Int32) : Prop :=
  ((10 : Int32) ≤ x2 → Q x1) ∧ (¬ (10 : Int32) ≤ x2 → k4 ((x1 + ((x0 >>> (x2 &&& 31)) &&& (1 : Int32)))) ((x2 + (1 : Int32))))
def w_X10_ones_4 (x0 : Int32) (T : kw_T) (n : Nat) (r : kw_R) (i : kw_I) (w : kw_L) (Q : Int32 → Prop)  : Nat → Int32 → Int32 → Prop
  | 0 => fun _ _ => False
  | N + 1 => s_X10_ones_4 x0 T n r i w Q  (w_X10_ones_4 x0 T n r i w Q  N)
def w_X10_ones  (x0 : Int32) (T : kw_T) (n : Nat) (r : kw_R) (i : kw_I) (w : kw_L) (Q : Int32 → Prop) : Prop :=
  ∃ N, w_X10_ones_4 x0 T n r i w Q  N ((0 : Int32)) ((0 : Int32))
abbrev rm_X10_ones : Room := { frames := 1, cells := 0, slots := 0, locals := 60 }
set_option maxHeartbeats 4000000 in
set_option maxRecDepth 100000 in
theorem qs_X10_ones_4 {x0 : Int32} {T : kw_T} {n : Nat} {r : kw_R} {i : kw_I} {w : kw_L} {Q : Int32 → Prop} {E : kw_E} {G : kw_G} (hm : kw_m E G cX10_ones 3 RX10 (some .int) rm_X10_ones "ones")     {k4 : Int32 → Int32 → Prop} (hk4 : ∀ (x1 : Int32) (x2 : Int32), k4 x1 x2 → kw_K E G 3 0 0 (kw_Z E G 0 0 (kw_PI (fun v T' n' r' i' w' => T = T' ∧ n = n' ∧ r = r' ∧ i = i' ∧ w = w' ∧ Q v))) 4 [(0, kw_i x0), (1, kw_i x1), (2, kw_i x2)] [] T n r i w) (x1 : Int32) (x2 : Int32) (h : s_X10_ones_4 x0 T n r i w Q  k4 x1 x2) : kw_K E G 3 0 0 (kw_Z E G 0 0 (kw_PI (fun v T' n' r' i' w' => T = T' ∧ n = n' ∧ r = r' ∧ i = i' ∧ w = w' ∧ Q v))) 4 [(0, kw_i x0), (1, kw_i x1), (2, kw_i x2)] [] T n r i w := by
  refine kk_iload_n hm.1 2 dX10_ones_4 rfl rfl ?_
  refine kk_bipush (v := (10 : Int32)) hm.1 dX10_ones_5 (by decide) ?_
  refine kk_icmp_ge (tgt := 24) hm.1 dX10_ones_7 (by decide) (fun c7 => ?_) (fun c7 => ?_)
  · have h := h.1 c7
    refine kk_iload_n hm.1 1 dX10_ones_24 rfl rfl ?_
    exact kk_iret hm.1 hm.2.1 dX10_ones_25 ⟨_, rfl, rfl, rfl, rfl, rfl, rfl, h⟩
  · have h := h.2 c7
    refine kk_iload_n hm.1 1 dX10_ones_10 rfl rfl ?_
    refine kk_iload_n hm.1 0 dX10_ones_11 rfl rfl ?_
    refine kk_iload_n hm.1 2 dX10_ones_12 rfl rfl ?_
    refine kk_ishr hm.1 dX10_ones_13 ?_
    refine kk_iconst (v := (1 : Int32)) hm.1 dX10_ones_14 (by decide) ?_
    refine kk_iand hm.1 dX10_ones_15 ?_
    refine kk_iadd hm.1 dX10_ones_16 ?_
    refine kk_istore_n (L' := [(1, kw_i (x1 + ((x0 >>> (x2 &&& 31)) &&& (1 : Int32)))), (0, kw_i x0), (2, kw_i x2)]) hm.1 dX10_ones_17 rfl (by decide) rfl ?_
    refine kk_iinc (v := (x2 + (1 : Int32))) (L' := [(2, kw_i (x2 + (1 : Int32))), (1, kw_i (x1 + ((x0 >>> (x2 &&& 31)) &&& (1 : Int32)))), (0, kw_i x0)]) hm.1 2 dX10_ones_18 rfl rfl (by decide) rfl ?_
    refine kk_goto (tgt := 4) hm.1 dX10_ones_21 (by decide) ?_
    refine kk_loc (L' := [(0, kw_i x0), (1, kw_i (x1 + ((x0 >>> (x2 &&& 31)) &&& (1 : Int32)))), (2, kw_i (x2 + (1 : Int32)))]) [2, 1, 0] rfl ?_
    exact hk4 ((x1 + ((x0 >>> (x2 &&& 31)) &&& (1 : Int32)))) ((x2 + (1 : Int32))) h
set_option maxHeartbeats 4000000 in
set_option maxRecDepth 100000 in
theorem q_X10_ones_4 {x0 : Int32} {T : kw_T} {n : Nat} {r : kw_R} {i : kw_I} {w : kw_L} {Q : Int32 → Prop} {E : kw_E} {G : kw_G} (hm : kw_m E G cX10_ones 3 RX10 (some .int) rm_X10_ones "ones")     : ∀ (N : Nat) (x1 : Int32) (x2 : Int32), w_X10_ones_4 x0 T n r i w Q  N x1 x2 → kw_K E G 3 0 0 (kw_Z E G 0 0 (kw_PI (fun v T' n' r' i' w' => T = T' ∧ n = n' ∧ r = r' ∧ i = i' ∧ w = w' ∧ Q v))) 4 [(0, kw_i x0), (1, kw_i x1), (2, kw_i x2)] [] T n r i w := by
  intro N
  induction N with
  | zero => intro x1 x2 h; exact h.elim
  | succ N ih => intro x1 x2 h; exact qs_X10_ones_4 hm    ih x1 x2 h
set_option maxHeartbeats 4000000 in
set_option maxRecDepth 100000 in
theorem t_X10_ones {l : Launch} {G : kw_G} {x0 : Int32} {T : kw_T} {n : Nat} {r : kw_R} {i : kw_I} {w : kw_L} {Q : Int32 → Prop} (h : w_X10_ones x0 T n r i w Q) : kw_Met l G yX10_ones cX10_ones 3 (some .int) rm_X10_ones [kw_i x0] (T, n, r, i, w) (kw_PI (fun v T' n' r' i' w' => T = T' ∧ n = n' ∧ r = r' ∧ i = i' ∧ w = w' ∧ Q v)) := by
  refine kw_Met.of (by decide) (Nat.le_of_ble_eq_true rfl) fun E hl hRm hE hT hnm => ?_
  have hm : kw_m E G cX10_ones 3 RX10 (some .int) rm_X10_ones "ones" := ⟨hE, hT, hRm, hnm⟩
  subst hl
  show kw_K E G 3 0 0 (kw_Z E G 0 0 (kw_PI (fun v T' n' r' i' w' => T = T' ∧ n = n' ∧ r = r' ∧ i = i' ∧ w = w' ∧ Q v))) 0 [(0, kw_i x0)] [] T n r i w
  refine kk_iconst (v := (0 : Int32)) hm.1 dX10_ones_0 (by decide) ?_
  refine kk_istore_n (L' := [(1, kw_i (0 : Int32)), (0, kw_i x0)]) hm.1 dX10_ones_1 rfl (by decide) rfl ?_
  refine kk_iconst (v := (0 : Int32)) hm.1 dX10_ones_2 (by decide) ?_
  refine kk_istore_n (L' := [(2, kw_i (0 : Int32)), (1, kw_i (0 : Int32)), (0, kw_i x0)]) hm.1 dX10_ones_3 rfl (by decide) rfl ?_
  refine kk_loc (L' := [(0, kw_i x0), (1, kw_i (0 : Int32)), (2, kw_i (0 : Int32))]) [2, 1, 0] rfl ?_
  obtain ⟨N, h⟩ := h
  exact q_X10_ones_4 hm    N ((0 : Int32)) ((0 : Int32)) h
