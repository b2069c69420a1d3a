def w_X10_look_160 (a0 : Nat) (x1 : Int32) (x2 : Int32) (T : kw_T) (n : Nat) (r : kw_R) (w : kw_L) (Q : Int32 → kw_I → Prop) (k35 : Int32 → Int32 → Int32 → Int32 → kw_I → Prop) (x3 : Int32) (x4 : Int32) (x5 : Int32) (x6 : Int32) (i : kw_I) : Prop :=
  k35 x3 x4 x5 ((x6 + (1 : Int32))) i
def w_X10_look_157 (a0 : Nat) (x1 : Int32) (x2 : Int32) (T : kw_T) (n : Nat) (r : kw_R) (w : kw_L) (Q : Int32 → kw_I → Prop) (k35 : Int32 → Int32 → Int32 → Int32 → kw_I → Prop) (x3 : Int32) (x4 : Int32) (x5 : Int32) (x6 : Int32) (i : kw_I) : Prop :=
  w_X10_look_160 a0 x1 x2 T n r w Q k35 x3 x4 ((x5 + (1 : Int32))) x6 i
def w_X10_look_147 (a0 : Nat) (x1 : Int32) (x2 : Int32) (T : kw_T) (n : Nat) (r : kw_R) (w : kw_L) (Q : Int32 → kw_I → Prop) (k35 : Int32 → Int32 → Int32 → Int32 → kw_I → Prop) (x6 : Int32) (x7 : Int32) (i : kw_I) : Prop :=
  w_X10_look_157 a0 x1 x2 T n r w Q k35 x6 x7 ((0 : Int32)) x6 i
def w_X10_look_123 (a0 : Nat) (x1 : Int32) (x2 : Int32) (T : kw_T) (n : Nat) (r : kw_R) (w : kw_L) (Q : Int32 → kw_I → Prop) (k35 : Int32 → Int32 → Int32 → Int32 → kw_I → Prop) (x3 : Int32) (x4 : Int32) (x5 : Int32) (x6 : Int32) (x7 : Int32) (i : kw_I) : Prop :=
  (x3 = (-1 : Int32) → w_X10_look_147 a0 x1 x2 T n r w Q k35 x6 x7 i) ∧ (¬ x3 = (-1 : Int32) → (x4 < x7 → w_X10_look_147 a0 x1 x2 T n r w Q k35 x6 x7 i) ∧ (¬ x4 < x7 → w_X10_ones x6 T n r i w (fun v137 => w_X10_ones x3 T n r i w (fun v141 => (v141 ≤ v137 → w_X10_look_157 a0 x1 x2 T n r w Q k35 x3 x4 x5 x6 i) ∧ (¬ v141 ≤ v137 → w_X10_look_147 a0 x1 x2 T n r w Q k35 x6 x7 i)))))
def s_X10_look_35 (a0 : Nat) (x1 : Int32) (x2 : Int32) (T : kw_T) (n : Nat) (r : kw_R) (w : kw_L) (Q : Int32 → kw_I → Prop)  (k35 : Int32 → Int32 → Int32 → Int32 → kw_I → Prop) (x3 : Int32) (x4 : Int32) (x5 : Int32) (x6 : Int32) (i : kw_I) : Prop :=
  w_X10_villages a0 T n r i w (fun v39 => (((1 : Int32) <<< (v39 &&& 31)) ≤ x6 → (¬ x2 = 0 → (¬ x2 = (1 : Int32) → Q x5 i) ∧ (x2 = (1 : Int32) → Q x3 i)) ∧ (x2 = 0 → Q x4 i)) ∧ (¬ ((1 : Int32) <<< (v39 &&& 31)) ≤ x6 → w_X10_ones x6 T n r i w (fun v48 => (v48 ≤ x1 → ∀ i61 : kw_I, i61 = kw_st i a0 27 x6 → (w_X10_tries a0 (-1 : Int32) (0 : Int32) T n r i61 w (fun i67 => w_X10_endOf a0 T n r i67 w (fun v75 => w_X10_likeness (r a0 24) v75 (r a0 2) (60 : Int32) T n r i67 w (fun v84 => (x3 = (-1 : Int32) → w_X10_look_123 a0 x1 x2 T n r w Q k35 x3 x4 x5 x6 v84 i67) ∧ (¬ x3 = (-1 : Int32) → (v84 < x4 → w_X10_look_160 a0 x1 x2 T n r w Q k35 x3 x4 x5 x6 i67) ∧ (¬ v84 < x4 → (¬ v84 = x4 → w_X10_look_123 a0 x1 x2 T n r w Q k35 x3 x4 x5 x6 v84 i67) ∧ (v84 = x4 → w_X10_ones x6 T n r i67 w (fun v110 => w_X10_ones x3 T n r i67 w (fun v114 => (v110 ≤ v114 → w_X10_look_123 a0 x1 x2 T n r w Q k35 x3 x4 x5 x6 v84 i67) ∧ (¬ v110 ≤ v114 → w_X10_look_160 a0 x1 x2 T n r w Q k35 x3 x4 x5 x6 i67))))))))))) ∧ (¬ v48 ≤ x1 → w_X10_look_160 a0 x1 x2 T n r w Q k35 x3 x4 x5 x6 i))))
def w_X10_look_35 (a0 : Nat) (x1 : Int32) (x2 : Int32) (T : kw_T) (n : Nat) (r : kw_R) (w : kw_L) (Q : Int32 → kw_I → Prop)  : Nat → Int32 → Int32 → Int32 → Int32 → kw_I → Prop
  | 0 => fun _ _ _ _ _ => False
  | N + 1 => s_X10_look_35 a0 x1 x2 T n r w Q  (w_X10_look_35 a0 x1 x2 T n r w Q  N)
def w_X10_look  (a0 : Nat) (x1 : Int32) (x2 : Int32) (T : kw_T) (n : Nat) (r : kw_R) (i : kw_I) (w : kw_L) (Q : Int32 → kw_I → Prop) : Prop :=
  w_X10_lies x1 (0 : Int32) (3 : Int32) T n r i w (fun v3 => (v3 = 0 → Q (-1 : Int32) i) ∧ (¬ v3 = 0 → w_X10_lies x2 (0 : Int32) (2 : Int32) T n r i w (fun v12 => (¬ v12 = 0 → w_X10_plain a0 T n r i w (fun i21 => ∃ N, w_X10_look_35 a0 x1 x2 T n r w Q  N ((-1 : Int32)) ((-1 : Int32)) ((0 : Int32)) ((0 : Int32)) i21)) ∧ (v12 = 0 → Q (-1 : Int32) i))))
abbrev rm_X10_look : Room := { frames := 129, cells := 0, slots := 0, locals := 6255 }
set_option maxHeartbeats 4000000 in
set_option maxRecDepth 100000 in
theorem q_X10_look_160 {a0 : Nat} {x1 : Int32} {x2 : Int32} {T : kw_T} {n : Nat} {r : kw_R} {w : kw_L} {Q : Int32 → kw_I → Prop} {E : kw_E} {G : kw_G} (hm : kw_m E G cX10_look 8 RX10 (some .int) rm_X10_look "look")  (h0 : T a0 = (0, 10))  {k35 : Int32 → Int32 → Int32 → Int32 → kw_I → Prop} (hk35 : ∀ (x3 : Int32) (x4 : Int32) (x5 : Int32) (x6 : Int32) (i : kw_I), k35 x3 x4 x5 x6 i → kw_K E G 8 0 0 (kw_Z E G 0 0 (kw_PI (fun v T' n' r' i' w' => T = T' ∧ n = n' ∧ r = r' ∧ w = w' ∧ Q v i'))) 35 [(0, kw_a a0), (1, kw_i x1), (2, kw_i x2), (3, kw_i x3), (4, kw_i x4), (5, kw_i x5), (6, kw_i x6)] [] T n r i w) (x3 : Int32) (x4 : Int32) (x5 : Int32) (x6 : Int32) (i : kw_I) (h : w_X10_look_160 a0 x1 x2 T n r w Q k35 x3 x4 x5 x6 i) : kw_K E G 8 0 0 (kw_Z E G 0 0 (kw_PI (fun v T' n' r' i' w' => T = T' ∧ n = n' ∧ r = r' ∧ w = w' ∧ Q v i'))) 160 [(0, kw_a a0), (1, kw_i x1), (2, kw_i x2), (3, kw_i x3), (4, kw_i x4), (5, kw_i x5), (6, kw_i x6)] [] T n r i w := by
  refine kk_iinc (v := (x6 + (1 : Int32))) (L' := [(6, kw_i (x6 + (1 : Int32))), (0, kw_a a0), (1, kw_i x1), (2, kw_i x2), (3, kw_i x3), (4, kw_i x4), (5, kw_i x5)]) hm.1 6 dX10_look_160 rfl rfl (by decide) rfl ?_
  refine kk_goto (tgt := 35) hm.1 dX10_look_163 (by decide) ?_
  refine kk_loc (L' := [(0, kw_a a0), (1, kw_i x1), (2, kw_i x2), (3, kw_i x3), (4, kw_i x4), (5, kw_i x5), (6, kw_i (x6 + (1 : Int32)))]) [1, 2, 3, 4, 5, 6, 0] rfl ?_
  exact hk35 x3 x4 x5 ((x6 + (1 : Int32))) i h
set_option maxHeartbeats 4000000 in
set_option maxRecDepth 100000 in
theorem q_X10_look_157 {a0 : Nat} {x1 : Int32} {x2 : Int32} {T : kw_T} {n : Nat} {r : kw_R} {w : kw_L} {Q : Int32 → kw_I → Prop} {E : kw_E} {G : kw_G} (hm : kw_m E G cX10_look 8 RX10 (some .int) rm_X10_look "look")  (h0 : T a0 = (0, 10))  {k35 : Int32 → Int32 → Int32 → Int32 → kw_I → Prop} (hk35 : ∀ (x3 : Int32) (x4 : Int32) (x5 : Int32) (x6 : Int32) (i : kw_I), k35 x3 x4 x5 x6 i → kw_K E G 8 0 0 (kw_Z E G 0 0 (kw_PI (fun v T' n' r' i' w' => T = T' ∧ n = n' ∧ r = r' ∧ w = w' ∧ Q v i'))) 35 [(0, kw_a a0), (1, kw_i x1), (2, kw_i x2), (3, kw_i x3), (4, kw_i x4), (5, kw_i x5), (6, kw_i x6)] [] T n r i w) (x3 : Int32) (x4 : Int32) (x5 : Int32) (x6 : Int32) (i : kw_I) (h : w_X10_look_157 a0 x1 x2 T n r w Q k35 x3 x4 x5 x6 i) : kw_K E G 8 0 0 (kw_Z E G 0 0 (kw_PI (fun v T' n' r' i' w' => T = T' ∧ n = n' ∧ r = r' ∧ w = w' ∧ Q v i'))) 157 [(0, kw_a a0), (1, kw_i x1), (2, kw_i x2), (3, kw_i x3), (4, kw_i x4), (5, kw_i x5), (6, kw_i x6)] [] T n r i w := by
  refine kk_iinc (v := (x5 + (1 : Int32))) (L' := [(5, kw_i (x5 + (1 : Int32))), (0, kw_a a0), (1, kw_i x1), (2, kw_i x2), (3, kw_i x3), (4, kw_i x4), (6, kw_i x6)]) hm.1 5 dX10_look_157 rfl rfl (by decide) rfl ?_
  refine kk_loc (L' := [(0, kw_a a0), (1, kw_i x1), (2, kw_i x2), (3, kw_i x3), (4, kw_i x4), (5, kw_i (x5 + (1 : Int32))), (6, kw_i x6)]) [1, 2, 3, 4, 5, 0, 6] rfl ?_
  exact q_X10_look_160 hm  h0  hk35 x3 x4 ((x5 + (1 : Int32))) x6 i h
set_option maxHeartbeats 4000000 in
set_option maxRecDepth 100000 in
theorem q_X10_look_147 {a0 : Nat} {x1 : Int32} {x2 : Int32} {T : kw_T} {n : Nat} {r : kw_R} {w : kw_L} {Q : Int32 → kw_I → Prop} {E : kw_E} {G : kw_G} (hm : kw_m E G cX10_look 8 RX10 (some .int) rm_X10_look "look")  (h0 : T a0 = (0, 10))  {k35 : Int32 → Int32 → Int32 → Int32 → kw_I → Prop} (hk35 : ∀ (x3 : Int32) (x4 : Int32) (x5 : Int32) (x6 : Int32) (i : kw_I), k35 x3 x4 x5 x6 i → kw_K E G 8 0 0 (kw_Z E G 0 0 (kw_PI (fun v T' n' r' i' w' => T = T' ∧ n = n' ∧ r = r' ∧ w = w' ∧ Q v i'))) 35 [(0, kw_a a0), (1, kw_i x1), (2, kw_i x2), (3, kw_i x3), (4, kw_i x4), (5, kw_i x5), (6, kw_i x6)] [] T n r i w) (x6 : Int32) (x7 : Int32) (i : kw_I) (h : w_X10_look_147 a0 x1 x2 T n r w Q k35 x6 x7 i) : kw_K E G 8 0 0 (kw_Z E G 0 0 (kw_PI (fun v T' n' r' i' w' => T = T' ∧ n = n' ∧ r = r' ∧ w = w' ∧ Q v i'))) 147 [(0, kw_a a0), (1, kw_i x1), (2, kw_i x2), (6, kw_i x6), (7, kw_i x7)] [] T n r i w := by
  refine kk_iload hm.1 3 dX10_look_147 rfl ?_
  refine kk_istore_n (L' := [(3, kw_i x6), (0, kw_a a0), (1, kw_i x1), (2, kw_i x2), (6, kw_i x6), (7, kw_i x7)]) hm.1 dX10_look_149 rfl (by decide) rfl ?_
  refine kk_iload hm.1 5 dX10_look_150 rfl ?_
  refine kk_istore (L' := [(4, kw_i x7), (3, kw_i x6), (0, kw_a a0), (1, kw_i x1), (2, kw_i x2), (6, kw_i x6), (7, kw_i x7)]) hm.1 dX10_look_152 (by decide) rfl ?_
  refine kk_iconst (v := (0 : Int32)) hm.1 dX10_look_154 (by decide) ?_
  refine kk_istore (L' := [(5, kw_i (0 : Int32)), (4, kw_i x7), (3, kw_i x6), (0, kw_a a0), (1, kw_i x1), (2, kw_i x2), (6, kw_i x6), (7, kw_i x7)]) hm.1 dX10_look_155 (by decide) rfl ?_
  refine kk_loc (L' := [(0, kw_a a0), (1, kw_i x1), (2, kw_i x2), (3, kw_i x6), (4, kw_i x7), (5, kw_i (0 : Int32)), (6, kw_i x6)]) [3, 4, 5, 2, 1, 0, 6] rfl ?_
  exact q_X10_look_157 hm  h0  hk35 x6 x7 ((0 : Int32)) x6 i h
set_option maxHeartbeats 4000000 in
set_option maxRecDepth 100000 in
theorem q_X10_look_123 {a0 : Nat} {x1 : Int32} {x2 : Int32} {T : kw_T} {n : Nat} {r : kw_R} {w : kw_L} {Q : Int32 → kw_I → Prop} {E : kw_E} {G : kw_G} (hm : kw_m E G cX10_look 8 RX10 (some .int) rm_X10_look "look")  (h0 : T a0 = (0, 10))  {k35 : Int32 → Int32 → Int32 → Int32 → kw_I → Prop} (hk35 : ∀ (x3 : Int32) (x4 : Int32) (x5 : Int32) (x6 : Int32) (i : kw_I), k35 x3 x4 x5 x6 i → kw_K E G 8 0 0 (kw_Z E G 0 0 (kw_PI (fun v T' n' r' i' w' => T = T' ∧ n = n' ∧ r = r' ∧ w = w' ∧ Q v i'))) 35 [(0, kw_a a0), (1, kw_i x1), (2, kw_i x2), (3, kw_i x3), (4, kw_i x4), (5, kw_i x5), (6, kw_i x6)] [] T n r i w) (x3 : Int32) (x4 : Int32) (x5 : Int32) (x6 : Int32) (x7 : Int32) (i : kw_I) (h : w_X10_look_123 a0 x1 x2 T n r w Q k35 x3 x4 x5 x6 x7 i) : kw_K E G 8 0 0 (kw_Z E G 0 0 (kw_PI (fun v T' n' r' i' w' => T = T' ∧ n = n' ∧ r = r' ∧ w = w' ∧ Q v i'))) 123 [(0, kw_a a0), (1, kw_i x1), (2, kw_i x2), (3, kw_i x3), (4, kw_i x4), (5, kw_i x5), (6, kw_i x6), (7, kw_i x7)] [] T n r i w := by
  refine kk_iload_n hm.1 3 dX10_look_123 rfl rfl ?_
  refine kk_iconst (v := (-1 : Int32)) hm.1 dX10_look_124 (by decide) ?_
  refine kk_icmp_eq (tgt := 147) hm.1 dX10_look_125 (by decide) (fun c125 => ?_) (fun c125 => ?_)
  · have h := h.1 c125
    refine kk_loc (L' := [(0, kw_a a0), (1, kw_i x1), (2, kw_i x2), (6, kw_i x6), (7, kw_i x7)]) [0, 1, 2, 6, 7] rfl ?_
    exact q_X10_look_147 hm  h0  hk35 x6 x7 i h
  · have h := h.2 c125
    refine kk_iload hm.1 7 dX10_look_128 rfl ?_
    refine kk_iload hm.1 4 dX10_look_130 rfl ?_
    refine kk_icmp_gt (tgt := 147) hm.1 dX10_look_132 (by decide) (fun c132 => ?_) (fun c132 => ?_)
    · have h := h.1 c132
      refine kk_loc (L' := [(0, kw_a a0), (1, kw_i x1), (2, kw_i x2), (6, kw_i x6), (7, kw_i x7)]) [0, 1, 2, 6, 7] rfl ?_
      exact q_X10_look_147 hm  h0  hk35 x6 x7 i h
    · have h := h.2 c132
      refine kk_iload hm.1 6 dX10_look_135 rfl ?_
      refine kk_callSi (cs' := 0) (sl' := 0) (st := []) hm.1 cs_X10_300 (t_X10_ones h) dX10_look_137 rfl hm.2.2.1 ⟨by decide, by decide⟩ ⟨by decide, by decide⟩ rfl rfl (Nat.le_of_ble_eq_true rfl) rfl ?_
      rintro v137 _ _ _ _ _ ⟨rfl, rfl, rfl, rfl, rfl, h⟩
      refine kk_iload_n hm.1 3 dX10_look_140 rfl rfl ?_
      refine kk_callSi (cs' := 0) (sl' := 0) (st := [kw_i v137]) hm.1 cs_X10_300 (t_X10_ones h) dX10_look_141 rfl hm.2.2.1 ⟨by decide, by decide⟩ ⟨by decide, by decide⟩ rfl rfl (Nat.le_of_ble_eq_true rfl) rfl ?_
      rintro v141 _ _ _ _ _ ⟨rfl, rfl, rfl, rfl, rfl, h⟩
      refine kk_icmp_ge (tgt := 157) hm.1 dX10_look_144 (by decide) (fun c144 => ?_) (fun c144 => ?_)
      · have h := h.1 c144
        refine kk_loc (L' := [(0, kw_a a0), (1, kw_i x1), (2, kw_i x2), (3, kw_i x3), (4, kw_i x4), (5, kw_i x5), (6, kw_i x6)]) [0, 1, 2, 3, 4, 5, 6] rfl ?_
        exact q_X10_look_157 hm  h0  hk35 x3 x4 x5 x6 i h
      · have h := h.2 c144
        refine kk_loc (L' := [(0, kw_a a0), (1, kw_i x1), (2, kw_i x2), (6, kw_i x6), (7, kw_i x7)]) [0, 1, 2, 6, 7] rfl ?_
        exact q_X10_look_147 hm  h0  hk35 x6 x7 i h
set_option maxHeartbeats 4000000 in
set_option maxRecDepth 100000 in
theorem qs_X10_look_35 {a0 : Nat} {x1 : Int32} {x2 : Int32} {T : kw_T} {n : Nat} {r : kw_R} {w : kw_L} {Q : Int32 → kw_I → Prop} {E : kw_E} {G : kw_G} (hm : kw_m E G cX10_look 8 RX10 (some .int) rm_X10_look "look")  (h0 : T a0 = (0, 10))    {k35 : Int32 → Int32 → Int32 → Int32 → kw_I → Prop} (hk35 : ∀ (x3 : Int32) (x4 : Int32) (x5 : Int32) (x6 : Int32) (i : kw_I), k35 x3 x4 x5 x6 i → kw_K E G 8 0 0 (kw_Z E G 0 0 (kw_PI (fun v T' n' r' i' w' => T = T' ∧ n = n' ∧ r = r' ∧ w = w' ∧ Q v i'))) 35 [(0, kw_a a0), (1, kw_i x1), (2, kw_i x2), (3, kw_i x3), (4, kw_i x4), (5, kw_i x5), (6, kw_i x6)] [] T n r i w) (x3 : Int32) (x4 : Int32) (x5 : Int32) (x6 : Int32) (i : kw_I) (h : s_X10_look_35 a0 x1 x2 T n r w Q  k35 x3 x4 x5 x6 i) : kw_K E G 8 0 0 (kw_Z E G 0 0 (kw_PI (fun v T' n' r' i' w' => T = T' ∧ n = n' ∧ r = r' ∧ w = w' ∧ Q v i'))) 35 [(0, kw_a a0), (1, kw_i x1), (2, kw_i x2), (3, kw_i x3), (4, kw_i x4), (5, kw_i x5), (6, kw_i x6)] [] T n r i w := by
  refine kk_iload hm.1 6 dX10_look_35 rfl ?_
  refine kk_iconst (v := (1 : Int32)) hm.1 dX10_look_37 (by decide) ?_
  refine kk_aload_n hm.1 0 dX10_look_38 rfl rfl ?_
  refine kk_callVi (cs' := 0) (sl' := 0) (st := [kw_i (1 : Int32), kw_i x6]) hm.1 cv_X10_84 (t_X10_villages h0 h) dX10_look_39 h0 rfl rfl hm.2.2.1 ⟨by decide, by decide⟩ ⟨by decide, by decide⟩ rfl rfl (Nat.le_of_ble_eq_true rfl) rfl ?_
  rintro v39 _ _ _ _ _ ⟨rfl, rfl, rfl, rfl, rfl, h⟩
  refine kk_ishl hm.1 dX10_look_42 ?_
  refine kk_icmp_ge (tgt := 166) hm.1 dX10_look_43 (by decide) (fun c43 => ?_) (fun c43 => ?_)
  · have h := h.1 c43
    refine kk_iload_n hm.1 2 dX10_look_166 rfl rfl ?_
    refine kk_if_ne (tgt := 175) hm.1 dX10_look_167 (by decide) (fun c167 => ?_) (fun c167 => ?_)
    · have h := h.1 c167
      refine kk_iload_n hm.1 2 dX10_look_175 rfl rfl ?_
      refine kk_iconst (v := (1 : Int32)) hm.1 dX10_look_176 (by decide) ?_
      refine kk_icmp_ne (tgt := 184) hm.1 dX10_look_177 (by decide) (fun c177 => ?_) (fun c177 => ?_)
      · have h := h.1 c177
        refine kk_iload hm.1 5 dX10_look_184 rfl ?_
        exact kk_iret hm.1 hm.2.1 dX10_look_186 ⟨_, rfl, rfl, rfl, rfl, rfl, h⟩
      · have h := h.2 c177
        refine kk_iload_n hm.1 3 dX10_look_180 rfl rfl ?_
        refine kk_goto (tgt := 186) hm.1 dX10_look_181 (by decide) ?_
        exact kk_iret hm.1 hm.2.1 dX10_look_186 ⟨_, rfl, rfl, rfl, rfl, rfl, h⟩
    · have h := h.2 c167
      refine kk_iload hm.1 4 dX10_look_170 rfl ?_
      refine kk_goto (tgt := 186) hm.1 dX10_look_172 (by decide) ?_
      exact kk_iret hm.1 hm.2.1 dX10_look_186 ⟨_, rfl, rfl, rfl, rfl, rfl, h⟩
  · have h := h.2 c43
    refine kk_iload hm.1 6 dX10_look_46 rfl ?_
    refine kk_callSi (cs' := 0) (sl' := 0) (st := []) hm.1 cs_X10_300 (t_X10_ones h) dX10_look_48 rfl hm.2.2.1 ⟨by decide, by decide⟩ ⟨by decide, by decide⟩ rfl rfl (Nat.le_of_ble_eq_true rfl) rfl ?_
    rintro v48 _ _ _ _ _ ⟨rfl, rfl, rfl, rfl, rfl, h⟩
    refine kk_iload_n hm.1 1 dX10_look_51 rfl rfl ?_
    refine kk_icmp_le (tgt := 58) hm.1 dX10_look_52 (by decide) (fun c52 => ?_) (fun c52 => ?_)
    · have h := h.1 c52
      refine kk_aload_n hm.1 0 dX10_look_58 rfl rfl ?_
      refine kk_iload hm.1 6 dX10_look_59 rfl ?_
      refine kn_putI hm.1 fp_X10_233 dX10_look_61 h0 (fun i61 e61 => ?_)
      have h := h i61 e61
      refine kk_aload_n hm.1 0 dX10_look_64 rfl rfl ?_
      refine kk_iconst (v := (-1 : Int32)) hm.1 dX10_look_65 (by decide) ?_
      refine kk_iconst (v := (0 : Int32)) hm.1 dX10_look_66 (by decide) ?_
      refine kk_callVv (cs' := 0) (sl' := 0) (st := []) hm.1 cv_X10_296 (t_X10_tries h0 h) dX10_look_67 h0 rfl rfl hm.2.2.1 ⟨by decide, by decide⟩ ⟨by decide, by decide⟩ rfl rfl (Nat.le_of_ble_eq_true rfl) rfl ?_
      rintro _ _ _ i67 _ ⟨rfl, rfl, rfl, rfl, h⟩
      refine kk_aload_n hm.1 0 dX10_look_70 rfl rfl ?_
      refine kk_getR hm.1 ff_X10_58 dX10_look_71 h0 ?_
      refine kk_aload_n hm.1 0 dX10_look_74 rfl rfl ?_
      refine kk_callVi (cs' := 0) (sl' := 0) (st := [kw_a (r a0 24)]) hm.1 cv_X10_293 (t_X10_endOf h0 h) dX10_look_75 h0 rfl rfl hm.2.2.1 ⟨by decide, by decide⟩ ⟨by decide, by decide⟩ rfl rfl (Nat.le_of_ble_eq_true rfl) rfl ?_
      rintro v75 _ _ _ _ _ ⟨rfl, rfl, rfl, rfl, rfl, h⟩
      refine kk_aload_n hm.1 0 dX10_look_78 rfl rfl ?_
      refine kk_getR hm.1 ff_X10_17 dX10_look_79 h0 ?_
      refine kk_bipush (v := (60 : Int32)) hm.1 dX10_look_82 (by decide) ?_
      refine kk_callSi (cs' := 0) (sl' := 0) (st := []) hm.1 cs_X10_289 (t_X10_likeness h) dX10_look_84 rfl hm.2.2.1 ⟨by decide, by decide⟩ ⟨by decide, by decide⟩ rfl rfl (Nat.le_of_ble_eq_true rfl) rfl ?_
      rintro v84 _ _ _ _ _ ⟨rfl, rfl, rfl, rfl, rfl, h⟩
      refine kk_istore (L' := [(7, kw_i v84), (0, kw_a a0), (1, kw_i x1), (2, kw_i x2), (3, kw_i x3), (4, kw_i x4), (5, kw_i x5), (6, kw_i x6)]) hm.1 dX10_look_87 (by decide) rfl ?_
      refine kk_iload_n hm.1 4 dX10_look_89 rfl rfl ?_
      refine kk_iconst (v := (-1 : Int32)) hm.1 dX10_look_90 (by decide) ?_
      refine kk_icmp_eq (tgt := 123) hm.1 dX10_look_91 (by decide) (fun c91 => ?_) (fun c91 => ?_)
      · have h := h.1 c91
        refine kk_loc (L' := [(0, kw_a a0), (1, kw_i x1), (2, kw_i x2), (3, kw_i x3), (4, kw_i x4), (5, kw_i x5), (6, kw_i x6), (7, kw_i v84)]) [1, 2, 3, 4, 5, 6, 7, 0] rfl ?_
        exact q_X10_look_123 hm  h0  hk35 x3 x4 x5 x6 v84 i67 h
      · have h := h.2 c91
        refine kk_iload hm.1 0 dX10_look_94 rfl ?_
        refine kk_iload hm.1 5 dX10_look_96 rfl ?_
        refine kk_icmp_lt (tgt := 160) hm.1 dX10_look_98 (by decide) (fun c98 => ?_) (fun c98 => ?_)
        · have h := h.1 c98
          refine kk_loc (L' := [(0, kw_a a0), (1, kw_i x1), (2, kw_i x2), (3, kw_i x3), (4, kw_i x4), (5, kw_i x5), (6, kw_i x6)]) [1, 2, 3, 4, 5, 6, 7] rfl ?_
          exact q_X10_look_160 hm  h0  hk35 x3 x4 x5 x6 i67 h
        · have h := h.2 c98
          refine kk_iload hm.1 0 dX10_look_101 rfl ?_
          refine kk_iload hm.1 5 dX10_look_103 rfl ?_
          refine kk_icmp_ne (tgt := 123) hm.1 dX10_look_105 (by decide) (fun c105 => ?_) (fun c105 => ?_)
          · have h := h.1 c105
            refine kk_loc (L' := [(0, kw_a a0), (1, kw_i x1), (2, kw_i x2), (3, kw_i x3), (4, kw_i x4), (5, kw_i x5), (6, kw_i x6), (7, kw_i v84)]) [1, 2, 3, 4, 5, 6, 7, 0] rfl ?_
            exact q_X10_look_123 hm  h0  hk35 x3 x4 x5 x6 v84 i67 h
          · have h := h.2 c105
            refine kk_iload hm.1 7 dX10_look_108 rfl ?_
            refine kk_callSi (cs' := 0) (sl' := 0) (st := []) hm.1 cs_X10_300 (t_X10_ones h) dX10_look_110 rfl hm.2.2.1 ⟨by decide, by decide⟩ ⟨by decide, by decide⟩ rfl rfl (Nat.le_of_ble_eq_true rfl) rfl ?_
            rintro v110 _ _ _ _ _ ⟨rfl, rfl, rfl, rfl, rfl, h⟩
            refine kk_iload_n hm.1 4 dX10_look_113 rfl rfl ?_
            refine kk_callSi (cs' := 0) (sl' := 0) (st := [kw_i v110]) hm.1 cs_X10_300 (t_X10_ones h) dX10_look_114 rfl hm.2.2.1 ⟨by decide, by decide⟩ ⟨by decide, by decide⟩ rfl rfl (Nat.le_of_ble_eq_true rfl) rfl ?_
            rintro v114 _ _ _ _ _ ⟨rfl, rfl, rfl, rfl, rfl, h⟩
            refine kk_icmp_le (tgt := 123) hm.1 dX10_look_117 (by decide) (fun c117 => ?_) (fun c117 => ?_)
            · have h := h.1 c117
              refine kk_loc (L' := [(0, kw_a a0), (1, kw_i x1), (2, kw_i x2), (3, kw_i x3), (4, kw_i x4), (5, kw_i x5), (6, kw_i x6), (7, kw_i v84)]) [1, 2, 3, 4, 5, 6, 7, 0] rfl ?_
              exact q_X10_look_123 hm  h0  hk35 x3 x4 x5 x6 v84 i67 h
            · have h := h.2 c117
              refine kk_goto (tgt := 160) hm.1 dX10_look_120 (by decide) ?_
              refine kk_loc (L' := [(0, kw_a a0), (1, kw_i x1), (2, kw_i x2), (3, kw_i x3), (4, kw_i x4), (5, kw_i x5), (6, kw_i x6)]) [1, 2, 3, 4, 5, 6, 7] rfl ?_
              exact q_X10_look_160 hm  h0  hk35 x3 x4 x5 x6 i67 h
    · have h := h.2 c52
      refine kk_goto (tgt := 160) hm.1 dX10_look_55 (by decide) ?_
      exact q_X10_look_160 hm  h0  hk35 x3 x4 x5 x6 i h
set_option maxHeartbeats 4000000 in
set_option maxRecDepth 100000 in
theorem q_X10_look_35 {a0 : Nat} {x1 : Int32} {x2 : Int32} {T : kw_T} {n : Nat} {r : kw_R} {w : kw_L} {Q : Int32 → kw_I → Prop} {E : kw_E} {G : kw_G} (hm : kw_m E G cX10_look 8 RX10 (some .int) rm_X10_look "look")  (h0 : T a0 = (0, 10))    : ∀ (N : Nat) (x3 : Int32) (x4 : Int32) (x5 : Int32) (x6 : Int32) (i : kw_I), w_X10_look_35 a0 x1 x2 T n r w Q  N x3 x4 x5 x6 i → kw_K E G 8 0 0 (kw_Z E G 0 0 (kw_PI (fun v T' n' r' i' w' => T = T' ∧ n = n' ∧ r = r' ∧ w = w' ∧ Q v i'))) 35 [(0, kw_a a0), (1, kw_i x1), (2, kw_i x2), (3, kw_i x3), (4, kw_i x4), (5, kw_i x5), (6, kw_i x6)] [] T n r i w := by
  intro N
  induction N with
  | zero => intro x3 x4 x5 x6 i h; exact h.elim
  | succ N ih => intro x3 x4 x5 x6 i h; exact qs_X10_look_35 hm  h0  ih x3 x4 x5 x6 i h
set_option maxHeartbeats 4000000 in
set_option maxRecDepth 100000 in
theorem t_X10_look {l : Launch} {G : kw_G} {a0 : Nat} {x1 : Int32} {x2 : Int32} {T : kw_T} {n : Nat} {r : kw_R} {i : kw_I} {w : kw_L} {Q : Int32 → kw_I → Prop} (h0 : T a0 = (0, 10)) (h : w_X10_look a0 x1 x2 T n r i w Q) : kw_Met l G yX10_look cX10_look 8 (some .int) rm_X10_look [kw_a a0, kw_i x1, kw_i x2] (T, n, r, i, w) (kw_PI (fun v T' n' r' i' w' => T = T' ∧ n = n' ∧ r = r' ∧ w = w' ∧ Q v i')) := by
  refine kw_Met.of (by decide) (Nat.le_of_ble_eq_true rfl) fun E hl hRm hE hT hnm => ?_
  have hm : kw_m E G cX10_look 8 RX10 (some .int) rm_X10_look "look" := ⟨hE, hT, hRm, hnm⟩
  subst hl
  show kw_K E G 8 0 0 (kw_Z E G 0 0 (kw_PI (fun v T' n' r' i' w' => T = T' ∧ n = n' ∧ r = r' ∧ w = w' ∧ Q v i'))) 0 [(0, kw_a a0), (1, kw_i x1), (2, kw_i x2)] [] T n r i w
  refine kk_iload_n hm.1 1 dX10_look_0 rfl rfl ?_
  refine kk_iconst (v := (0 : Int32)) hm.1 dX10_look_1 (by decide) ?_
  refine kk_iconst (v := (3 : Int32)) hm.1 dX10_look_2 (by decide) ?_
  refine kk_callSi (cs' := 0) (sl' := 0) (st := []) hm.1 cs_X10_73 (t_X10_lies h) dX10_look_3 rfl hm.2.2.1 ⟨by decide, by decide⟩ ⟨by decide, by decide⟩ rfl rfl (Nat.le_of_ble_eq_true rfl) rfl ?_
  rintro v3 _ _ _ _ _ ⟨rfl, rfl, rfl, rfl, rfl, h⟩
  refine kk_if_eq (tgt := 18) hm.1 dX10_look_6 (by decide) (fun c6 => ?_) (fun c6 => ?_)
  · have h := h.1 c6
    refine kk_iconst (v := (-1 : Int32)) hm.1 dX10_look_18 (by decide) ?_
    exact kk_iret hm.1 hm.2.1 dX10_look_19 ⟨_, rfl, rfl, rfl, rfl, rfl, h⟩
  · have h := h.2 c6
    refine kk_iload_n hm.1 2 dX10_look_9 rfl rfl ?_
    refine kk_iconst (v := (0 : Int32)) hm.1 dX10_look_10 (by decide) ?_
    refine kk_iconst (v := (2 : Int32)) hm.1 dX10_look_11 (by decide) ?_
    refine kk_callSi (cs' := 0) (sl' := 0) (st := []) hm.1 cs_X10_73 (t_X10_lies h) dX10_look_12 rfl hm.2.2.1 ⟨by decide, by decide⟩ ⟨by decide, by decide⟩ rfl rfl (Nat.le_of_ble_eq_true rfl) rfl ?_
    rintro v12 _ _ _ _ _ ⟨rfl, rfl, rfl, rfl, rfl, h⟩
    refine kk_if_ne (tgt := 20) hm.1 dX10_look_15 (by decide) (fun c15 => ?_) (fun c15 => ?_)
    · have h := h.1 c15
      refine kk_aload_n hm.1 0 dX10_look_20 rfl rfl ?_
      refine kk_callVv (cs' := 0) (sl' := 0) (st := []) hm.1 cv_X10_270 (t_X10_plain h0 h) dX10_look_21 h0 rfl rfl hm.2.2.1 ⟨by decide, by decide⟩ ⟨by decide, by decide⟩ rfl rfl (Nat.le_of_ble_eq_true rfl) rfl ?_
      rintro _ _ _ i21 _ ⟨rfl, rfl, rfl, rfl, h⟩
      refine kk_iconst (v := (-1 : Int32)) hm.1 dX10_look_24 (by decide) ?_
      refine kk_istore_n (L' := [(3, kw_i (-1 : Int32)), (0, kw_a a0), (1, kw_i x1), (2, kw_i x2)]) hm.1 dX10_look_25 rfl (by decide) rfl ?_
      refine kk_iconst (v := (-1 : Int32)) hm.1 dX10_look_26 (by decide) ?_
      refine kk_istore (L' := [(4, kw_i (-1 : Int32)), (3, kw_i (-1 : Int32)), (0, kw_a a0), (1, kw_i x1), (2, kw_i x2)]) hm.1 dX10_look_27 (by decide) rfl ?_
      refine kk_iconst (v := (0 : Int32)) hm.1 dX10_look_29 (by decide) ?_
      refine kk_istore (L' := [(5, kw_i (0 : Int32)), (4, kw_i (-1 : Int32)), (3, kw_i (-1 : Int32)), (0, kw_a a0), (1, kw_i x1), (2, kw_i x2)]) hm.1 dX10_look_30 (by decide) rfl ?_
      refine kk_iconst (v := (0 : Int32)) hm.1 dX10_look_32 (by decide) ?_
      refine kk_istore (L' := [(6, kw_i (0 : Int32)), (5, kw_i (0 : Int32)), (4, kw_i (-1 : Int32)), (3, kw_i (-1 : Int32)), (0, kw_a a0), (1, kw_i x1), (2, kw_i x2)]) hm.1 dX10_look_33 (by decide) rfl ?_
      refine kk_loc (L' := [(0, kw_a a0), (1, kw_i x1), (2, kw_i x2), (3, kw_i (-1 : Int32)), (4, kw_i (-1 : Int32)), (5, kw_i (0 : Int32)), (6, kw_i (0 : Int32))]) [4, 5, 6, 3, 2, 1, 0] rfl ?_
      obtain ⟨N, h⟩ := h
      exact q_X10_look_35 hm  h0   N ((-1 : Int32)) ((-1 : Int32)) ((0 : Int32)) ((0 : Int32)) i21 h
    · have h := h.2 c15
      refine kk_iconst (v := (-1 : Int32)) hm.1 dX10_look_18 (by decide) ?_
      exact kk_iret hm.1 hm.2.1 dX10_look_19 ⟨_, rfl, rfl, rfl, rfl, rfl, h⟩
def w_X10_gift_115 (a0 : Nat) (x1 : Int32) (T : kw_T) (n : Nat) (r : kw_R) (w : kw_L) (Q : Int32 → kw_I → Prop) (k22 : Int32 → Int32 → Int32 → kw_I → Prop) (x2 : Int32) (x3 : Int32) (x4 : Int32) (i : kw_I) : Prop :=
  k22 x2 x3 ((x4 + (1 : Int32))) i
def s_X10_gift_22 (a0 : Nat) (x1 : Int32) (T : kw_T) (n : Nat) (r : kw_R) (w : kw_L) (Q : Int32 → kw_I → Prop)  (k22 : Int32 → Int32 → Int32 → kw_I → Prop) (x2 : Int32) (x3 : Int32) (x4 : Int32) (i : kw_I) : Prop :=
  w_X10_villages a0 T n r i w (fun v27 => (((8 : Int32) * v27) ≤ x4 → (¬ x2 = (-1 : Int32) → (¬ x1 = 0 → (¬ x1 = (1 : Int32) → Q (x2 - x2 / (8 : Int32) * (8 : Int32)) i) ∧ (x1 = (1 : Int32) → Q (x2 / (8 : Int32)) i)) ∧ (x1 = 0 → Q x3 i)) ∧ (x2 = (-1 : Int32) → Q (-1 : Int32) i)) ∧ (¬ ((8 : Int32) * v27) ≤ x4 → ∀ i40 : kw_I, i40 = kw_st i a0 28 (x4 / (8 : Int32)) → (∀ i49 : kw_I, i49 = kw_st i40 a0 29 (x4 - x4 / (8 : Int32) * (8 : Int32)) → (w_X10_factOf a0 (i49 a0 28) (5 : Int32) T n r i49 w (fun v58 => (¬ ((v58 >>> ((i49 a0 29) &&& 31)) &&& (1 : Int32)) = (1 : Int32) → w_X10_tries a0 (-1 : Int32) (0 : Int32) T n r i49 w (fun i78 => w_X10_endOf a0 T n r i78 w (fun v86 => w_X10_likeness (r a0 24) v86 (r a0 2) (60 : Int32) T n r i78 w (fun v95 => (x3 < v95 → w_X10_gift_115 a0 x1 T n r w Q k22 x4 v95 x4 i78) ∧ (¬ x3 < v95 → w_X10_gift_115 a0 x1 T n r w Q k22 x2 x3 x4 i78))))) ∧ (((v58 >>> ((i49 a0 29) &&& 31)) &&& (1 : Int32)) = (1 : Int32) → w_X10_gift_115 a0 x1 T n r w Q k22 x2 x3 x4 i49))))))
def w_X10_gift_22 (a0 : Nat) (x1 : Int32) (T : kw_T) (n : Nat) (r : kw_R) (w : kw_L) (Q : Int32 → kw_I → Prop)  : Nat → Int32 → Int32 → Int32 → kw_I → Prop
  | 0 => fun _ _ _ _ => False
  | N + 1 => s_X10_gift_22 a0 x1 T n r w Q  (w_X10_gift_22 a0 x1 T n r w Q  N)
def w_X10_gift  (a0 : Nat) (x1 : Int32) (T : kw_T) (n : Nat) (r : kw_R) (i : kw_I) (w : kw_L) (Q : Int32 → kw_I → Prop) : Prop :=
  w_X10_lies x1 (0 : Int32) (2 : Int32) T n r i w (fun v3 => (¬ v3 = 0 → w_X10_plain a0 T n r i w (fun i12 => ∃ N, w_X10_gift_22 a0 x1 T n r w Q  N ((-1 : Int32)) ((-1 : Int32)) ((0 : Int32)) i12)) ∧ (v3 = 0 → Q (-1 : Int32) i))
abbrev rm_X10_gift : Room := { frames := 129, cells := 0, slots := 0, locals := 6255 }
set_option maxHeartbeats 4000000 in
set_option maxRecDepth 100000 in
theorem q_X10_gift_115 {a0 : Nat} {x1 : Int32} {T : kw_T} {n : Nat} {r : kw_R} {w : kw_L} {Q : Int32 → kw_I → Prop} {E : kw_E} {G : kw_G} (hm : kw_m E G cX10_gift 6 RX10 (some .int) rm_X10_gift "gift")  (h0 : T a0 = (0, 10))  {k22 : Int32 → Int32 → Int32 → kw_I → Prop} (hk22 : ∀ (x2 : Int32) (x3 : Int32) (x4 : Int32) (i : kw_I), k22 x2 x3 x4 i → kw_K E G 6 0 0 (kw_Z E G 0 0 (kw_PI (fun v T' n' r' i' w' => T = T' ∧ n = n' ∧ r = r' ∧ w = w' ∧ Q v i'))) 22 [(0, kw_a a0), (1, kw_i x1), (2, kw_i x2), (3, kw_i x3), (4, kw_i x4)] [] T n r i w) (x2 : Int32) (x3 : Int32) (x4 : Int32) (i : kw_I) (h : w_X10_gift_115 a0 x1 T n r w Q k22 x2 x3 x4 i) : kw_K E G 6 0 0 (kw_Z E G 0 0 (kw_PI (fun v T' n' r' i' w' => T = T' ∧ n = n' ∧ r = r' ∧ w = w' ∧ Q v i'))) 115 [(0, kw_a a0), (1, kw_i x1), (2, kw_i x2), (3, kw_i x3), (4, kw_i x4)] [] T n r i w := by
  refine kk_iinc (v := (x4 + (1 : Int32))) (L' := [(4, kw_i (x4 + (1 : Int32))), (0, kw_a a0), (1, kw_i x1), (2, kw_i x2), (3, kw_i x3)]) hm.1 4 dX10_gift_115 rfl rfl (by decide) rfl ?_
  refine kk_goto (tgt := 22) hm.1 dX10_gift_118 (by decide) ?_
  refine kk_loc (L' := [(0, kw_a a0), (1, kw_i x1), (2, kw_i x2), (3, kw_i x3), (4, kw_i (x4 + (1 : Int32)))]) [1, 2, 3, 4, 0] rfl ?_
  exact hk22 x2 x3 ((x4 + (1 : Int32))) i h
set_option maxHeartbeats 4000000 in
set_option maxRecDepth 100000 in
theorem qs_X10_gift_22 {a0 : Nat} {x1 : Int32} {T : kw_T} {n : Nat} {r : kw_R} {w : kw_L} {Q : Int32 → kw_I → Prop} {E : kw_E} {G : kw_G} (hm : kw_m E G cX10_gift 6 RX10 (some .int) rm_X10_gift "gift")  (h0 : T a0 = (0, 10))    {k22 : Int32 → Int32 → Int32 → kw_I → Prop} (hk22 : ∀ (x2 : Int32) (x3 : Int32) (x4 : Int32) (i : kw_I), k22 x2 x3 x4 i → kw_K E G 6 0 0 (kw_Z E G 0 0 (kw_PI (fun v T' n' r' i' w' => T = T' ∧ n = n' ∧ r = r' ∧ w = w' ∧ Q v i'))) 22 [(0, kw_a a0), (1, kw_i x1), (2, kw_i x2), (3, kw_i x3), (4, kw_i x4)] [] T n r i w) (x2 : Int32) (x3 : Int32) (x4 : Int32) (i : kw_I) (h : s_X10_gift_22 a0 x1 T n r w Q  k22 x2 x3 x4 i) : kw_K E G 6 0 0 (kw_Z E G 0 0 (kw_PI (fun v T' n' r' i' w' => T = T' ∧ n = n' ∧ r = r' ∧ w = w' ∧ Q v i'))) 22 [(0, kw_a a0), (1, kw_i x1), (2, kw_i x2), (3, kw_i x3), (4, kw_i x4)] [] T n r i w := by
  refine kk_iload hm.1 4 dX10_gift_22 rfl ?_
  refine kk_bipush (v := (8 : Int32)) hm.1 dX10_gift_24 (by decide) ?_
  refine kk_aload_n hm.1 0 dX10_gift_26 rfl rfl ?_
  refine kk_callVi (cs' := 0) (sl' := 0) (st := [kw_i (8 : Int32), kw_i x4]) hm.1 cv_X10_84 (t_X10_villages h0 h) dX10_gift_27 h0 rfl rfl hm.2.2.1 ⟨by decide, by decide⟩ ⟨by decide, by decide⟩ rfl rfl (Nat.le_of_ble_eq_true rfl) rfl ?_
  rintro v27 _ _ _ _ _ ⟨rfl, rfl, rfl, rfl, rfl, h⟩
  refine kk_imul hm.1 dX10_gift_30 ?_
  refine kk_icmp_ge (tgt := 121) hm.1 dX10_gift_31 (by decide) (fun c31 => ?_) (fun c31 => ?_)
  · have h := h.1 c31
    refine kk_iload_n hm.1 2 dX10_gift_121 rfl rfl ?_
    refine kk_iconst (v := (-1 : Int32)) hm.1 dX10_gift_122 (by decide) ?_
    refine kk_icmp_ne (tgt := 130) hm.1 dX10_gift_123 (by decide) (fun c123 => ?_) (fun c123 => ?_)
    · have h := h.1 c123
      refine kk_iload_n hm.1 1 dX10_gift_130 rfl rfl ?_
      refine kk_if_ne (tgt := 138) hm.1 dX10_gift_131 (by decide) (fun c131 => ?_) (fun c131 => ?_)
      · have h := h.1 c131
        refine kk_iload_n hm.1 1 dX10_gift_138 rfl rfl ?_
        refine kk_iconst (v := (1 : Int32)) hm.1 dX10_gift_139 (by decide) ?_
        refine kk_icmp_ne (tgt := 150) hm.1 dX10_gift_140 (by decide) (fun c140 => ?_) (fun c140 => ?_)
        · have h := h.1 c140
          refine kk_iload_n hm.1 2 dX10_gift_150 rfl rfl ?_
          refine kk_bipush (v := (8 : Int32)) hm.1 dX10_gift_151 (by decide) ?_
          refine kk_irem hm.1 dX10_gift_153 (by decide) ?_
          exact kk_iret hm.1 hm.2.1 dX10_gift_154 ⟨_, rfl, rfl, rfl, rfl, rfl, h⟩
        · have h := h.2 c140
          refine kk_iload_n hm.1 2 dX10_gift_143 rfl rfl ?_
          refine kk_bipush (v := (8 : Int32)) hm.1 dX10_gift_144 (by decide) ?_
          refine kk_idiv hm.1 dX10_gift_146 (by decide) ?_
          refine kk_goto (tgt := 154) hm.1 dX10_gift_147 (by decide) ?_
          exact kk_iret hm.1 hm.2.1 dX10_gift_154 ⟨_, rfl, rfl, rfl, rfl, rfl, h⟩
      · have h := h.2 c131
        refine kk_iload_n hm.1 3 dX10_gift_134 rfl rfl ?_
        refine kk_goto (tgt := 154) hm.1 dX10_gift_135 (by decide) ?_
        exact kk_iret hm.1 hm.2.1 dX10_gift_154 ⟨_, rfl, rfl, rfl, rfl, rfl, h⟩
    · have h := h.2 c123
      refine kk_iconst (v := (-1 : Int32)) hm.1 dX10_gift_126 (by decide) ?_
      refine kk_goto (tgt := 154) hm.1 dX10_gift_127 (by decide) ?_
      exact kk_iret hm.1 hm.2.1 dX10_gift_154 ⟨_, rfl, rfl, rfl, rfl, rfl, h⟩
  · have h := h.2 c31
    refine kk_aload_n hm.1 0 dX10_gift_34 rfl rfl ?_
    refine kk_iload hm.1 4 dX10_gift_35 rfl ?_
    refine kk_bipush (v := (8 : Int32)) hm.1 dX10_gift_37 (by decide) ?_
    refine kk_idiv hm.1 dX10_gift_39 (by decide) ?_
    refine kn_putI hm.1 fp_X10_236 dX10_gift_40 h0 (fun i40 e40 => ?_)
    have h := h i40 e40
    refine kk_aload_n hm.1 0 dX10_gift_43 rfl rfl ?_
    refine kk_iload hm.1 4 dX10_gift_44 rfl ?_
    refine kk_bipush (v := (8 : Int32)) hm.1 dX10_gift_46 (by decide) ?_
    refine kk_irem hm.1 dX10_gift_48 (by decide) ?_
    refine kn_putI hm.1 fp_X10_239 dX10_gift_49 h0 (fun i49 e49 => ?_)
    have h := h i49 e49
    refine kk_aload_n hm.1 0 dX10_gift_52 rfl rfl ?_
    refine kk_aload_n hm.1 0 dX10_gift_53 rfl rfl ?_
    refine kk_getI hm.1 ff_X10_236 dX10_gift_54 h0 ?_
    refine kk_iconst (v := (5 : Int32)) hm.1 dX10_gift_57 (by decide) ?_
    refine kk_callVi (cs' := 0) (sl' := 0) (st := []) hm.1 cv_X10_100 (t_X10_factOf h0 h) dX10_gift_58 h0 rfl rfl hm.2.2.1 ⟨by decide, by decide⟩ ⟨by decide, by decide⟩ rfl rfl (Nat.le_of_ble_eq_true rfl) rfl ?_
    rintro v58 _ _ _ _ _ ⟨rfl, rfl, rfl, rfl, rfl, h⟩
    refine kk_aload_n hm.1 0 dX10_gift_61 rfl rfl ?_
    refine kk_getI hm.1 ff_X10_239 dX10_gift_62 h0 ?_
    refine kk_ishr hm.1 dX10_gift_65 ?_
    refine kk_iconst (v := (1 : Int32)) hm.1 dX10_gift_66 (by decide) ?_
    refine kk_iand hm.1 dX10_gift_67 ?_
    refine kk_iconst (v := (1 : Int32)) hm.1 dX10_gift_68 (by decide) ?_
    refine kk_icmp_ne (tgt := 75) hm.1 dX10_gift_69 (by decide) (fun c69 => ?_) (fun c69 => ?_)
    · have h := h.1 c69
      refine kk_aload_n hm.1 0 dX10_gift_75 rfl rfl ?_
      refine kk_iconst (v := (-1 : Int32)) hm.1 dX10_gift_76 (by decide) ?_
      refine kk_iconst (v := (0 : Int32)) hm.1 dX10_gift_77 (by decide) ?_
      refine kk_callVv (cs' := 0) (sl' := 0) (st := []) hm.1 cv_X10_296 (t_X10_tries h0 h) dX10_gift_78 h0 rfl rfl hm.2.2.1 ⟨by decide, by decide⟩ ⟨by decide, by decide⟩ rfl rfl (Nat.le_of_ble_eq_true rfl) rfl ?_
      rintro _ _ _ i78 _ ⟨rfl, rfl, rfl, rfl, h⟩
      refine kk_aload_n hm.1 0 dX10_gift_81 rfl rfl ?_
      refine kk_getR hm.1 ff_X10_58 dX10_gift_82 h0 ?_
      refine kk_aload_n hm.1 0 dX10_gift_85 rfl rfl ?_
      refine kk_callVi (cs' := 0) (sl' := 0) (st := [kw_a (r a0 24)]) hm.1 cv_X10_293 (t_X10_endOf h0 h) dX10_gift_86 h0 rfl rfl hm.2.2.1 ⟨by decide, by decide⟩ ⟨by decide, by decide⟩ rfl rfl (Nat.le_of_ble_eq_true rfl) rfl ?_
      rintro v86 _ _ _ _ _ ⟨rfl, rfl, rfl, rfl, rfl, h⟩
      refine kk_aload_n hm.1 0 dX10_gift_89 rfl rfl ?_
      refine kk_getR hm.1 ff_X10_17 dX10_gift_90 h0 ?_
      refine kk_bipush (v := (60 : Int32)) hm.1 dX10_gift_93 (by decide) ?_
      refine kk_callSi (cs' := 0) (sl' := 0) (st := []) hm.1 cs_X10_289 (t_X10_likeness h) dX10_gift_95 rfl hm.2.2.1 ⟨by decide, by decide⟩ ⟨by decide, by decide⟩ rfl rfl (Nat.le_of_ble_eq_true rfl) rfl ?_
      rintro v95 _ _ _ _ _ ⟨rfl, rfl, rfl, rfl, rfl, h⟩
      refine kk_istore (L' := [(5, kw_i v95), (0, kw_a a0), (1, kw_i x1), (2, kw_i x2), (3, kw_i x3), (4, kw_i x4)]) hm.1 dX10_gift_98 (by decide) rfl ?_
      refine kk_iload hm.1 0 dX10_gift_100 rfl ?_
      refine kk_iload_n hm.1 4 dX10_gift_102 rfl rfl ?_
      refine kk_icmp_gt (tgt := 109) hm.1 dX10_gift_103 (by decide) (fun c103 => ?_) (fun c103 => ?_)
      · have h := h.1 c103
        refine kk_iload hm.1 0 dX10_gift_109 rfl ?_
        refine kk_istore_n (L' := [(3, kw_i v95), (5, kw_i v95), (0, kw_a a0), (1, kw_i x1), (2, kw_i x2), (4, kw_i x4)]) hm.1 dX10_gift_111 rfl (by decide) rfl ?_
        refine kk_iload hm.1 5 dX10_gift_112 rfl ?_
        refine kk_istore_n (L' := [(2, kw_i x4), (3, kw_i v95), (5, kw_i v95), (0, kw_a a0), (1, kw_i x1), (4, kw_i x4)]) hm.1 dX10_gift_114 rfl (by decide) rfl ?_
        refine kk_loc (L' := [(0, kw_a a0), (1, kw_i x1), (2, kw_i x4), (3, kw_i v95), (4, kw_i x4)]) [3, 4, 0, 1, 5] rfl ?_
        exact q_X10_gift_115 hm  h0  hk22 x4 v95 x4 i78 h
      · have h := h.2 c103
        refine kk_goto (tgt := 115) hm.1 dX10_gift_106 (by decide) ?_
        refine kk_loc (L' := [(0, kw_a a0), (1, kw_i x1), (2, kw_i x2), (3, kw_i x3), (4, kw_i x4)]) [1, 2, 3, 4, 5] rfl ?_
        exact q_X10_gift_115 hm  h0  hk22 x2 x3 x4 i78 h
    · have h := h.2 c69
      refine kk_goto (tgt := 115) hm.1 dX10_gift_72 (by decide) ?_
      exact q_X10_gift_115 hm  h0  hk22 x2 x3 x4 i49 h
set_option maxHeartbeats 4000000 in
set_option maxRecDepth 100000 in
theorem q_X10_gift_22 {a0 : Nat} {x1 : Int32} {T : kw_T} {n : Nat} {r : kw_R} {w : kw_L} {Q : Int32 → kw_I → Prop} {E : kw_E} {G : kw_G} (hm : kw_m E G cX10_gift 6 RX10 (some .int) rm_X10_gift "gift")  (h0 : T a0 = (0, 10))    : ∀ (N : Nat) (x2 : Int32) (x3 : Int32) (x4 : Int32) (i : kw_I), w_X10_gift_22 a0 x1 T n r w Q  N x2 x3 x4 i → kw_K E G 6 0 0 (kw_Z E G 0 0 (kw_PI (fun v T' n' r' i' w' => T = T' ∧ n = n' ∧ r = r' ∧ w = w' ∧ Q v i'))) 22 [(0, kw_a a0), (1, kw_i x1), (2, kw_i x2), (3, kw_i x3), (4, kw_i x4)] [] T n r i w := by
  intro N
  induction N with
  | zero => intro x2 x3 x4 i h; exact h.elim
  | succ N ih => intro x2 x3 x4 i h; exact qs_X10_gift_22 hm  h0  ih x2 x3 x4 i h
set_option maxHeartbeats 4000000 in
set_option maxRecDepth 100000 in
theorem t_X10_gift {l : Launch} {G : kw_G} {a0 : Nat} {x1 : Int32} {T : kw_T} {n : Nat} {r : kw_R} {i : kw_I} {w : kw_L} {Q : Int32 → kw_I → Prop} (h0 : T a0 = (0, 10)) (h : w_X10_gift a0 x1 T n r i w Q) : kw_Met l G yX10_gift cX10_gift 6 (some .int) rm_X10_gift [kw_a a0, kw_i x1] (T, n, r, i, w) (kw_PI (fun v T' n' r' i' w' => T = T' ∧ n = n' ∧ r = r' ∧ w = w' ∧ Q v i')) := by
  refine kw_Met.of (by decide) (Nat.le_of_ble_eq_true rfl) fun E hl hRm hE hT hnm => ?_
  have hm : kw_m E G cX10_gift 6 RX10 (some .int) rm_X10_gift "gift" := ⟨hE, hT, hRm, hnm⟩
  subst hl
  show kw_K E G 6 0 0 (kw_Z E G 0 0 (kw_PI (fun v T' n' r' i' w' => T = T' ∧ n = n' ∧ r = r' ∧ w = w' ∧ Q v i'))) 0 [(0, kw_a a0), (1, kw_i x1)] [] T n r i w
  refine kk_iload_n hm.1 1 dX10_gift_0 rfl rfl ?_
  refine kk_iconst (v := (0 : Int32)) hm.1 dX10_gift_1 (by decide) ?_
  refine kk_iconst (v := (2 : Int32)) hm.1 dX10_gift_2 (by decide) ?_
  refine kk_callSi (cs' := 0) (sl' := 0) (st := []) hm.1 cs_X10_73 (t_X10_lies h) dX10_gift_3 rfl hm.2.2.1 ⟨by decide, by decide⟩ ⟨by decide, by decide⟩ rfl rfl (Nat.le_of_ble_eq_true rfl) rfl ?_
  rintro v3 _ _ _ _ _ ⟨rfl, rfl, rfl, rfl, rfl, h⟩
  refine kk_if_ne (tgt := 11) hm.1 dX10_gift_6 (by decide) (fun c6 => ?_) (fun c6 => ?_)
  · have h := h.1 c6
    refine kk_aload_n hm.1 0 dX10_gift_11 rfl rfl ?_
    refine kk_callVv (cs' := 0) (sl' := 0) (st := []) hm.1 cv_X10_270 (t_X10_plain h0 h) dX10_gift_12 h0 rfl rfl hm.2.2.1 ⟨by decide, by decide⟩ ⟨by decide, by decide⟩ rfl rfl (Nat.le_of_ble_eq_true rfl) rfl ?_
    rintro _ _ _ i12 _ ⟨rfl, rfl, rfl, rfl, h⟩
    refine kk_iconst (v := (-1 : Int32)) hm.1 dX10_gift_15 (by decide) ?_
    refine kk_istore_n (L' := [(2, kw_i (-1 : Int32)), (0, kw_a a0), (1, kw_i x1)]) hm.1 dX10_gift_16 rfl (by decide) rfl ?_
    refine kk_iconst (v := (-1 : Int32)) hm.1 dX10_gift_17 (by decide) ?_
    refine kk_istore_n (L' := [(3, kw_i (-1 : Int32)), (2, kw_i (-1 : Int32)), (0, kw_a a0), (1, kw_i x1)]) hm.1 dX10_gift_18 rfl (by decide) rfl ?_
    refine kk_iconst (v := (0 : Int32)) hm.1 dX10_gift_19 (by decide) ?_
    refine kk_istore (L' := [(4, kw_i (0 : Int32)), (3, kw_i (-1 : Int32)), (2, kw_i (-1 : Int32)), (0, kw_a a0), (1, kw_i x1)]) hm.1 dX10_gift_20 (by decide) rfl ?_
    refine kk_loc (L' := [(0, kw_a a0), (1, kw_i x1), (2, kw_i (-1 : Int32)), (3, kw_i (-1 : Int32)), (4, kw_i (0 : Int32))]) [3, 4, 2, 1, 0] rfl ?_
    obtain ⟨N, h⟩ := h
    exact q_X10_gift_22 hm  h0   N ((-1 : Int32)) ((-1 : Int32)) ((0 : Int32)) i12 h
  · have h := h.2 c6
    refine kk_iconst (v := (-1 : Int32)) hm.1 dX10_gift_9 (by decide) ?_
    exact kk_iret hm.1 hm.2.1 dX10_gift_10 ⟨_, rfl, rfl, rfl, rfl, rfl, h⟩
def w_X10_slips_169 (a0 : Nat) (x1 : Int32) (T : kw_T) (n : Nat) (r : kw_R) (w : kw_L) (Q : Int32 → kw_I → Prop) (k48 : Int32 → Int32 → kw_I → Prop) (k59 : Int32 → Int32 → Int32 → kw_I → Prop) (x2 : Int32) (x3 : Int32) (x4 : Int32) (i : kw_I) : Prop :=
  k59 x2 x3 ((x4 + (1 : Int32))) i
def s_X10_slips_178 (a0 : Nat) (x1 : Int32) (T : kw_T) (n : Nat) (r : kw_R) (w : kw_L) (Q : Int32 → kw_I → Prop) (k48 : Int32 → Int32 → kw_I → Prop) (k178 : Int32 → Int32 → Int32 → kw_I → Prop) (x2 : Int32) (x3 : Int32) (x4 : Int32) (i : kw_I) : Prop :=
  ((36 : Int32) ≤ x4 → k48 x2 ((x3 + (1 : Int32))) i) ∧ (¬ (36 : Int32) ≤ x4 → kw_in T 1 (r a0 22) (((36 : Int32) * (x3 + (1 : Int32))) + x4) ∧ (kw_in T 1 (r a0 24) (((36 : Int32) * (x3 + (1 : Int32))) + x4) ∧ (∀ i212 : kw_I, i212 = kw_st i (r a0 24) ((((36 : Int32) * (x3 + (1 : Int32))) + x4)).toNatClampNeg (i (r a0 22) ((((36 : Int32) * (x3 + (1 : Int32))) + x4)).toNatClampNeg) → (k178 x2 x3 ((x4 + (1 : Int32))) i212))))
def w_X10_slips_178 (a0 : Nat) (x1 : Int32) (T : kw_T) (n : Nat) (r : kw_R) (w : kw_L) (Q : Int32 → kw_I → Prop) (k48 : Int32 → Int32 → kw_I → Prop) : Nat → Int32 → Int32 → Int32 → kw_I → Prop
  | 0 => fun _ _ _ _ => False
  | N + 1 => s_X10_slips_178 a0 x1 T n r w Q k48 (w_X10_slips_178 a0 x1 T n r w Q k48 N)
def s_X10_slips_59 (a0 : Nat) (x1 : Int32) (T : kw_T) (n : Nat) (r : kw_R) (w : kw_L) (Q : Int32 → kw_I → Prop) (k48 : Int32 → Int32 → kw_I → Prop) (k59 : Int32 → Int32 → Int32 → kw_I → Prop) (x2 : Int32) (x3 : Int32) (x4 : Int32) (i : kw_I) : Prop :=
  ((288 : Int32) ≤ x4 → ∃ N, w_X10_slips_178 a0 x1 T n r w Q k48 N x2 x3 ((0 : Int32)) i) ∧ (¬ (288 : Int32) ≤ x4 → ∀ i78 : kw_I, i78 = kw_st i a0 30 (((36 : Int32) * x3) + (x4 / (8 : Int32))) → (∀ i87 : kw_I, i87 = kw_st i78 a0 31 (x4 - x4 / (8 : Int32) * (8 : Int32)) → (kw_in T 1 (r a0 22) (((36 : Int32) * (x3 + (1 : Int32))) + (x4 / (8 : Int32))) ∧ ((¬ (i87 (r a0 22) ((((36 : Int32) * (x3 + (1 : Int32))) + (x4 / (8 : Int32)))).toNatClampNeg) = (i87 a0 31) → w_X10_goes a0 (r a0 24) x3 T n r i87 w (fun i123 => w_X10_endOf a0 T n r i123 w (fun v131 => w_X10_likeness (r a0 24) v131 (r a0 2) (132 : Int32) T n r i123 w (fun v141 => ((36 : Int32) ≤ v141 → (¬ x2 = x1 → w_X10_slips_169 a0 x1 T n r w Q k48 k59 ((x2 + (1 : Int32))) x3 x4 i123) ∧ (x2 = x1 → Q (((288 : Int32) * x3) + x4) i123)) ∧ (¬ (36 : Int32) ≤ v141 → w_X10_slips_169 a0 x1 T n r w Q k48 k59 x2 x3 x4 i123))))) ∧ ((i87 (r a0 22) ((((36 : Int32) * (x3 + (1 : Int32))) + (x4 / (8 : Int32)))).toNatClampNeg) = (i87 a0 31) → w_X10_slips_169 a0 x1 T n r w Q k48 k59 x2 x3 x4 i87)))))
def w_X10_slips_59 (a0 : Nat) (x1 : Int32) (T : kw_T) (n : Nat) (r : kw_R) (w : kw_L) (Q : Int32 → kw_I → Prop) (k48 : Int32 → Int32 → kw_I → Prop) : Nat → Int32 → Int32 → Int32 → kw_I → Prop
  | 0 => fun _ _ _ _ => False
  | N + 1 => s_X10_slips_59 a0 x1 T n r w Q k48 (w_X10_slips_59 a0 x1 T n r w Q k48 N)
def s_X10_slips_48 (a0 : Nat) (x1 : Int32) (T : kw_T) (n : Nat) (r : kw_R) (w : kw_L) (Q : Int32 → kw_I → Prop)  (k48 : Int32 → Int32 → kw_I → Prop) (x2 : Int32) (x3 : Int32) (i : kw_I) : Prop :=
  w_X10_villages a0 T n r i w (fun v50 => (v50 ≤ x3 → (¬ x1 = (-1 : Int32) → Q (-1 : Int32) i) ∧ (x1 = (-1 : Int32) → Q x2 i)) ∧ (¬ v50 ≤ x3 → ∃ N, w_X10_slips_59 a0 x1 T n r w Q k48 N x2 x3 ((0 : Int32)) i))
def w_X10_slips_48 (a0 : Nat) (x1 : Int32) (T : kw_T) (n : Nat) (r : kw_R) (w : kw_L) (Q : Int32 → kw_I → Prop)  : Nat → Int32 → Int32 → kw_I → Prop
  | 0 => fun _ _ _ => False
  | N + 1 => s_X10_slips_48 a0 x1 T n r w Q  (w_X10_slips_48 a0 x1 T n r w Q  N)
def s_X10_slips_15 (a0 : Nat) (x1 : Int32) (T : kw_T) (n : Nat) (r : kw_R) (w : kw_L) (Q : Int32 → kw_I → Prop)  (k15 : Int32 → Int32 → kw_I → Prop) (x2 : Int32) (x3 : Int32) (i : kw_I) : Prop :=
  w_X10_villages a0 T n r i w (fun v19 => (((36 : Int32) * (v19 + (1 : Int32))) ≤ x3 → ∃ N, w_X10_slips_48 a0 x1 T n r w Q  N x2 ((0 : Int32)) i) ∧ (¬ ((36 : Int32) * (v19 + (1 : Int32))) ≤ x3 → kw_in T 1 (r a0 22) x3 ∧ (kw_in T 1 (r a0 24) x3 ∧ (∀ i39 : kw_I, i39 = kw_st i (r a0 24) (x3).toNatClampNeg (i (r a0 22) (x3).toNatClampNeg) → (k15 x2 ((x3 + (1 : Int32))) i39)))))
def w_X10_slips_15 (a0 : Nat) (x1 : Int32) (T : kw_T) (n : Nat) (r : kw_R) (w : kw_L) (Q : Int32 → kw_I → Prop)  : Nat → Int32 → Int32 → kw_I → Prop
  | 0 => fun _ _ _ => False
  | N + 1 => s_X10_slips_15 a0 x1 T n r w Q  (w_X10_slips_15 a0 x1 T n r w Q  N)
def w_X10_slips  (a0 : Nat) (x1 : Int32) (T : kw_T) (n : Nat) (r : kw_R) (i : kw_I) (w : kw_L) (Q : Int32 → kw_I → Prop) : Prop :=
  ((-1 : Int32) ≤ x1 → w_X10_looks a0 T n r i w (fun i8 => ∃ N, w_X10_slips_15 a0 x1 T n r w Q  N ((0 : Int32)) ((0 : Int32)) i8)) ∧ (¬ (-1 : Int32) ≤ x1 → Q (-1 : Int32) i)
abbrev rm_X10_slips : Room := { frames := 129, cells := 0, slots := 0, locals := 6253 }
set_option maxHeartbeats 4000000 in
set_option maxRecDepth 100000 in
theorem q_X10_slips_169 {a0 : Nat} {x1 : Int32} {T : kw_T} {n : Nat} {r : kw_R} {w : kw_L} {Q : Int32 → kw_I → Prop} {E : kw_E} {G : kw_G} (hm : kw_m E G cX10_slips 5 RX10 (some .int) rm_X10_slips "slips")  (h0 : T a0 = (0, 10))  {k48 : Int32 → Int32 → kw_I → Prop} {k59 : Int32 → Int32 → Int32 → kw_I → Prop} (hk48 : ∀ (x2 : Int32) (x3 : Int32) (i : kw_I), k48 x2 x3 i → kw_K E G 5 0 0 (kw_Z E G 0 0 (kw_PI (fun v T' n' r' i' w' => T = T' ∧ n = n' ∧ r = r' ∧ w = w' ∧ Q v i'))) 48 [(0, kw_a a0), (1, kw_i x1), (2, kw_i x2), (3, kw_i x3)] [] T n r i w) (hk59 : ∀ (x2 : Int32) (x3 : Int32) (x4 : Int32) (i : kw_I), k59 x2 x3 x4 i → kw_K E G 5 0 0 (kw_Z E G 0 0 (kw_PI (fun v T' n' r' i' w' => T = T' ∧ n = n' ∧ r = r' ∧ w = w' ∧ Q v i'))) 59 [(0, kw_a a0), (1, kw_i x1), (2, kw_i x2), (3, kw_i x3), (4, kw_i x4)] [] T n r i w) (x2 : Int32) (x3 : Int32) (x4 : Int32) (i : kw_I) (h : w_X10_slips_169 a0 x1 T n r w Q k48 k59 x2 x3 x4 i) : kw_K E G 5 0 0 (kw_Z E G 0 0 (kw_PI (fun v T' n' r' i' w' => T = T' ∧ n = n' ∧ r = r' ∧ w = w' ∧ Q v i'))) 169 [(0, kw_a a0), (1, kw_i x1), (2, kw_i x2), (3, kw_i x3), (4, kw_i x4)] [] T n r i w := by
  refine kk_iinc (v := (x4 + (1 : Int32))) (L' := [(4, kw_i (x4 + (1 : Int32))), (0, kw_a a0), (1, kw_i x1), (2, kw_i x2), (3, kw_i x3)]) hm.1 4 dX10_slips_169 rfl rfl (by decide) rfl ?_
  refine kk_goto (tgt := 59) hm.1 dX10_slips_172 (by decide) ?_
  refine kk_loc (L' := [(0, kw_a a0), (1, kw_i x1), (2, kw_i x2), (3, kw_i x3), (4, kw_i (x4 + (1 : Int32)))]) [1, 2, 3, 4, 0] rfl ?_
  exact hk59 x2 x3 ((x4 + (1 : Int32))) i h
set_option maxHeartbeats 4000000 in
set_option maxRecDepth 100000 in
theorem qs_X10_slips_178 {a0 : Nat} {x1 : Int32} {T : kw_T} {n : Nat} {r : kw_R} {w : kw_L} {Q : Int32 → kw_I → Prop} {E : kw_E} {G : kw_G} (hm : kw_m E G cX10_slips 5 RX10 (some .int) rm_X10_slips "slips")  (h0 : T a0 = (0, 10))  {k48 : Int32 → Int32 → kw_I → Prop} (hk48 : ∀ (x2 : Int32) (x3 : Int32) (i : kw_I), k48 x2 x3 i → kw_K E G 5 0 0 (kw_Z E G 0 0 (kw_PI (fun v T' n' r' i' w' => T = T' ∧ n = n' ∧ r = r' ∧ w = w' ∧ Q v i'))) 48 [(0, kw_a a0), (1, kw_i x1), (2, kw_i x2), (3, kw_i x3)] [] T n r i w) {k178 : Int32 → Int32 → Int32 → kw_I → Prop} (hk178 : ∀ (x2 : Int32) (x3 : Int32) (x4 : Int32) (i : kw_I), k178 x2 x3 x4 i → kw_K E G 5 0 0 (kw_Z E G 0 0 (kw_PI (fun v T' n' r' i' w' => T = T' ∧ n = n' ∧ r = r' ∧ w = w' ∧ Q v i'))) 178 [(0, kw_a a0), (1, kw_i x1), (2, kw_i x2), (3, kw_i x3), (4, kw_i x4)] [] T n r i w) (x2 : Int32) (x3 : Int32) (x4 : Int32) (i : kw_I) (h : s_X10_slips_178 a0 x1 T n r w Q k48 k178 x2 x3 x4 i) : kw_K E G 5 0 0 (kw_Z E G 0 0 (kw_PI (fun v T' n' r' i' w' => T = T' ∧ n = n' ∧ r = r' ∧ w = w' ∧ Q v i'))) 178 [(0, kw_a a0), (1, kw_i x1), (2, kw_i x2), (3, kw_i x3), (4, kw_i x4)] [] T n r i w := by
  refine kk_iload hm.1 4 dX10_slips_178 rfl ?_
  refine kk_bipush (v := (36 : Int32)) hm.1 dX10_slips_180 (by decide) ?_
  refine kk_icmp_ge (tgt := 219) hm.1 dX10_slips_182 (by decide) (fun c182 => ?_) (fun c182 => ?_)
  · have h := h.1 c182
    refine kk_iinc (v := (x3 + (1 : Int32))) (L' := [(3, kw_i (x3 + (1 : Int32))), (0, kw_a a0), (1, kw_i x1), (2, kw_i x2), (4, kw_i x4)]) hm.1 3 dX10_slips_219 rfl rfl (by decide) rfl ?_
    refine kk_goto (tgt := 48) hm.1 dX10_slips_222 (by decide) ?_
    refine kk_loc (L' := [(0, kw_a a0), (1, kw_i x1), (2, kw_i x2), (3, kw_i (x3 + (1 : Int32)))]) [1, 2, 3, 0] rfl ?_
    exact hk48 x2 ((x3 + (1 : Int32))) i h
  · have h := h.2 c182
    refine kk_aload_n hm.1 0 dX10_slips_185 rfl rfl ?_
    refine kk_getR hm.1 ff_X10_58 dX10_slips_186 h0 ?_
    refine kk_bipush (v := (36 : Int32)) hm.1 dX10_slips_189 (by decide) ?_
    refine kk_iload_n hm.1 3 dX10_slips_191 rfl rfl ?_
    refine kk_iconst (v := (1 : Int32)) hm.1 dX10_slips_192 (by decide) ?_
    refine kk_iadd hm.1 dX10_slips_193 ?_
    refine kk_imul hm.1 dX10_slips_194 ?_
    refine kk_iload hm.1 4 dX10_slips_195 rfl ?_
    refine kk_iadd hm.1 dX10_slips_197 ?_
    refine kk_aload_n hm.1 0 dX10_slips_198 rfl rfl ?_
    refine kk_getR hm.1 ff_X10_52 dX10_slips_199 h0 ?_
    refine kk_bipush (v := (36 : Int32)) hm.1 dX10_slips_202 (by decide) ?_
    refine kk_iload_n hm.1 3 dX10_slips_204 rfl rfl ?_
    refine kk_iconst (v := (1 : Int32)) hm.1 dX10_slips_205 (by decide) ?_
    refine kk_iadd hm.1 dX10_slips_206 ?_
    refine kk_imul hm.1 dX10_slips_207 ?_
    refine kk_iload hm.1 4 dX10_slips_208 rfl ?_
    refine kk_iadd hm.1 dX10_slips_210 ?_
    obtain ⟨o211, h⟩ := h
    refine kk_iaload hm.1 dX10_slips_211 o211 ?_
    obtain ⟨o212, h⟩ := h
    refine kn_iastore hm.1 dX10_slips_212 o212 (fun i212 e212 => ?_)
    have h := h i212 e212
    refine kk_iinc (v := (x4 + (1 : Int32))) (L' := [(4, kw_i (x4 + (1 : Int32))), (0, kw_a a0), (1, kw_i x1), (2, kw_i x2), (3, kw_i x3)]) hm.1 4 dX10_slips_213 rfl rfl (by decide) rfl ?_
    refine kk_goto (tgt := 178) hm.1 dX10_slips_216 (by decide) ?_
    refine kk_loc (L' := [(0, kw_a a0), (1, kw_i x1), (2, kw_i x2), (3, kw_i x3), (4, kw_i (x4 + (1 : Int32)))]) [1, 2, 3, 4, 0] rfl ?_
    exact hk178 x2 x3 ((x4 + (1 : Int32))) i212 h
set_option maxHeartbeats 4000000 in
set_option maxRecDepth 100000 in
theorem q_X10_slips_178 {a0 : Nat} {x1 : Int32} {T : kw_T} {n : Nat} {r : kw_R} {w : kw_L} {Q : Int32 → kw_I → Prop} {E : kw_E} {G : kw_G} (hm : kw_m E G cX10_slips 5 RX10 (some .int) rm_X10_slips "slips")  (h0 : T a0 = (0, 10))  {k48 : Int32 → Int32 → kw_I → Prop} (hk48 : ∀ (x2 : Int32) (x3 : Int32) (i : kw_I), k48 x2 x3 i → kw_K E G 5 0 0 (kw_Z E G 0 0 (kw_PI (fun v T' n' r' i' w' => T = T' ∧ n = n' ∧ r = r' ∧ w = w' ∧ Q v i'))) 48 [(0, kw_a a0), (1, kw_i x1), (2, kw_i x2), (3, kw_i x3)] [] T n r i w) : ∀ (N : Nat) (x2 : Int32) (x3 : Int32) (x4 : Int32) (i : kw_I), w_X10_slips_178 a0 x1 T n r w Q k48 N x2 x3 x4 i → kw_K E G 5 0 0 (kw_Z E G 0 0 (kw_PI (fun v T' n' r' i' w' => T = T' ∧ n = n' ∧ r = r' ∧ w = w' ∧ Q v i'))) 178 [(0, kw_a a0), (1, kw_i x1), (2, kw_i x2), (3, kw_i x3), (4, kw_i x4)] [] T n r i w := by
  intro N
  induction N with
  | zero => intro x2 x3 x4 i h; exact h.elim
  | succ N ih => intro x2 x3 x4 i h; exact qs_X10_slips_178 hm  h0 hk48 ih x2 x3 x4 i h
set_option maxHeartbeats 4000000 in
set_option maxRecDepth 100000 in
theorem qs_X10_slips_59 {a0 : Nat} {x1 : Int32} {T : kw_T} {n : Nat} {r : kw_R} {w : kw_L} {Q : Int32 → kw_I → Prop} {E : kw_E} {G : kw_G} (hm : kw_m E G cX10_slips 5 RX10 (some .int) rm_X10_slips "slips")  (h0 : T a0 = (0, 10))  {k48 : Int32 → Int32 → kw_I → Prop} (hk48 : ∀ (x2 : Int32) (x3 : Int32) (i : kw_I), k48 x2 x3 i → kw_K E G 5 0 0 (kw_Z E G 0 0 (kw_PI (fun v T' n' r' i' w' => T = T' ∧ n = n' ∧ r = r' ∧ w = w' ∧ Q v i'))) 48 [(0, kw_a a0), (1, kw_i x1), (2, kw_i x2), (3, kw_i x3)] [] T n r i w) {k59 : Int32 → Int32 → Int32 → kw_I → Prop} (hk59 : ∀ (x2 : Int32) (x3 : Int32) (x4 : Int32) (i : kw_I), k59 x2 x3 x4 i → kw_K E G 5 0 0 (kw_Z E G 0 0 (kw_PI (fun v T' n' r' i' w' => T = T' ∧ n = n' ∧ r = r' ∧ w = w' ∧ Q v i'))) 59 [(0, kw_a a0), (1, kw_i x1), (2, kw_i x2), (3, kw_i x3), (4, kw_i x4)] [] T n r i w) (x2 : Int32) (x3 : Int32) (x4 : Int32) (i : kw_I) (h : s_X10_slips_59 a0 x1 T n r w Q k48 k59 x2 x3 x4 i) : kw_K E G 5 0 0 (kw_Z E G 0 0 (kw_PI (fun v T' n' r' i' w' => T = T' ∧ n = n' ∧ r = r' ∧ w = w' ∧ Q v i'))) 59 [(0, kw_a a0), (1, kw_i x1), (2, kw_i x2), (3, kw_i x3), (4, kw_i x4)] [] T n r i w := by
  refine kk_iload hm.1 4 dX10_slips_59 rfl ?_
  refine kk_sipush (v := (288 : Int32)) hm.1 dX10_slips_61 (by decide) ?_
  refine kk_icmp_ge (tgt := 175) hm.1 dX10_slips_64 (by decide) (fun c64 => ?_) (fun c64 => ?_)
  · have h := h.1 c64
    refine kk_iconst (v := (0 : Int32)) hm.1 dX10_slips_175 (by decide) ?_
    refine kk_istore (L' := [(4, kw_i (0 : Int32)), (0, kw_a a0), (1, kw_i x1), (2, kw_i x2), (3, kw_i x3)]) hm.1 dX10_slips_176 (by decide) rfl ?_
    refine kk_loc (L' := [(0, kw_a a0), (1, kw_i x1), (2, kw_i x2), (3, kw_i x3), (4, kw_i (0 : Int32))]) [1, 2, 3, 4, 0] rfl ?_
    obtain ⟨N, h⟩ := h
    exact q_X10_slips_178 hm  h0  hk48 N x2 x3 ((0 : Int32)) i h
  · have h := h.2 c64
    refine kk_aload_n hm.1 0 dX10_slips_67 rfl rfl ?_
    refine kk_bipush (v := (36 : Int32)) hm.1 dX10_slips_68 (by decide) ?_
    refine kk_iload_n hm.1 3 dX10_slips_70 rfl rfl ?_
    refine kk_imul hm.1 dX10_slips_71 ?_
    refine kk_iload hm.1 4 dX10_slips_72 rfl ?_
    refine kk_bipush (v := (8 : Int32)) hm.1 dX10_slips_74 (by decide) ?_
    refine kk_idiv hm.1 dX10_slips_76 (by decide) ?_
    refine kk_iadd hm.1 dX10_slips_77 ?_
    refine kn_putI hm.1 fp_X10_242 dX10_slips_78 h0 (fun i78 e78 => ?_)
    have h := h i78 e78
    refine kk_aload_n hm.1 0 dX10_slips_81 rfl rfl ?_
    refine kk_iload hm.1 4 dX10_slips_82 rfl ?_
    refine kk_bipush (v := (8 : Int32)) hm.1 dX10_slips_84 (by decide) ?_
    refine kk_irem hm.1 dX10_slips_86 (by decide) ?_
    refine kn_putI hm.1 fp_X10_245 dX10_slips_87 h0 (fun i87 e87 => ?_)
    have h := h i87 e87
    refine kk_aload_n hm.1 0 dX10_slips_90 rfl rfl ?_
    refine kk_getR hm.1 ff_X10_52 dX10_slips_91 h0 ?_
    refine kk_bipush (v := (36 : Int32)) hm.1 dX10_slips_94 (by decide) ?_
    refine kk_iload_n hm.1 3 dX10_slips_96 rfl rfl ?_
    refine kk_iconst (v := (1 : Int32)) hm.1 dX10_slips_97 (by decide) ?_
    refine kk_iadd hm.1 dX10_slips_98 ?_
    refine kk_imul hm.1 dX10_slips_99 ?_
    refine kk_iload hm.1 4 dX10_slips_100 rfl ?_
    refine kk_bipush (v := (8 : Int32)) hm.1 dX10_slips_102 (by decide) ?_
    refine kk_idiv hm.1 dX10_slips_104 (by decide) ?_
    refine kk_iadd hm.1 dX10_slips_105 ?_
    obtain ⟨o106, h⟩ := h
    refine kk_iaload hm.1 dX10_slips_106 o106 ?_
    refine kk_aload_n hm.1 0 dX10_slips_107 rfl rfl ?_
    refine kk_getI hm.1 ff_X10_245 dX10_slips_108 h0 ?_
    refine kk_icmp_ne (tgt := 117) hm.1 dX10_slips_111 (by decide) (fun c111 => ?_) (fun c111 => ?_)
    · have h := h.1 c111
      refine kk_aload_n hm.1 0 dX10_slips_117 rfl rfl ?_
      refine kk_aload_n hm.1 0 dX10_slips_118 rfl rfl ?_
      refine kk_getR hm.1 ff_X10_58 dX10_slips_119 h0 ?_
      refine kk_iload_n hm.1 3 dX10_slips_122 rfl rfl ?_
      refine kk_callVv (cs' := 0) (sl' := 0) (st := []) hm.1 cv_X10_273 (t_X10_goes h0 h) dX10_slips_123 h0 rfl rfl hm.2.2.1 ⟨by decide, by decide⟩ ⟨by decide, by decide⟩ rfl rfl (Nat.le_of_ble_eq_true rfl) rfl ?_
      rintro _ _ _ i123 _ ⟨rfl, rfl, rfl, rfl, h⟩
      refine kk_aload_n hm.1 0 dX10_slips_126 rfl rfl ?_
      refine kk_getR hm.1 ff_X10_58 dX10_slips_127 h0 ?_
      refine kk_aload_n hm.1 0 dX10_slips_130 rfl rfl ?_
      refine kk_callVi (cs' := 0) (sl' := 0) (st := [kw_a (r a0 24)]) hm.1 cv_X10_293 (t_X10_endOf h0 h) dX10_slips_131 h0 rfl rfl hm.2.2.1 ⟨by decide, by decide⟩ ⟨by decide, by decide⟩ rfl rfl (Nat.le_of_ble_eq_true rfl) rfl ?_
      rintro v131 _ _ _ _ _ ⟨rfl, rfl, rfl, rfl, rfl, h⟩
      refine kk_aload_n hm.1 0 dX10_slips_134 rfl rfl ?_
      refine kk_getR hm.1 ff_X10_17 dX10_slips_135 h0 ?_
      refine kk_sipush (v := (132 : Int32)) hm.1 dX10_slips_138 (by decide) ?_
      refine kk_callSi (cs' := 0) (sl' := 0) (st := []) hm.1 cs_X10_289 (t_X10_likeness h) dX10_slips_141 rfl hm.2.2.1 ⟨by decide, by decide⟩ ⟨by decide, by decide⟩ rfl rfl (Nat.le_of_ble_eq_true rfl) rfl ?_
      rintro v141 _ _ _ _ _ ⟨rfl, rfl, rfl, rfl, rfl, h⟩
      refine kk_bipush (v := (36 : Int32)) hm.1 dX10_slips_144 (by decide) ?_
      refine kk_icmp_ge (tgt := 152) hm.1 dX10_slips_146 (by decide) (fun c146 => ?_) (fun c146 => ?_)
      · have h := h.1 c146
        refine kk_iload_n hm.1 2 dX10_slips_152 rfl rfl ?_
        refine kk_iload_n hm.1 1 dX10_slips_153 rfl rfl ?_
        refine kk_icmp_ne (tgt := 166) hm.1 dX10_slips_154 (by decide) (fun c154 => ?_) (fun c154 => ?_)
        · have h := h.1 c154
          refine kk_iinc (v := (x2 + (1 : Int32))) (L' := [(2, kw_i (x2 + (1 : Int32))), (0, kw_a a0), (1, kw_i x1), (3, kw_i x3), (4, kw_i x4)]) hm.1 2 dX10_slips_166 rfl rfl (by decide) rfl ?_
          refine kk_loc (L' := [(0, kw_a a0), (1, kw_i x1), (2, kw_i (x2 + (1 : Int32))), (3, kw_i x3), (4, kw_i x4)]) [1, 2, 0, 3, 4] rfl ?_
          exact q_X10_slips_169 hm  h0  hk48 hk59 ((x2 + (1 : Int32))) x3 x4 i123 h
        · have h := h.2 c154
          refine kk_sipush (v := (288 : Int32)) hm.1 dX10_slips_157 (by decide) ?_
          refine kk_iload_n hm.1 3 dX10_slips_160 rfl rfl ?_
          refine kk_imul hm.1 dX10_slips_161 ?_
          refine kk_iload hm.1 4 dX10_slips_162 rfl ?_
          refine kk_iadd hm.1 dX10_slips_164 ?_
          exact kk_iret hm.1 hm.2.1 dX10_slips_165 ⟨_, rfl, rfl, rfl, rfl, rfl, h⟩
      · have h := h.2 c146
        refine kk_goto (tgt := 169) hm.1 dX10_slips_149 (by decide) ?_
        exact q_X10_slips_169 hm  h0  hk48 hk59 x2 x3 x4 i123 h
    · have h := h.2 c111
      refine kk_goto (tgt := 169) hm.1 dX10_slips_114 (by decide) ?_
      exact q_X10_slips_169 hm  h0  hk48 hk59 x2 x3 x4 i87 h
set_option maxHeartbeats 4000000 in
set_option maxRecDepth 100000 in
theorem q_X10_slips_59 {a0 : Nat} {x1 : Int32} {T : kw_T} {n : Nat} {r : kw_R} {w : kw_L} {Q : Int32 → kw_I → Prop} {E : kw_E} {G : kw_G} (hm : kw_m E G cX10_slips 5 RX10 (some .int) rm_X10_slips "slips")  (h0 : T a0 = (0, 10))  {k48 : Int32 → Int32 → kw_I → Prop} (hk48 : ∀ (x2 : Int32) (x3 : Int32) (i : kw_I), k48 x2 x3 i → kw_K E G 5 0 0 (kw_Z E G 0 0 (kw_PI (fun v T' n' r' i' w' => T = T' ∧ n = n' ∧ r = r' ∧ w = w' ∧ Q v i'))) 48 [(0, kw_a a0), (1, kw_i x1), (2, kw_i x2), (3, kw_i x3)] [] T n r i w) : ∀ (N : Nat) (x2 : Int32) (x3 : Int32) (x4 : Int32) (i : kw_I), w_X10_slips_59 a0 x1 T n r w Q k48 N x2 x3 x4 i → kw_K E G 5 0 0 (kw_Z E G 0 0 (kw_PI (fun v T' n' r' i' w' => T = T' ∧ n = n' ∧ r = r' ∧ w = w' ∧ Q v i'))) 59 [(0, kw_a a0), (1, kw_i x1), (2, kw_i x2), (3, kw_i x3), (4, kw_i x4)] [] T n r i w := by
  intro N
  induction N with
  | zero => intro x2 x3 x4 i h; exact h.elim
  | succ N ih => intro x2 x3 x4 i h; exact qs_X10_slips_59 hm  h0 hk48 ih x2 x3 x4 i h
set_option maxHeartbeats 4000000 in
set_option maxRecDepth 100000 in
theorem qs_X10_slips_48 {a0 : Nat} {x1 : Int32} {T : kw_T} {n : Nat} {r : kw_R} {w : kw_L} {Q : Int32 → kw_I → Prop} {E : kw_E} {G : kw_G} (hm : kw_m E G cX10_slips 5 RX10 (some .int) rm_X10_slips "slips")  (h0 : T a0 = (0, 10))    {k48 : Int32 → Int32 → kw_I → Prop} (hk48 : ∀ (x2 : Int32) (x3 : Int32) (i : kw_I), k48 x2 x3 i → kw_K E G 5 0 0 (kw_Z E G 0 0 (kw_PI (fun v T' n' r' i' w' => T = T' ∧ n = n' ∧ r = r' ∧ w = w' ∧ Q v i'))) 48 [(0, kw_a a0), (1, kw_i x1), (2, kw_i x2), (3, kw_i x3)] [] T n r i w) (x2 : Int32) (x3 : Int32) (i : kw_I) (h : s_X10_slips_48 a0 x1 T n r w Q  k48 x2 x3 i) : kw_K E G 5 0 0 (kw_Z E G 0 0 (kw_PI (fun v T' n' r' i' w' => T = T' ∧ n = n' ∧ r = r' ∧ w = w' ∧ Q v i'))) 48 [(0, kw_a a0), (1, kw_i x1), (2, kw_i x2), (3, kw_i x3)] [] T n r i w := by
  refine kk_iload_n hm.1 3 dX10_slips_48 rfl rfl ?_
  refine kk_aload_n hm.1 0 dX10_slips_49 rfl rfl ?_
  refine kk_callVi (cs' := 0) (sl' := 0) (st := [kw_i x3]) hm.1 cv_X10_84 (t_X10_villages h0 h) dX10_slips_50 h0 rfl rfl hm.2.2.1 ⟨by decide, by decide⟩ ⟨by decide, by decide⟩ rfl rfl (Nat.le_of_ble_eq_true rfl) rfl ?_
  rintro v50 _ _ _ _ _ ⟨rfl, rfl, rfl, rfl, rfl, h⟩
  refine kk_icmp_ge (tgt := 225) hm.1 dX10_slips_53 (by decide) (fun c53 => ?_) (fun c53 => ?_)
  · have h := h.1 c53
    refine kk_iload_n hm.1 1 dX10_slips_225 rfl rfl ?_
    refine kk_iconst (v := (-1 : Int32)) hm.1 dX10_slips_226 (by decide) ?_
    refine kk_icmp_ne (tgt := 234) hm.1 dX10_slips_227 (by decide) (fun c227 => ?_) (fun c227 => ?_)
    · have h := h.1 c227
      refine kk_iconst (v := (-1 : Int32)) hm.1 dX10_slips_234 (by decide) ?_
      exact kk_iret hm.1 hm.2.1 dX10_slips_235 ⟨_, rfl, rfl, rfl, rfl, rfl, h⟩
    · have h := h.2 c227
      refine kk_iload_n hm.1 2 dX10_slips_230 rfl rfl ?_
      refine kk_goto (tgt := 235) hm.1 dX10_slips_231 (by decide) ?_
      exact kk_iret hm.1 hm.2.1 dX10_slips_235 ⟨_, rfl, rfl, rfl, rfl, rfl, h⟩
  · have h := h.2 c53
    refine kk_iconst (v := (0 : Int32)) hm.1 dX10_slips_56 (by decide) ?_
    refine kk_istore (L' := [(4, kw_i (0 : Int32)), (0, kw_a a0), (1, kw_i x1), (2, kw_i x2), (3, kw_i x3)]) hm.1 dX10_slips_57 (by decide) rfl ?_
    refine kk_loc (L' := [(0, kw_a a0), (1, kw_i x1), (2, kw_i x2), (3, kw_i x3), (4, kw_i (0 : Int32))]) [1, 2, 3, 4, 0] rfl ?_
    obtain ⟨N, h⟩ := h
    exact q_X10_slips_59 hm  h0  hk48 N x2 x3 ((0 : Int32)) i h
set_option maxHeartbeats 4000000 in
set_option maxRecDepth 100000 in
theorem q_X10_slips_48 {a0 : Nat} {x1 : Int32} {T : kw_T} {n : Nat} {r : kw_R} {w : kw_L} {Q : Int32 → kw_I → Prop} {E : kw_E} {G : kw_G} (hm : kw_m E G cX10_slips 5 RX10 (some .int) rm_X10_slips "slips")  (h0 : T a0 = (0, 10))    : ∀ (N : Nat) (x2 : Int32) (x3 : Int32) (i : kw_I), w_X10_slips_48 a0 x1 T n r w Q  N x2 x3 i → kw_K E G 5 0 0 (kw_Z E G 0 0 (kw_PI (fun v T' n' r' i' w' => T = T' ∧ n = n' ∧ r = r' ∧ w = w' ∧ Q v i'))) 48 [(0, kw_a a0), (1, kw_i x1), (2, kw_i x2), (3, kw_i x3)] [] T n r i w := by
  intro N
  induction N with
  | zero => intro x2 x3 i h; exact h.elim
  | succ N ih => intro x2 x3 i h; exact qs_X10_slips_48 hm  h0  ih x2 x3 i h
set_option maxHeartbeats 4000000 in
set_option maxRecDepth 100000 in
theorem qs_X10_slips_15 {a0 : Nat} {x1 : Int32} {T : kw_T} {n : Nat} {r : kw_R} {w : kw_L} {Q : Int32 → kw_I → Prop} {E : kw_E} {G : kw_G} (hm : kw_m E G cX10_slips 5 RX10 (some .int) rm_X10_slips "slips")  (h0 : T a0 = (0, 10))    {k15 : Int32 → Int32 → kw_I → Prop} (hk15 : ∀ (x2 : Int32) (x3 : Int32) (i : kw_I), k15 x2 x3 i → kw_K E G 5 0 0 (kw_Z E G 0 0 (kw_PI (fun v T' n' r' i' w' => T = T' ∧ n = n' ∧ r = r' ∧ w = w' ∧ Q v i'))) 15 [(0, kw_a a0), (1, kw_i x1), (2, kw_i x2), (3, kw_i x3)] [] T n r i w) (x2 : Int32) (x3 : Int32) (i : kw_I) (h : s_X10_slips_15 a0 x1 T n r w Q  k15 x2 x3 i) : kw_K E G 5 0 0 (kw_Z E G 0 0 (kw_PI (fun v T' n' r' i' w' => T = T' ∧ n = n' ∧ r = r' ∧ w = w' ∧ Q v i'))) 15 [(0, kw_a a0), (1, kw_i x1), (2, kw_i x2), (3, kw_i x3)] [] T n r i w := by
  refine kk_iload_n hm.1 3 dX10_slips_15 rfl rfl ?_
  refine kk_bipush (v := (36 : Int32)) hm.1 dX10_slips_16 (by decide) ?_
  refine kk_aload_n hm.1 0 dX10_slips_18 rfl rfl ?_
  refine kk_callVi (cs' := 0) (sl' := 0) (st := [kw_i (36 : Int32), kw_i x3]) hm.1 cv_X10_84 (t_X10_villages h0 h) dX10_slips_19 h0 rfl rfl hm.2.2.1 ⟨by decide, by decide⟩ ⟨by decide, by decide⟩ rfl rfl (Nat.le_of_ble_eq_true rfl) rfl ?_
  rintro v19 _ _ _ _ _ ⟨rfl, rfl, rfl, rfl, rfl, h⟩
  refine kk_iconst (v := (1 : Int32)) hm.1 dX10_slips_22 (by decide) ?_
  refine kk_iadd hm.1 dX10_slips_23 ?_
  refine kk_imul hm.1 dX10_slips_24 ?_
  refine kk_icmp_ge (tgt := 46) hm.1 dX10_slips_25 (by decide) (fun c25 => ?_) (fun c25 => ?_)
  · have h := h.1 c25
    refine kk_iconst (v := (0 : Int32)) hm.1 dX10_slips_46 (by decide) ?_
    refine kk_istore_n (L' := [(3, kw_i (0 : Int32)), (0, kw_a a0), (1, kw_i x1), (2, kw_i x2)]) hm.1 dX10_slips_47 rfl (by decide) rfl ?_
    refine kk_loc (L' := [(0, kw_a a0), (1, kw_i x1), (2, kw_i x2), (3, kw_i (0 : Int32))]) [1, 2, 3, 0] rfl ?_
    obtain ⟨N, h⟩ := h
    exact q_X10_slips_48 hm  h0   N x2 ((0 : Int32)) i h
  · have h := h.2 c25
    refine kk_aload_n hm.1 0 dX10_slips_28 rfl rfl ?_
    refine kk_getR hm.1 ff_X10_58 dX10_slips_29 h0 ?_
    refine kk_iload_n hm.1 3 dX10_slips_32 rfl rfl ?_
    refine kk_aload_n hm.1 0 dX10_slips_33 rfl rfl ?_
    refine kk_getR hm.1 ff_X10_52 dX10_slips_34 h0 ?_
    refine kk_iload_n hm.1 3 dX10_slips_37 rfl rfl ?_
    obtain ⟨o38, h⟩ := h
    refine kk_iaload hm.1 dX10_slips_38 o38 ?_
    obtain ⟨o39, h⟩ := h
    refine kn_iastore hm.1 dX10_slips_39 o39 (fun i39 e39 => ?_)
    have h := h i39 e39
    refine kk_iinc (v := (x3 + (1 : Int32))) (L' := [(3, kw_i (x3 + (1 : Int32))), (0, kw_a a0), (1, kw_i x1), (2, kw_i x2)]) hm.1 3 dX10_slips_40 rfl rfl (by decide) rfl ?_
    refine kk_goto (tgt := 15) hm.1 dX10_slips_43 (by decide) ?_
    refine kk_loc (L' := [(0, kw_a a0), (1, kw_i x1), (2, kw_i x2), (3, kw_i (x3 + (1 : Int32)))]) [1, 2, 3, 0] rfl ?_
    exact hk15 x2 ((x3 + (1 : Int32))) i39 h
set_option maxHeartbeats 4000000 in
set_option maxRecDepth 100000 in
theorem q_X10_slips_15 {a0 : Nat} {x1 : Int32} {T : kw_T} {n : Nat} {r : kw_R} {w : kw_L} {Q : Int32 → kw_I → Prop} {E : kw_E} {G : kw_G} (hm : kw_m E G cX10_slips 5 RX10 (some .int) rm_X10_slips "slips")  (h0 : T a0 = (0, 10))    : ∀ (N : Nat) (x2 : Int32) (x3 : Int32) (i : kw_I), w_X10_slips_15 a0 x1 T n r w Q  N x2 x3 i → kw_K E G 5 0 0 (kw_Z E G 0 0 (kw_PI (fun v T' n' r' i' w' => T = T' ∧ n = n' ∧ r = r' ∧ w = w' ∧ Q v i'))) 15 [(0, kw_a a0), (1, kw_i x1), (2, kw_i x2), (3, kw_i x3)] [] T n r i w := by
  intro N
  induction N with
  | zero => intro x2 x3 i h; exact h.elim
  | succ N ih => intro x2 x3 i h; exact qs_X10_slips_15 hm  h0  ih x2 x3 i h
set_option maxHeartbeats 4000000 in
set_option maxRecDepth 100000 in
theorem t_X10_slips {l : Launch} {G : kw_G} {a0 : Nat} {x1 : Int32} {T : kw_T} {n : Nat} {r : kw_R} {i : kw_I} {w : kw_L} {Q : Int32 → kw_I → Prop} (h0 : T a0 = (0, 10)) (h : w_X10_slips a0 x1 T n r i w Q) : kw_Met l G yX10_slips cX10_slips 5 (some .int) rm_X10_slips [kw_a a0, kw_i x1] (T, n, r, i, w) (kw_PI (fun v T' n' r' i' w' => T = T' ∧ n = n' ∧ r = r' ∧ w = w' ∧ Q v i')) := by
  refine kw_Met.of (by decide) (Nat.le_of_ble_eq_true rfl) fun E hl hRm hE hT hnm => ?_
  have hm : kw_m E G cX10_slips 5 RX10 (some .int) rm_X10_slips "slips" := ⟨hE, hT, hRm, hnm⟩
  subst hl
  show kw_K E G 5 0 0 (kw_Z E G 0 0 (kw_PI (fun v T' n' r' i' w' => T = T' ∧ n = n' ∧ r = r' ∧ w = w' ∧ Q v i'))) 0 [(0, kw_a a0), (1, kw_i x1)] [] T n r i w
  refine kk_iload_n hm.1 1 dX10_slips_0 rfl rfl ?_
  refine kk_iconst (v := (-1 : Int32)) hm.1 dX10_slips_1 (by decide) ?_
  refine kk_icmp_ge (tgt := 7) hm.1 dX10_slips_2 (by decide) (fun c2 => ?_) (fun c2 => ?_)
  · have h := h.1 c2
    refine kk_aload_n hm.1 0 dX10_slips_7 rfl rfl ?_
    refine kk_callVv (cs' := 0) (sl' := 0) (st := []) hm.1 cv_X10_280 (t_X10_looks h0 h) dX10_slips_8 h0 rfl rfl hm.2.2.1 ⟨by decide, by decide⟩ ⟨by decide, by decide⟩ rfl rfl (Nat.le_of_ble_eq_true rfl) rfl ?_
    rintro _ _ _ i8 _ ⟨rfl, rfl, rfl, rfl, h⟩
    refine kk_iconst (v := (0 : Int32)) hm.1 dX10_slips_11 (by decide) ?_
    refine kk_istore_n (L' := [(2, kw_i (0 : Int32)), (0, kw_a a0), (1, kw_i x1)]) hm.1 dX10_slips_12 rfl (by decide) rfl ?_
    refine kk_iconst (v := (0 : Int32)) hm.1 dX10_slips_13 (by decide) ?_
    refine kk_istore_n (L' := [(3, kw_i (0 : Int32)), (2, kw_i (0 : Int32)), (0, kw_a a0), (1, kw_i x1)]) hm.1 dX10_slips_14 rfl (by decide) rfl ?_
    refine kk_loc (L' := [(0, kw_a a0), (1, kw_i x1), (2, kw_i (0 : Int32)), (3, kw_i (0 : Int32))]) [2, 3, 1, 0] rfl ?_
    obtain ⟨N, h⟩ := h
    exact q_X10_slips_15 hm  h0   N ((0 : Int32)) ((0 : Int32)) i8 h
  · have h := h.2 c2
    refine kk_iconst (v := (-1 : Int32)) hm.1 dX10_slips_5 (by decide) ?_
    exact kk_iret hm.1 hm.2.1 dX10_slips_6 ⟨_, rfl, rfl, rfl, rfl, rfl, h⟩
def w_X10_meeting_79 (a0 : Nat) (x1 : Int32) (T : kw_T) (n : Nat) (r : kw_R) (w : kw_L) (Q : Int32 → kw_I → Prop) (k26 : Int32 → Int32 → Int32 → kw_I → Prop) (x2 : Int32) (x3 : Int32) (x4 : Int32) (i : kw_I) : Prop :=
  k26 x2 x3 ((x4 + (1 : Int32))) i
def s_X10_meeting_26 (a0 : Nat) (x1 : Int32) (T : kw_T) (n : Nat) (r : kw_R) (w : kw_L) (Q : Int32 → kw_I → Prop)  (k26 : Int32 → Int32 → Int32 → kw_I → Prop) (x2 : Int32) (x3 : Int32) (x4 : Int32) (i : kw_I) : Prop :=
  w_X10_villages a0 T n r i w (fun v31 => (v31 ≤ (x4 + (1 : Int32)) → (x2 = (-1 : Int32) → Q x2 i) ∧ (¬ x2 = (-1 : Int32) → (¬ x1 = 0 → Q x3 i) ∧ (x1 = 0 → Q x2 i))) ∧ (¬ v31 ≤ (x4 + (1 : Int32)) → w_X10_likeness (r a0 22) ((36 : Int32) * (x4 + (1 : Int32))) (r a0 23) ((36 : Int32) * (x4 + (1 : Int32))) T n r i w (fun v59 => (x3 < v59 → w_X10_meeting_79 a0 x1 T n r w Q k26 x4 v59 x4 i) ∧ (¬ x3 < v59 → w_X10_meeting_79 a0 x1 T n r w Q k26 x2 x3 x4 i))))
def w_X10_meeting_26 (a0 : Nat) (x1 : Int32) (T : kw_T) (n : Nat) (r : kw_R) (w : kw_L) (Q : Int32 → kw_I → Prop)  : Nat → Int32 → Int32 → Int32 → kw_I → Prop
  | 0 => fun _ _ _ _ => False
  | N + 1 => s_X10_meeting_26 a0 x1 T n r w Q  (w_X10_meeting_26 a0 x1 T n r w Q  N)
def w_X10_meeting  (a0 : Nat) (x1 : Int32) (T : kw_T) (n : Nat) (r : kw_R) (i : kw_I) (w : kw_L) (Q : Int32 → kw_I → Prop) : Prop :=
  w_X10_lies x1 (0 : Int32) (1 : Int32) T n r i w (fun v3 => (¬ v3 = 0 → w_X10_looks a0 T n r i w (fun i12 => w_X10_looksBack a0 T n r i12 w (fun i16 => ∃ N, w_X10_meeting_26 a0 x1 T n r w Q  N ((-1 : Int32)) ((-1 : Int32)) ((0 : Int32)) i16))) ∧ (v3 = 0 → Q (-1 : Int32) i))
abbrev rm_X10_meeting : Room := { frames := 129, cells := 0, slots := 0, locals := 6253 }
set_option maxHeartbeats 4000000 in
set_option maxRecDepth 100000 in
theorem q_X10_meeting_79 {a0 : Nat} {x1 : Int32} {T : kw_T} {n : Nat} {r : kw_R} {w : kw_L} {Q : Int32 → kw_I → Prop} {E : kw_E} {G : kw_G} (hm : kw_m E G cX10_meeting 6 RX10 (some .int) rm_X10_meeting "meeting")  (h0 : T a0 = (0, 10))  {k26 : Int32 → Int32 → Int32 → kw_I → Prop} (hk26 : ∀ (x2 : Int32) (x3 : Int32) (x4 : Int32) (i : kw_I), k26 x2 x3 x4 i → kw_K E G 6 0 0 (kw_Z E G 0 0 (kw_PI (fun v T' n' r' i' w' => T = T' ∧ n = n' ∧ r = r' ∧ w = w' ∧ Q v i'))) 26 [(0, kw_a a0), (1, kw_i x1), (2, kw_i x2), (3, kw_i x3), (4, kw_i x4)] [] T n r i w) (x2 : Int32) (x3 : Int32) (x4 : Int32) (i : kw_I) (h : w_X10_meeting_79 a0 x1 T n r w Q k26 x2 x3 x4 i) : kw_K E G 6 0 0 (kw_Z E G 0 0 (kw_PI (fun v T' n' r' i' w' => T = T' ∧ n = n' ∧ r = r' ∧ w = w' ∧ Q v i'))) 79 [(0, kw_a a0), (1, kw_i x1), (2, kw_i x2), (3, kw_i x3), (4, kw_i x4)] [] T n r i w := by
  refine kk_iinc (v := (x4 + (1 : Int32))) (L' := [(4, kw_i (x4 + (1 : Int32))), (0, kw_a a0), (1, kw_i x1), (2, kw_i x2), (3, kw_i x3)]) hm.1 4 dX10_meeting_79 rfl rfl (by decide) rfl ?_
  refine kk_goto (tgt := 26) hm.1 dX10_meeting_82 (by decide) ?_
  refine kk_loc (L' := [(0, kw_a a0), (1, kw_i x1), (2, kw_i x2), (3, kw_i x3), (4, kw_i (x4 + (1 : Int32)))]) [1, 2, 3, 4, 0] rfl ?_
  exact hk26 x2 x3 ((x4 + (1 : Int32))) i h
set_option maxHeartbeats 4000000 in
set_option maxRecDepth 100000 in
theorem qs_X10_meeting_26 {a0 : Nat} {x1 : Int32} {T : kw_T} {n : Nat} {r : kw_R} {w : kw_L} {Q : Int32 → kw_I → Prop} {E : kw_E} {G : kw_G} (hm : kw_m E G cX10_meeting 6 RX10 (some .int) rm_X10_meeting "meeting")  (h0 : T a0 = (0, 10))    {k26 : Int32 → Int32 → Int32 → kw_I → Prop} (hk26 : ∀ (x2 : Int32) (x3 : Int32) (x4 : Int32) (i : kw_I), k26 x2 x3 x4 i → kw_K E G 6 0 0 (kw_Z E G 0 0 (kw_PI (fun v T' n' r' i' w' => T = T' ∧ n = n' ∧ r = r' ∧ w = w' ∧ Q v i'))) 26 [(0, kw_a a0), (1, kw_i x1), (2, kw_i x2), (3, kw_i x3), (4, kw_i x4)] [] T n r i w) (x2 : Int32) (x3 : Int32) (x4 : Int32) (i : kw_I) (h : s_X10_meeting_26 a0 x1 T n r w Q  k26 x2 x3 x4 i) : kw_K E G 6 0 0 (kw_Z E G 0 0 (kw_PI (fun v T' n' r' i' w' => T = T' ∧ n = n' ∧ r = r' ∧ w = w' ∧ Q v i'))) 26 [(0, kw_a a0), (1, kw_i x1), (2, kw_i x2), (3, kw_i x3), (4, kw_i x4)] [] T n r i w := by
  refine kk_iload hm.1 4 dX10_meeting_26 rfl ?_
  refine kk_iconst (v := (1 : Int32)) hm.1 dX10_meeting_28 (by decide) ?_
  refine kk_iadd hm.1 dX10_meeting_29 ?_
  refine kk_aload_n hm.1 0 dX10_meeting_30 rfl rfl ?_
  refine kk_callVi (cs' := 0) (sl' := 0) (st := [kw_i (x4 + (1 : Int32))]) hm.1 cv_X10_84 (t_X10_villages h0 h) dX10_meeting_31 h0 rfl rfl hm.2.2.1 ⟨by decide, by decide⟩ ⟨by decide, by decide⟩ rfl rfl (Nat.le_of_ble_eq_true rfl) rfl ?_
  rintro v31 _ _ _ _ _ ⟨rfl, rfl, rfl, rfl, rfl, h⟩
  refine kk_icmp_ge (tgt := 85) hm.1 dX10_meeting_34 (by decide) (fun c34 => ?_) (fun c34 => ?_)
  · have h := h.1 c34
    refine kk_iload_n hm.1 2 dX10_meeting_85 rfl rfl ?_
    refine kk_iconst (v := (-1 : Int32)) hm.1 dX10_meeting_86 (by decide) ?_
    refine kk_icmp_eq (tgt := 94) hm.1 dX10_meeting_87 (by decide) (fun c87 => ?_) (fun c87 => ?_)
    · have h := h.1 c87
      refine kk_iload_n hm.1 2 dX10_meeting_94 rfl rfl ?_
      refine kk_goto (tgt := 99) hm.1 dX10_meeting_95 (by decide) ?_
      exact kk_iret hm.1 hm.2.1 dX10_meeting_99 ⟨_, rfl, rfl, rfl, rfl, rfl, h⟩
    · have h := h.2 c87
      refine kk_iload_n hm.1 1 dX10_meeting_90 rfl rfl ?_
      refine kk_if_ne (tgt := 98) hm.1 dX10_meeting_91 (by decide) (fun c91 => ?_) (fun c91 => ?_)
      · have h := h.1 c91
        refine kk_iload_n hm.1 3 dX10_meeting_98 rfl rfl ?_
        exact kk_iret hm.1 hm.2.1 dX10_meeting_99 ⟨_, rfl, rfl, rfl, rfl, rfl, h⟩
      · have h := h.2 c91
        refine kk_iload_n hm.1 2 dX10_meeting_94 rfl rfl ?_
        refine kk_goto (tgt := 99) hm.1 dX10_meeting_95 (by decide) ?_
        exact kk_iret hm.1 hm.2.1 dX10_meeting_99 ⟨_, rfl, rfl, rfl, rfl, rfl, h⟩
  · have h := h.2 c34
    refine kk_aload_n hm.1 0 dX10_meeting_37 rfl rfl ?_
    refine kk_getR hm.1 ff_X10_52 dX10_meeting_38 h0 ?_
    refine kk_bipush (v := (36 : Int32)) hm.1 dX10_meeting_41 (by decide) ?_
    refine kk_iload hm.1 4 dX10_meeting_43 rfl ?_
    refine kk_iconst (v := (1 : Int32)) hm.1 dX10_meeting_45 (by decide) ?_
    refine kk_iadd hm.1 dX10_meeting_46 ?_
    refine kk_imul hm.1 dX10_meeting_47 ?_
    refine kk_aload_n hm.1 0 dX10_meeting_48 rfl rfl ?_
    refine kk_getR hm.1 ff_X10_55 dX10_meeting_49 h0 ?_
    refine kk_bipush (v := (36 : Int32)) hm.1 dX10_meeting_52 (by decide) ?_
    refine kk_iload hm.1 4 dX10_meeting_54 rfl ?_
    refine kk_iconst (v := (1 : Int32)) hm.1 dX10_meeting_56 (by decide) ?_
    refine kk_iadd hm.1 dX10_meeting_57 ?_
    refine kk_imul hm.1 dX10_meeting_58 ?_
    refine kk_callSi (cs' := 0) (sl' := 0) (st := []) hm.1 cs_X10_289 (t_X10_likeness h) dX10_meeting_59 rfl hm.2.2.1 ⟨by decide, by decide⟩ ⟨by decide, by decide⟩ rfl rfl (Nat.le_of_ble_eq_true rfl) rfl ?_
    rintro v59 _ _ _ _ _ ⟨rfl, rfl, rfl, rfl, rfl, h⟩
    refine kk_istore (L' := [(5, kw_i v59), (0, kw_a a0), (1, kw_i x1), (2, kw_i x2), (3, kw_i x3), (4, kw_i x4)]) hm.1 dX10_meeting_62 (by decide) rfl ?_
    refine kk_iload hm.1 0 dX10_meeting_64 rfl ?_
    refine kk_iload_n hm.1 4 dX10_meeting_66 rfl rfl ?_
    refine kk_icmp_gt (tgt := 73) hm.1 dX10_meeting_67 (by decide) (fun c67 => ?_) (fun c67 => ?_)
    · have h := h.1 c67
      refine kk_iload hm.1 0 dX10_meeting_73 rfl ?_
      refine kk_istore_n (L' := [(3, kw_i v59), (5, kw_i v59), (0, kw_a a0), (1, kw_i x1), (2, kw_i x2), (4, kw_i x4)]) hm.1 dX10_meeting_75 rfl (by decide) rfl ?_
      refine kk_iload hm.1 5 dX10_meeting_76 rfl ?_
      refine kk_istore_n (L' := [(2, kw_i x4), (3, kw_i v59), (5, kw_i v59), (0, kw_a a0), (1, kw_i x1), (4, kw_i x4)]) hm.1 dX10_meeting_78 rfl (by decide) rfl ?_
      refine kk_loc (L' := [(0, kw_a a0), (1, kw_i x1), (2, kw_i x4), (3, kw_i v59), (4, kw_i x4)]) [3, 4, 0, 1, 5] rfl ?_
      exact q_X10_meeting_79 hm  h0  hk26 x4 v59 x4 i h
    · have h := h.2 c67
      refine kk_goto (tgt := 79) hm.1 dX10_meeting_70 (by decide) ?_
      refine kk_loc (L' := [(0, kw_a a0), (1, kw_i x1), (2, kw_i x2), (3, kw_i x3), (4, kw_i x4)]) [1, 2, 3, 4, 5] rfl ?_
      exact q_X10_meeting_79 hm  h0  hk26 x2 x3 x4 i h
set_option maxHeartbeats 4000000 in
set_option maxRecDepth 100000 in
theorem q_X10_meeting_26 {a0 : Nat} {x1 : Int32} {T : kw_T} {n : Nat} {r : kw_R} {w : kw_L} {Q : Int32 → kw_I → Prop} {E : kw_E} {G : kw_G} (hm : kw_m E G cX10_meeting 6 RX10 (some .int) rm_X10_meeting "meeting")  (h0 : T a0 = (0, 10))    : ∀ (N : Nat) (x2 : Int32) (x3 : Int32) (x4 : Int32) (i : kw_I), w_X10_meeting_26 a0 x1 T n r w Q  N x2 x3 x4 i → kw_K E G 6 0 0 (kw_Z E G 0 0 (kw_PI (fun v T' n' r' i' w' => T = T' ∧ n = n' ∧ r = r' ∧ w = w' ∧ Q v i'))) 26 [(0, kw_a a0), (1, kw_i x1), (2, kw_i x2), (3, kw_i x3), (4, kw_i x4)] [] T n r i w := by
  intro N
  induction N with
  | zero => intro x2 x3 x4 i h; exact h.elim
  | succ N ih => intro x2 x3 x4 i h; exact qs_X10_meeting_26 hm  h0  ih x2 x3 x4 i h
set_option maxHeartbeats 4000000 in
set_option maxRecDepth 100000 in
theorem t_X10_meeting {l : Launch} {G : kw_G} {a0 : Nat} {x1 : Int32} {T : kw_T} {n : Nat} {r : kw_R} {i : kw_I} {w : kw_L} {Q : Int32 → kw_I → Prop} (h0 : T a0 = (0, 10)) (h : w_X10_meeting a0 x1 T n r i w Q) : kw_Met l G yX10_meeting cX10_meeting 6 (some .int) rm_X10_meeting [kw_a a0, kw_i x1] (T, n, r, i, w) (kw_PI (fun v T' n' r' i' w' => T = T' ∧ n = n' ∧ r = r' ∧ w = w' ∧ Q v i')) := by
  refine kw_Met.of (by decide) (Nat.le_of_ble_eq_true rfl) fun E hl hRm hE hT hnm => ?_
  have hm : kw_m E G cX10_meeting 6 RX10 (some .int) rm_X10_meeting "meeting" := ⟨hE, hT, hRm, hnm⟩
  subst hl
  show kw_K E G 6 0 0 (kw_Z E G 0 0 (kw_PI (fun v T' n' r' i' w' => T = T' ∧ n = n' ∧ r = r' ∧ w = w' ∧ Q v i'))) 0 [(0, kw_a a0), (1, kw_i x1)] [] T n r i w
  refine kk_iload_n hm.1 1 dX10_meeting_0 rfl rfl ?_
  refine kk_iconst (v := (0 : Int32)) hm.1 dX10_meeting_1 (by decide) ?_
  refine kk_iconst (v := (1 : Int32)) hm.1 dX10_meeting_2 (by decide) ?_
  refine kk_callSi (cs' := 0) (sl' := 0) (st := []) hm.1 cs_X10_73 (t_X10_lies h) dX10_meeting_3 rfl hm.2.2.1 ⟨by decide, by decide⟩ ⟨by decide, by decide⟩ rfl rfl (Nat.le_of_ble_eq_true rfl) rfl ?_
  rintro v3 _ _ _ _ _ ⟨rfl, rfl, rfl, rfl, rfl, h⟩
  refine kk_if_ne (tgt := 11) hm.1 dX10_meeting_6 (by decide) (fun c6 => ?_) (fun c6 => ?_)
  · have h := h.1 c6
    refine kk_aload_n hm.1 0 dX10_meeting_11 rfl rfl ?_
    refine kk_callVv (cs' := 0) (sl' := 0) (st := []) hm.1 cv_X10_280 (t_X10_looks h0 h) dX10_meeting_12 h0 rfl rfl hm.2.2.1 ⟨by decide, by decide⟩ ⟨by decide, by decide⟩ rfl rfl (Nat.le_of_ble_eq_true rfl) rfl ?_
    rintro _ _ _ i12 _ ⟨rfl, rfl, rfl, rfl, h⟩
    refine kk_aload_n hm.1 0 dX10_meeting_15 rfl rfl ?_
    refine kk_callVv (cs' := 0) (sl' := 0) (st := []) hm.1 cv_X10_283 (t_X10_looksBack h0 h) dX10_meeting_16 h0 rfl rfl hm.2.2.1 ⟨by decide, by decide⟩ ⟨by decide, by decide⟩ rfl rfl (Nat.le_of_ble_eq_true rfl) rfl ?_
    rintro _ _ _ i16 _ ⟨rfl, rfl, rfl, rfl, h⟩
    refine kk_iconst (v := (-1 : Int32)) hm.1 dX10_meeting_19 (by decide) ?_
    refine kk_istore_n (L' := [(2, kw_i (-1 : Int32)), (0, kw_a a0), (1, kw_i x1)]) hm.1 dX10_meeting_20 rfl (by decide) rfl ?_
    refine kk_iconst (v := (-1 : Int32)) hm.1 dX10_meeting_21 (by decide) ?_
    refine kk_istore_n (L' := [(3, kw_i (-1 : Int32)), (2, kw_i (-1 : Int32)), (0, kw_a a0), (1, kw_i x1)]) hm.1 dX10_meeting_22 rfl (by decide) rfl ?_
    refine kk_iconst (v := (0 : Int32)) hm.1 dX10_meeting_23 (by decide) ?_
    refine kk_istore (L' := [(4, kw_i (0 : Int32)), (3, kw_i (-1 : Int32)), (2, kw_i (-1 : Int32)), (0, kw_a a0), (1, kw_i x1)]) hm.1 dX10_meeting_24 (by decide) rfl ?_
    refine kk_loc (L' := [(0, kw_a a0), (1, kw_i x1), (2, kw_i (-1 : Int32)), (3, kw_i (-1 : Int32)), (4, kw_i (0 : Int32))]) [3, 4, 2, 1, 0] rfl ?_
    obtain ⟨N, h⟩ := h
    exact q_X10_meeting_26 hm  h0   N ((-1 : Int32)) ((-1 : Int32)) ((0 : Int32)) i16 h
  · have h := h.2 c6
    refine kk_iconst (v := (-1 : Int32)) hm.1 dX10_meeting_9 (by decide) ?_
    exact kk_iret hm.1 hm.2.1 dX10_meeting_10 ⟨_, rfl, rfl, rfl, rfl, rfl, h⟩
