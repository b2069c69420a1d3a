def w_X4_calculation  (a0 : Nat) (T : kw_T) (n : Nat) (r : kw_R) (i : kw_I) (w : kw_L) (Q : Int32 → Prop) : Prop :=
  (¬ (i a0 6) = (43 : Int32) → (¬ (i a0 6) = (45 : Int32) → (¬ (i a0 6) = (42 : Int32) → (¬ (i a0 6) = (47 : Int32) → Q (-1 : Int32)) ∧ ((i a0 6) = (47 : Int32) → Q (5 : Int32))) ∧ ((i a0 6) = (42 : Int32) → Q (4 : Int32))) ∧ ((i a0 6) = (45 : Int32) → Q (3 : Int32))) ∧ ((i a0 6) = (43 : Int32) → Q (2 : Int32))
abbrev rm_X4_calculation : Room := { frames := 1, cells := 0, slots := 0, locals := 60 }
set_option maxHeartbeats 4000000 in
set_option maxRecDepth 100000 in
theorem t_X4_calculation {l : Launch} {G : kw_G} {a0 : Nat} {T : kw_T} {n : Nat} {r : kw_R} {i : kw_I} {w : kw_L} {Q : Int32 → Prop} (h0 : T a0 = (0, 4)) (h : w_X4_calculation a0 T n r i w Q) : kw_Met l G yX4_calculation cX4_calculation 1 (some .int) rm_X4_calculation [kw_a a0] (T, n, r, i, w) (kw_PI (fun v T' n' r' i' w' => T = T' ∧ n = n' ∧ r = r' ∧ i = i' ∧ w = w' ∧ Q v)) := by
  refine kw_Met.of (by decide) (Nat.le_of_ble_eq_true rfl) fun E hl hRm hE hT hnm => ?_
  have hm : kw_m E G cX4_calculation 1 RX4 (some .int) rm_X4_calculation "calculation" := ⟨hE, hT, hRm, hnm⟩
  subst hl
  show kw_K E G 1 0 0 (kw_Z E G 0 0 (kw_PI (fun v T' n' r' i' w' => T = T' ∧ n = n' ∧ r = r' ∧ i = i' ∧ w = w' ∧ Q v))) 0 [(0, kw_a a0)] [] T n r i w
  refine kk_aload_n hm.1 0 dX4_calculation_0 rfl rfl ?_
  refine kk_getI hm.1 ff_X4_31 dX4_calculation_1 h0 ?_
  refine kk_bipush (v := (43 : Int32)) hm.1 dX4_calculation_4 (by decide) ?_
  refine kk_icmp_ne (tgt := 11) hm.1 dX4_calculation_6 (by decide) (fun c6 => ?_) (fun c6 => ?_)
  · have h := h.1 c6
    refine kk_aload_n hm.1 0 dX4_calculation_11 rfl rfl ?_
    refine kk_getI hm.1 ff_X4_31 dX4_calculation_12 h0 ?_
    refine kk_bipush (v := (45 : Int32)) hm.1 dX4_calculation_15 (by decide) ?_
    refine kk_icmp_ne (tgt := 22) hm.1 dX4_calculation_17 (by decide) (fun c17 => ?_) (fun c17 => ?_)
    · have h := h.1 c17
      refine kk_aload_n hm.1 0 dX4_calculation_22 rfl rfl ?_
      refine kk_getI hm.1 ff_X4_31 dX4_calculation_23 h0 ?_
      refine kk_bipush (v := (42 : Int32)) hm.1 dX4_calculation_26 (by decide) ?_
      refine kk_icmp_ne (tgt := 33) hm.1 dX4_calculation_28 (by decide) (fun c28 => ?_) (fun c28 => ?_)
      · have h := h.1 c28
        refine kk_aload_n hm.1 0 dX4_calculation_33 rfl rfl ?_
        refine kk_getI hm.1 ff_X4_31 dX4_calculation_34 h0 ?_
        refine kk_bipush (v := (47 : Int32)) hm.1 dX4_calculation_37 (by decide) ?_
        refine kk_icmp_ne (tgt := 46) hm.1 dX4_calculation_39 (by decide) (fun c39 => ?_) (fun c39 => ?_)
        · have h := h.1 c39
          refine kk_iconst (v := (-1 : Int32)) hm.1 dX4_calculation_46 (by decide) ?_
          exact kk_iret hm.1 hm.2.1 dX4_calculation_47 ⟨_, rfl, rfl, rfl, rfl, rfl, rfl, h⟩
        · have h := h.2 c39
          refine kk_iconst (v := (5 : Int32)) hm.1 dX4_calculation_42 (by decide) ?_
          refine kk_goto (tgt := 47) hm.1 dX4_calculation_43 (by decide) ?_
          exact kk_iret hm.1 hm.2.1 dX4_calculation_47 ⟨_, rfl, rfl, rfl, rfl, rfl, rfl, h⟩
      · have h := h.2 c28
        refine kk_iconst (v := (4 : Int32)) hm.1 dX4_calculation_31 (by decide) ?_
        exact kk_iret hm.1 hm.2.1 dX4_calculation_32 ⟨_, rfl, rfl, rfl, rfl, rfl, rfl, h⟩
    · have h := h.2 c17
      refine kk_iconst (v := (3 : Int32)) hm.1 dX4_calculation_20 (by decide) ?_
      exact kk_iret hm.1 hm.2.1 dX4_calculation_21 ⟨_, rfl, rfl, rfl, rfl, rfl, rfl, h⟩
  · have h := h.2 c6
    refine kk_iconst (v := (2 : Int32)) hm.1 dX4_calculation_9 (by decide) ?_
    exact kk_iret hm.1 hm.2.1 dX4_calculation_10 ⟨_, rfl, rfl, rfl, rfl, rfl, rfl, h⟩
abbrev rm_X4_readPart (d : Nat) : Room := { frames := 10 + d, cells := 0, slots := 0, locals := 442 + 50 * d }
theorem rms_X4_readPart (d : Nat) {nL' : Nat} (h : nL' ≤ 31) : (rm_X4_readPart d).frames + 1 ≤ (rm_X4_readPart (d + 1)).frames ∧ 8 + (nL' + 11) + (rm_X4_readPart d).locals ≤ (rm_X4_readPart (d + 1)).locals := ⟨by show 10 + d + 1 ≤ 10 + (d + 1); omega, by show 8 + (nL' + 11) + (442 + 50 * d) ≤ 442 + 50 * (d + 1); omega⟩
theorem rmi_X4_readPart (d : Nat) {nL' : Nat} {rm : Room} (h1 : rm.frames + 1 ≤ 10) (h2 : 8 + (nL' + 11) + rm.locals ≤ 442) : rm.frames + 1 ≤ (rm_X4_readPart (d + 1)).frames ∧ 8 + (nL' + 11) + rm.locals ≤ (rm_X4_readPart (d + 1)).locals := ⟨by show _ ≤ 10 + (d + 1); omega, by show _ ≤ 442 + 50 * (d + 1); omega⟩
theorem rmo_X4_readPart {d : Nat} (hd : d ≤ 60) {nL' : Nat} {rm : Room} (h1 : 71 ≤ rm.frames) (h2 : 8 + (nL' + 11) + 3442 ≤ rm.locals) : (rm_X4_readPart d).frames + 1 ≤ rm.frames ∧ 8 + (nL' + 11) + (rm_X4_readPart d).locals ≤ rm.locals := ⟨by show 10 + d + 1 ≤ _; omega, by show 8 + (nL' + 11) + (442 + 50 * d) ≤ _; omega⟩
def w_X4_readPart_69 (k_X4_readPart : Nat → Int32 → kw_T → Nat → kw_R → kw_I → kw_L → (kw_I → Prop) → Prop) (k_X4_readSum : Nat → Int32 → kw_T → Nat → kw_R → kw_I → kw_L → (kw_I → Prop) → Prop) (a0 : Nat) (x1 : Int32) (T : kw_T) (n : Nat) (r : kw_R) (w : kw_L) (Q : kw_I → Prop)  (i : kw_I) : Prop :=
  w_X4_stick a0 T n r i w (fun i70 => Q i70)
def w_X4_readPart_100 (k_X4_readPart : Nat → Int32 → kw_T → Nat → kw_R → kw_I → kw_L → (kw_I → Prop) → Prop) (k_X4_readSum : Nat → Int32 → kw_T → Nat → kw_R → kw_I → kw_L → (kw_I → Prop) → Prop) (a0 : Nat) (x1 : Int32) (T : kw_T) (n : Nat) (r : kw_R) (w : kw_L) (Q : kw_I → Prop)  (x2 : Int32) (s0 : Nat) (s1 : Int32) (i : kw_I) : Prop :=
  T s0 = (0, 4) ∧ (w_X4_emit s0 s1 x2 T n r i w (fun i101 => w_X4_step a0 T n r i101 w (fun i105 => Q i105)))
def w_X4_readPart_54 (k_X4_readPart : Nat → Int32 → kw_T → Nat → kw_R → kw_I → kw_L → (kw_I → Prop) → Prop) (k_X4_readSum : Nat → Int32 → kw_T → Nat → kw_R → kw_I → kw_L → (kw_I → Prop) → Prop) (a0 : Nat) (x1 : Int32) (T : kw_T) (n : Nat) (r : kw_R) (w : kw_L) (Q : kw_I → Prop)  (s0 : Int32) (i : kw_I) : Prop :=
  (s0 = (-1 : Int32) → w_X4_readPart_69 k_X4_readPart k_X4_readSum a0 x1 T n r w Q  i) ∧ (¬ s0 = (-1 : Int32) → ((i a0 8) < (50 : Int32) → ∀ i81 : kw_I, i81 = kw_st i a0 8 ((i a0 8) + (1 : Int32)) → ((¬ (i81 a0 6) = (257 : Int32) → w_X4_readPart_100 k_X4_readPart k_X4_readSum a0 x1 T n r w Q  s0 a0 ((1 : Int32)) i81) ∧ ((i81 a0 6) = (257 : Int32) → w_X4_readPart_100 k_X4_readPart k_X4_readSum a0 x1 T n r w Q  s0 a0 ((0 : Int32)) i81))) ∧ (¬ (i a0 8) < (50 : Int32) → w_X4_readPart_69 k_X4_readPart k_X4_readSum a0 x1 T n r w Q  i))
def w_X4_readPart_33 (k_X4_readPart : Nat → Int32 → kw_T → Nat → kw_R → kw_I → kw_L → (kw_I → Prop) → Prop) (k_X4_readSum : Nat → Int32 → kw_T → Nat → kw_R → kw_I → kw_L → (kw_I → Prop) → Prop) (a0 : Nat) (x1 : Int32) (T : kw_T) (n : Nat) (r : kw_R) (w : kw_L) (Q : kw_I → Prop)  (i : kw_I) : Prop :=
  (¬ (i a0 6) = (257 : Int32) → w_X4_word a0 T n r i w (fun v51 => w_X4_readPart_54 k_X4_readPart k_X4_readSum a0 x1 T n r w Q  v51 i)) ∧ ((i a0 6) = (257 : Int32) → w_X4_number a0 T n r i w (fun v44 => w_X4_readPart_54 k_X4_readPart k_X4_readSum a0 x1 T n r w Q  v44 i))
def w_X4_readPart (k_X4_readPart : Nat → Int32 → kw_T → Nat → kw_R → kw_I → kw_L → (kw_I → Prop) → Prop) (k_X4_readSum : Nat → Int32 → kw_T → Nat → kw_R → kw_I → kw_L → (kw_I → Prop) → Prop) (a0 : Nat) (x1 : Int32) (T : kw_T) (n : Nat) (r : kw_R) (i : kw_I) (w : kw_L) (Q : kw_I → Prop) : Prop :=
  (¬ (i a0 6) = (91 : Int32) → w_X4_readPart_33 k_X4_readPart k_X4_readSum a0 x1 T n r w Q  i) ∧ ((i a0 6) = (91 : Int32) → ((8 : Int32) ≤ x1 → w_X4_readPart_33 k_X4_readPart k_X4_readSum a0 x1 T n r w Q  i) ∧ (¬ (8 : Int32) ≤ x1 → w_X4_step a0 T n r i w (fun i16 => k_X4_readSum a0 (x1 + (1 : Int32)) T n r i16 w (fun i23 => w_X4_takeSign a0 (93 : Int32) T n r i23 w (fun i29 => Q i29)))))
set_option maxHeartbeats 4000000 in
set_option maxRecDepth 100000 in
theorem q_X4_readPart_69 {k_X4_readPart : Nat → Int32 → kw_T → Nat → kw_R → kw_I → kw_L → (kw_I → Prop) → Prop} {k_X4_readSum : Nat → Int32 → kw_T → Nat → kw_R → kw_I → kw_L → (kw_I → Prop) → Prop} {a0 : Nat} {x1 : Int32} {T : kw_T} {n : Nat} {r : kw_R} {w : kw_L} {Q : kw_I → Prop} {E : kw_E} {G : kw_G} {d : Nat} (hm : kw_m E G cX4_readPart 3 RX4 none (rm_X4_readPart (d + 1)) "readPart") (hr_X4_readPart : ∀ (a0 : Nat) (x1 : Int32) (T : kw_T) (n : Nat) (r : kw_R) (i : kw_I) (w : kw_L) (Q : kw_I → Prop), T a0 = (0, 4) → k_X4_readPart a0 x1 T n r i w Q → kw_Met E.2.1 G yX4_readPart cX4_readPart 3 none (rm_X4_readPart d) [kw_a a0, kw_i x1] (T, n, r, i, w) (kw_PV (fun T' n' r' i' w' => T = T' ∧ n = n' ∧ r = r' ∧ w = w' ∧ Q i'))) (hr_X4_readSum : ∀ (a0 : Nat) (x1 : Int32) (T : kw_T) (n : Nat) (r : kw_R) (i : kw_I) (w : kw_L) (Q : kw_I → Prop), T a0 = (0, 4) → k_X4_readSum a0 x1 T n r i w Q → kw_Met E.2.1 G yX4_readSum cX4_readSum 5 none (rm_X4_readPart d) [kw_a a0, kw_i x1] (T, n, r, i, w) (kw_PV (fun T' n' r' i' w' => T = T' ∧ n = n' ∧ r = r' ∧ w = w' ∧ Q i'))) (h0 : T a0 = (0, 4))    (i : kw_I) (h : w_X4_readPart_69 k_X4_readPart k_X4_readSum a0 x1 T n r w Q  i) : kw_K E G 3 0 0 (kw_Z E G 0 0 (kw_PV (fun T' n' r' i' w' => T = T' ∧ n = n' ∧ r = r' ∧ w = w' ∧ Q i'))) 69 [(0, kw_a a0), (1, kw_i x1)] [] T n r i w := by
  refine kk_aload_n hm.1 0 dX4_readPart_69 rfl rfl ?_
  refine kk_callVv (cs' := 0) (sl' := 0) (st := []) hm.1 cv_X4_58 (t_X4_stick h0 h) dX4_readPart_70 h0 rfl rfl hm.2.2.1 (rmi_X4_readPart d (by decide) (by decide)) ⟨Nat.le_refl _, Nat.le_refl _⟩ rfl rfl (Nat.le_of_ble_eq_true rfl) rfl ?_
  rintro _ _ _ i70 _ ⟨rfl, rfl, rfl, rfl, h⟩
  exact kk_vret hm.1 hm.2.1 dX4_readPart_73 ⟨rfl, rfl, rfl, rfl, rfl, h⟩
set_option maxHeartbeats 4000000 in
set_option maxRecDepth 100000 in
theorem q_X4_readPart_100 {k_X4_readPart : Nat → Int32 → kw_T → Nat → kw_R → kw_I → kw_L → (kw_I → Prop) → Prop} {k_X4_readSum : Nat → Int32 → kw_T → Nat → kw_R → kw_I → kw_L → (kw_I → Prop) → Prop} {a0 : Nat} {x1 : Int32} {T : kw_T} {n : Nat} {r : kw_R} {w : kw_L} {Q : kw_I → Prop} {E : kw_E} {G : kw_G} {d : Nat} (hm : kw_m E G cX4_readPart 3 RX4 none (rm_X4_readPart (d + 1)) "readPart") (hr_X4_readPart : ∀ (a0 : Nat) (x1 : Int32) (T : kw_T) (n : Nat) (r : kw_R) (i : kw_I) (w : kw_L) (Q : kw_I → Prop), T a0 = (0, 4) → k_X4_readPart a0 x1 T n r i w Q → kw_Met E.2.1 G yX4_readPart cX4_readPart 3 none (rm_X4_readPart d) [kw_a a0, kw_i x1] (T, n, r, i, w) (kw_PV (fun T' n' r' i' w' => T = T' ∧ n = n' ∧ r = r' ∧ w = w' ∧ Q i'))) (hr_X4_readSum : ∀ (a0 : Nat) (x1 : Int32) (T : kw_T) (n : Nat) (r : kw_R) (i : kw_I) (w : kw_L) (Q : kw_I → Prop), T a0 = (0, 4) → k_X4_readSum a0 x1 T n r i w Q → kw_Met E.2.1 G yX4_readSum cX4_readSum 5 none (rm_X4_readPart d) [kw_a a0, kw_i x1] (T, n, r, i, w) (kw_PV (fun T' n' r' i' w' => T = T' ∧ n = n' ∧ r = r' ∧ w = w' ∧ Q i'))) (h0 : T a0 = (0, 4))    (x2 : Int32) (s0 : Nat) (s1 : Int32) (i : kw_I) (h : w_X4_readPart_100 k_X4_readPart k_X4_readSum a0 x1 T n r w Q  x2 s0 s1 i) : kw_K E G 3 0 0 (kw_Z E G 0 0 (kw_PV (fun T' n' r' i' w' => T = T' ∧ n = n' ∧ r = r' ∧ w = w' ∧ Q i'))) 100 [(0, kw_a a0), (1, kw_i x1), (2, kw_i x2)] [kw_i s1, kw_a s0] T n r i w := by
  refine kk_iload_n hm.1 2 dX4_readPart_100 rfl rfl ?_
  obtain ⟨o101, h⟩ := h
  refine kk_callVv (cs' := 0) (sl' := 0) (st := []) hm.1 cv_X4_89 (t_X4_emit o101 h) dX4_readPart_101 o101 rfl rfl hm.2.2.1 (rmi_X4_readPart d (by decide) (by decide)) ⟨Nat.le_refl _, Nat.le_refl _⟩ rfl rfl (Nat.le_of_ble_eq_true rfl) rfl ?_
  rintro _ _ _ i101 _ ⟨rfl, rfl, rfl, rfl, h⟩
  refine kk_aload_n hm.1 0 dX4_readPart_104 rfl rfl ?_
  refine kk_callVv (cs' := 0) (sl' := 0) (st := []) hm.1 cv_X4_49 (t_X4_step h0 h) dX4_readPart_105 h0 rfl rfl hm.2.2.1 (rmi_X4_readPart d (by decide) (by decide)) ⟨Nat.le_refl _, Nat.le_refl _⟩ rfl rfl (Nat.le_of_ble_eq_true rfl) rfl ?_
  rintro _ _ _ i105 _ ⟨rfl, rfl, rfl, rfl, h⟩
  exact kk_vret hm.1 hm.2.1 dX4_readPart_108 ⟨rfl, rfl, rfl, rfl, rfl, h⟩
set_option maxHeartbeats 4000000 in
set_option maxRecDepth 100000 in
theorem q_X4_readPart_54 {k_X4_readPart : Nat → Int32 → kw_T → Nat → kw_R → kw_I → kw_L → (kw_I → Prop) → Prop} {k_X4_readSum : Nat → Int32 → kw_T → Nat → kw_R → kw_I → kw_L → (kw_I → Prop) → Prop} {a0 : Nat} {x1 : Int32} {T : kw_T} {n : Nat} {r : kw_R} {w : kw_L} {Q : kw_I → Prop} {E : kw_E} {G : kw_G} {d : Nat} (hm : kw_m E G cX4_readPart 3 RX4 none (rm_X4_readPart (d + 1)) "readPart") (hr_X4_readPart : ∀ (a0 : Nat) (x1 : Int32) (T : kw_T) (n : Nat) (r : kw_R) (i : kw_I) (w : kw_L) (Q : kw_I → Prop), T a0 = (0, 4) → k_X4_readPart a0 x1 T n r i w Q → kw_Met E.2.1 G yX4_readPart cX4_readPart 3 none (rm_X4_readPart d) [kw_a a0, kw_i x1] (T, n, r, i, w) (kw_PV (fun T' n' r' i' w' => T = T' ∧ n = n' ∧ r = r' ∧ w = w' ∧ Q i'))) (hr_X4_readSum : ∀ (a0 : Nat) (x1 : Int32) (T : kw_T) (n : Nat) (r : kw_R) (i : kw_I) (w : kw_L) (Q : kw_I → Prop), T a0 = (0, 4) → k_X4_readSum a0 x1 T n r i w Q → kw_Met E.2.1 G yX4_readSum cX4_readSum 5 none (rm_X4_readPart d) [kw_a a0, kw_i x1] (T, n, r, i, w) (kw_PV (fun T' n' r' i' w' => T = T' ∧ n = n' ∧ r = r' ∧ w = w' ∧ Q i'))) (h0 : T a0 = (0, 4))    (s0 : Int32) (i : kw_I) (h : w_X4_readPart_54 k_X4_readPart k_X4_readSum a0 x1 T n r w Q  s0 i) : kw_K E G 3 0 0 (kw_Z E G 0 0 (kw_PV (fun T' n' r' i' w' => T = T' ∧ n = n' ∧ r = r' ∧ w = w' ∧ Q i'))) 54 [(0, kw_a a0), (1, kw_i x1)] [kw_i s0] T n r i w := by
  refine kk_istore_n (L' := [(2, kw_i s0), (0, kw_a a0), (1, kw_i x1)]) hm.1 dX4_readPart_54 rfl (by decide) rfl ?_
  refine kk_iload_n hm.1 0 dX4_readPart_55 rfl rfl ?_
  refine kk_iconst (v := (-1 : Int32)) hm.1 dX4_readPart_56 (by decide) ?_
  refine kk_icmp_eq (tgt := 69) hm.1 dX4_readPart_57 (by decide) (fun c57 => ?_) (fun c57 => ?_)
  · have h := h.1 c57
    refine kk_loc (L' := [(0, kw_a a0), (1, kw_i x1)]) [1, 2] rfl ?_
    exact q_X4_readPart_69 hm hr_X4_readPart hr_X4_readSum h0   i h
  · have h := h.2 c57
    refine kk_aload_n hm.1 1 dX4_readPart_60 rfl rfl ?_
    refine kk_getI hm.1 ff_X4_37 dX4_readPart_61 h0 ?_
    refine kk_bipush (v := (50 : Int32)) hm.1 dX4_readPart_64 (by decide) ?_
    refine kk_icmp_lt (tgt := 74) hm.1 dX4_readPart_66 (by decide) (fun c66 => ?_) (fun c66 => ?_)
    · have h := h.1 c66
      refine kk_aload_n hm.1 1 dX4_readPart_74 rfl rfl ?_
      refine kk_dup hm.1 dX4_readPart_75 rfl ?_
      refine kk_getI hm.1 ff_X4_37 dX4_readPart_76 h0 ?_
      refine kk_iconst (v := (1 : Int32)) hm.1 dX4_readPart_79 (by decide) ?_
      refine kk_iadd hm.1 dX4_readPart_80 ?_
      refine kn_putI hm.1 fp_X4_37 dX4_readPart_81 h0 (fun i81 e81 => ?_)
      have h := h i81 e81
      refine kk_aload_n hm.1 1 dX4_readPart_84 rfl rfl ?_
      refine kk_aload_n hm.1 1 dX4_readPart_85 rfl rfl ?_
      refine kk_getI hm.1 ff_X4_31 dX4_readPart_86 h0 ?_
      refine kk_sipush (v := (257 : Int32)) hm.1 dX4_readPart_89 (by decide) ?_
      refine kk_icmp_ne (tgt := 99) hm.1 dX4_readPart_92 (by decide) (fun c92 => ?_) (fun c92 => ?_)
      · have h := h.1 c92
        refine kk_iconst (v := (1 : Int32)) hm.1 dX4_readPart_99 (by decide) ?_
        refine kk_loc (L' := [(0, kw_a a0), (1, kw_i x1), (2, kw_i s0)]) [1, 2, 0] rfl ?_
        exact q_X4_readPart_100 hm hr_X4_readPart hr_X4_readSum h0   s0 a0 ((1 : Int32)) i81 h
      · have h := h.2 c92
        refine kk_iconst (v := (0 : Int32)) hm.1 dX4_readPart_95 (by decide) ?_
        refine kk_goto (tgt := 100) hm.1 dX4_readPart_96 (by decide) ?_
        refine kk_loc (L' := [(0, kw_a a0), (1, kw_i x1), (2, kw_i s0)]) [1, 2, 0] rfl ?_
        exact q_X4_readPart_100 hm hr_X4_readPart hr_X4_readSum h0   s0 a0 ((0 : Int32)) i81 h
    · have h := h.2 c66
      refine kk_loc (L' := [(0, kw_a a0), (1, kw_i x1)]) [1, 2] rfl ?_
      exact q_X4_readPart_69 hm hr_X4_readPart hr_X4_readSum h0   i h
set_option maxHeartbeats 4000000 in
set_option maxRecDepth 100000 in
theorem q_X4_readPart_33 {k_X4_readPart : Nat → Int32 → kw_T → Nat → kw_R → kw_I → kw_L → (kw_I → Prop) → Prop} {k_X4_readSum : Nat → Int32 → kw_T → Nat → kw_R → kw_I → kw_L → (kw_I → Prop) → Prop} {a0 : Nat} {x1 : Int32} {T : kw_T} {n : Nat} {r : kw_R} {w : kw_L} {Q : kw_I → Prop} {E : kw_E} {G : kw_G} {d : Nat} (hm : kw_m E G cX4_readPart 3 RX4 none (rm_X4_readPart (d + 1)) "readPart") (hr_X4_readPart : ∀ (a0 : Nat) (x1 : Int32) (T : kw_T) (n : Nat) (r : kw_R) (i : kw_I) (w : kw_L) (Q : kw_I → Prop), T a0 = (0, 4) → k_X4_readPart a0 x1 T n r i w Q → kw_Met E.2.1 G yX4_readPart cX4_readPart 3 none (rm_X4_readPart d) [kw_a a0, kw_i x1] (T, n, r, i, w) (kw_PV (fun T' n' r' i' w' => T = T' ∧ n = n' ∧ r = r' ∧ w = w' ∧ Q i'))) (hr_X4_readSum : ∀ (a0 : Nat) (x1 : Int32) (T : kw_T) (n : Nat) (r : kw_R) (i : kw_I) (w : kw_L) (Q : kw_I → Prop), T a0 = (0, 4) → k_X4_readSum a0 x1 T n r i w Q → kw_Met E.2.1 G yX4_readSum cX4_readSum 5 none (rm_X4_readPart d) [kw_a a0, kw_i x1] (T, n, r, i, w) (kw_PV (fun T' n' r' i' w' => T = T' ∧ n = n' ∧ r = r' ∧ w = w' ∧ Q i'))) (h0 : T a0 = (0, 4))    (i : kw_I) (h : w_X4_readPart_33 k_X4_readPart k_X4_readSum a0 x1 T n r w Q  i) : kw_K E G 3 0 0 (kw_Z E G 0 0 (kw_PV (fun T' n' r' i' w' => T = T' ∧ n = n' ∧ r = r' ∧ w = w' ∧ Q i'))) 33 [(0, kw_a a0), (1, kw_i x1)] [] T n r i w := by
  refine kk_aload_n hm.1 0 dX4_readPart_33 rfl rfl ?_
  refine kk_getI hm.1 ff_X4_31 dX4_readPart_34 h0 ?_
  refine kk_sipush (v := (257 : Int32)) hm.1 dX4_readPart_37 (by decide) ?_
  refine kk_icmp_ne (tgt := 50) hm.1 dX4_readPart_40 (by decide) (fun c40 => ?_) (fun c40 => ?_)
  · have h := h.1 c40
    refine kk_aload_n hm.1 0 dX4_readPart_50 rfl rfl ?_
    refine kk_callVi (cs' := 0) (sl' := 0) (st := []) hm.1 cv_X4_116 (t_X4_word h0 h) dX4_readPart_51 h0 rfl rfl hm.2.2.1 (rmi_X4_readPart d (by decide) (by decide)) ⟨Nat.le_refl _, Nat.le_refl _⟩ rfl rfl (Nat.le_of_ble_eq_true rfl) rfl ?_
    rintro v51 _ _ _ _ _ ⟨rfl, rfl, rfl, rfl, rfl, h⟩
    exact q_X4_readPart_54 hm hr_X4_readPart hr_X4_readSum h0   v51 i h
  · have h := h.2 c40
    refine kk_aload_n hm.1 0 dX4_readPart_43 rfl rfl ?_
    refine kk_callVi (cs' := 0) (sl' := 0) (st := []) hm.1 cv_X4_113 (t_X4_number h0 h) dX4_readPart_44 h0 rfl rfl hm.2.2.1 (rmi_X4_readPart d (by decide) (by decide)) ⟨Nat.le_refl _, Nat.le_refl _⟩ rfl rfl (Nat.le_of_ble_eq_true rfl) rfl ?_
    rintro v44 _ _ _ _ _ ⟨rfl, rfl, rfl, rfl, rfl, h⟩
    refine kk_goto (tgt := 54) hm.1 dX4_readPart_47 (by decide) ?_
    exact q_X4_readPart_54 hm hr_X4_readPart hr_X4_readSum h0   v44 i h
set_option maxHeartbeats 4000000 in
set_option maxRecDepth 100000 in
theorem t_X4_readPart {l : Launch} {G : kw_G} {d : Nat} {k_X4_readPart : Nat → Int32 → kw_T → Nat → kw_R → kw_I → kw_L → (kw_I → Prop) → Prop} {k_X4_readSum : Nat → Int32 → kw_T → Nat → kw_R → kw_I → kw_L → (kw_I → Prop) → Prop} {a0 : Nat} {x1 : Int32} {T : kw_T} {n : Nat} {r : kw_R} {i : kw_I} {w : kw_L} {Q : kw_I → Prop} (hr_X4_readPart : ∀ (a0 : Nat) (x1 : Int32) (T : kw_T) (n : Nat) (r : kw_R) (i : kw_I) (w : kw_L) (Q : kw_I → Prop), T a0 = (0, 4) → k_X4_readPart a0 x1 T n r i w Q → kw_Met l G yX4_readPart cX4_readPart 3 none (rm_X4_readPart d) [kw_a a0, kw_i x1] (T, n, r, i, w) (kw_PV (fun T' n' r' i' w' => T = T' ∧ n = n' ∧ r = r' ∧ w = w' ∧ Q i'))) (hr_X4_readSum : ∀ (a0 : Nat) (x1 : Int32) (T : kw_T) (n : Nat) (r : kw_R) (i : kw_I) (w : kw_L) (Q : kw_I → Prop), T a0 = (0, 4) → k_X4_readSum a0 x1 T n r i w Q → kw_Met l G yX4_readSum cX4_readSum 5 none (rm_X4_readPart d) [kw_a a0, kw_i x1] (T, n, r, i, w) (kw_PV (fun T' n' r' i' w' => T = T' ∧ n = n' ∧ r = r' ∧ w = w' ∧ Q i'))) (h0 : T a0 = (0, 4)) (h : w_X4_readPart k_X4_readPart k_X4_readSum a0 x1 T n r i w Q) : kw_Met l G yX4_readPart cX4_readPart 3 none (rm_X4_readPart (d + 1)) [kw_a a0, kw_i x1] (T, n, r, i, w) (kw_PV (fun T' n' r' i' w' => T = T' ∧ n = n' ∧ r = r' ∧ w = w' ∧ Q i')) := by
  refine kw_Met.of (by decide) (Nat.le_of_ble_eq_true rfl) fun E hl hRm hE hT hnm => ?_
  have hm : kw_m E G cX4_readPart 3 RX4 none (rm_X4_readPart (d + 1)) "readPart" := ⟨hE, hT, hRm, hnm⟩
  subst hl
  show kw_K E G 3 0 0 (kw_Z E G 0 0 (kw_PV (fun T' n' r' i' w' => T = T' ∧ n = n' ∧ r = r' ∧ w = w' ∧ Q i'))) 0 [(0, kw_a a0), (1, kw_i x1)] [] T n r i w
  refine kk_aload_n hm.1 0 dX4_readPart_0 rfl rfl ?_
  refine kk_getI hm.1 ff_X4_31 dX4_readPart_1 h0 ?_
  refine kk_bipush (v := (91 : Int32)) hm.1 dX4_readPart_4 (by decide) ?_
  refine kk_icmp_ne (tgt := 33) hm.1 dX4_readPart_6 (by decide) (fun c6 => ?_) (fun c6 => ?_)
  · have h := h.1 c6
    exact q_X4_readPart_33 hm hr_X4_readPart hr_X4_readSum h0   i h
  · have h := h.2 c6
    refine kk_iload_n hm.1 1 dX4_readPart_9 rfl rfl ?_
    refine kk_bipush (v := (8 : Int32)) hm.1 dX4_readPart_10 (by decide) ?_
    refine kk_icmp_ge (tgt := 33) hm.1 dX4_readPart_12 (by decide) (fun c12 => ?_) (fun c12 => ?_)
    · have h := h.1 c12
      exact q_X4_readPart_33 hm hr_X4_readPart hr_X4_readSum h0   i h
    · have h := h.2 c12
      refine kk_aload_n hm.1 0 dX4_readPart_15 rfl rfl ?_
      refine kk_callVv (cs' := 0) (sl' := 0) (st := []) hm.1 cv_X4_49 (t_X4_step h0 h) dX4_readPart_16 h0 rfl rfl hm.2.2.1 (rmi_X4_readPart d (by decide) (by decide)) ⟨Nat.le_refl _, Nat.le_refl _⟩ rfl rfl (Nat.le_of_ble_eq_true rfl) rfl ?_
      rintro _ _ _ i16 _ ⟨rfl, rfl, rfl, rfl, h⟩
      refine kk_aload_n hm.1 0 dX4_readPart_19 rfl rfl ?_
      refine kk_iload_n hm.1 1 dX4_readPart_20 rfl rfl ?_
      refine kk_iconst (v := (1 : Int32)) hm.1 dX4_readPart_21 (by decide) ?_
      refine kk_iadd hm.1 dX4_readPart_22 ?_
      refine kk_callVv (cs' := 0) (sl' := 0) (st := []) hm.1 cv_X4_61 (hr_X4_readSum a0 (x1 + (1 : Int32)) T n r i16 w _ h0 h) dX4_readPart_23 h0 rfl rfl hm.2.2.1 (rms_X4_readPart d (by decide)) ⟨Nat.le_refl _, Nat.le_refl _⟩ rfl rfl (Nat.le_of_ble_eq_true rfl) rfl ?_
      rintro _ _ _ i23 _ ⟨rfl, rfl, rfl, rfl, h⟩
      refine kk_aload_n hm.1 0 dX4_readPart_26 rfl rfl ?_
      refine kk_bipush (v := (93 : Int32)) hm.1 dX4_readPart_27 (by decide) ?_
      refine kk_callVv (cs' := 0) (sl' := 0) (st := []) hm.1 cv_X4_81 (t_X4_takeSign h0 h) dX4_readPart_29 h0 rfl rfl hm.2.2.1 (rmi_X4_readPart d (by decide) (by decide)) ⟨Nat.le_refl _, Nat.le_refl _⟩ rfl rfl (Nat.le_of_ble_eq_true rfl) rfl ?_
      rintro _ _ _ i29 _ ⟨rfl, rfl, rfl, rfl, h⟩
      exact kk_vret hm.1 hm.2.1 dX4_readPart_32 ⟨rfl, rfl, rfl, rfl, rfl, h⟩
def w_X4_readSum_87 (k_X4_readPart : Nat → Int32 → kw_T → Nat → kw_R → kw_I → kw_L → (kw_I → Prop) → Prop) (k_X4_readSum : Nat → Int32 → kw_T → Nat → kw_R → kw_I → kw_L → (kw_I → Prop) → Prop) (a0 : Nat) (x1 : Int32) (T : kw_T) (n : Nat) (r : kw_R) (w : kw_L) (Q : kw_I → Prop)  (x2 : Int32) (i : kw_I) : Prop :=
  (x2 = (-1 : Int32) → Q i) ∧ (¬ x2 = (-1 : Int32) → w_X4_emit a0 x2 (0 : Int32) T n r i w (fun i95 => Q i95))
def w_X4_readSum_81 (k_X4_readPart : Nat → Int32 → kw_T → Nat → kw_R → kw_I → kw_L → (kw_I → Prop) → Prop) (k_X4_readSum : Nat → Int32 → kw_T → Nat → kw_R → kw_I → kw_L → (kw_I → Prop) → Prop) (a0 : Nat) (x1 : Int32) (T : kw_T) (n : Nat) (r : kw_R) (w : kw_L) (Q : kw_I → Prop) (k9 : Int32 → Int32 → kw_I → Prop) (x2 : Int32) (x3 : Int32) (i : kw_I) : Prop :=
  k9 x2 ((x3 + (1 : Int32))) i
def w_X4_readSum_58 (k_X4_readPart : Nat → Int32 → kw_T → Nat → kw_R → kw_I → kw_L → (kw_I → Prop) → Prop) (k_X4_readSum : Nat → Int32 → kw_T → Nat → kw_R → kw_I → kw_L → (kw_I → Prop) → Prop) (a0 : Nat) (x1 : Int32) (T : kw_T) (n : Nat) (r : kw_R) (w : kw_L) (Q : kw_I → Prop) (k9 : Int32 → Int32 → kw_I → Prop) (x3 : Int32) (x4 : Int32) (i : kw_I) : Prop :=
  k_X4_readPart a0 x1 T n r i w (fun i63 => w_X4_readSum_81 k_X4_readPart k_X4_readSum a0 x1 T n r w Q k9 x4 x3 i63)
def w_X4_readSum_47 (k_X4_readPart : Nat → Int32 → kw_T → Nat → kw_R → kw_I → kw_L → (kw_I → Prop) → Prop) (k_X4_readSum : Nat → Int32 → kw_T → Nat → kw_R → kw_I → kw_L → (kw_I → Prop) → Prop) (a0 : Nat) (x1 : Int32) (T : kw_T) (n : Nat) (r : kw_R) (w : kw_L) (Q : kw_I → Prop) (k9 : Int32 → Int32 → kw_I → Prop) (x2 : Int32) (x3 : Int32) (x4 : Int32) (i : kw_I) : Prop :=
  (x2 = (-1 : Int32) → w_X4_readSum_58 k_X4_readPart k_X4_readSum a0 x1 T n r w Q k9 x3 x4 i) ∧ (¬ x2 = (-1 : Int32) → w_X4_emit a0 x2 (0 : Int32) T n r i w (fun i55 => w_X4_readSum_58 k_X4_readPart k_X4_readSum a0 x1 T n r w Q k9 x3 x4 i55))
def s_X4_readSum_9 (k_X4_readPart : Nat → Int32 → kw_T → Nat → kw_R → kw_I → kw_L → (kw_I → Prop) → Prop) (k_X4_readSum : Nat → Int32 → kw_T → Nat → kw_R → kw_I → kw_L → (kw_I → Prop) → Prop) (a0 : Nat) (x1 : Int32) (T : kw_T) (n : Nat) (r : kw_R) (w : kw_L) (Q : kw_I → Prop)  (k9 : Int32 → Int32 → kw_I → Prop) (x2 : Int32) (x3 : Int32) (i : kw_I) : Prop :=
  ((400 : Int32) ≤ x3 → w_X4_readSum_87 k_X4_readPart k_X4_readSum a0 x1 T n r w Q  x2 i) ∧ (¬ (400 : Int32) ≤ x3 → w_X4_calculation a0 T n r i w (fun v17 => (¬ v17 = (-1 : Int32) → w_X4_step a0 T n r i w (fun i32 => (v17 = (2 : Int32) → w_X4_readSum_47 k_X4_readPart k_X4_readSum a0 x1 T n r w Q k9 x2 x3 v17 i32) ∧ (¬ v17 = (2 : Int32) → (¬ v17 = (3 : Int32) → k_X4_readPart a0 x1 T n r i32 w (fun i71 => w_X4_emit a0 v17 (0 : Int32) T n r i71 w (fun i78 => w_X4_readSum_81 k_X4_readPart k_X4_readSum a0 x1 T n r w Q k9 x2 x3 i78))) ∧ (v17 = (3 : Int32) → w_X4_readSum_47 k_X4_readPart k_X4_readSum a0 x1 T n r w Q k9 x2 x3 v17 i32)))) ∧ (v17 = (-1 : Int32) → w_X4_readSum_87 k_X4_readPart k_X4_readSum a0 x1 T n r w Q  x2 i)))
def w_X4_readSum_9 (k_X4_readPart : Nat → Int32 → kw_T → Nat → kw_R → kw_I → kw_L → (kw_I → Prop) → Prop) (k_X4_readSum : Nat → Int32 → kw_T → Nat → kw_R → kw_I → kw_L → (kw_I → Prop) → Prop) (a0 : Nat) (x1 : Int32) (T : kw_T) (n : Nat) (r : kw_R) (w : kw_L) (Q : kw_I → Prop)  : Nat → Int32 → Int32 → kw_I → Prop
  | 0 => fun _ _ _ => False
  | N + 1 => s_X4_readSum_9 k_X4_readPart k_X4_readSum a0 x1 T n r w Q  (w_X4_readSum_9 k_X4_readPart k_X4_readSum a0 x1 T n r w Q  N)
def w_X4_readSum (k_X4_readPart : Nat → Int32 → kw_T → Nat → kw_R → kw_I → kw_L → (kw_I → Prop) → Prop) (k_X4_readSum : Nat → Int32 → kw_T → Nat → kw_R → kw_I → kw_L → (kw_I → Prop) → Prop) (a0 : Nat) (x1 : Int32) (T : kw_T) (n : Nat) (r : kw_R) (i : kw_I) (w : kw_L) (Q : kw_I → Prop) : Prop :=
  k_X4_readPart a0 x1 T n r i w (fun i4 => ∃ N, w_X4_readSum_9 k_X4_readPart k_X4_readSum a0 x1 T n r w Q  N ((-1 : Int32)) ((0 : Int32)) i4)
set_option maxHeartbeats 4000000 in
set_option maxRecDepth 100000 in
theorem q_X4_readSum_87 {k_X4_readPart : Nat → Int32 → kw_T → Nat → kw_R → kw_I → kw_L → (kw_I → Prop) → Prop} {k_X4_readSum : Nat → Int32 → kw_T → Nat → kw_R → kw_I → kw_L → (kw_I → Prop) → Prop} {a0 : Nat} {x1 : Int32} {T : kw_T} {n : Nat} {r : kw_R} {w : kw_L} {Q : kw_I → Prop} {E : kw_E} {G : kw_G} {d : Nat} (hm : kw_m E G cX4_readSum 5 RX4 none (rm_X4_readPart (d + 1)) "readSum") (hr_X4_readPart : ∀ (a0 : Nat) (x1 : Int32) (T : kw_T) (n : Nat) (r : kw_R) (i : kw_I) (w : kw_L) (Q : kw_I → Prop), T a0 = (0, 4) → k_X4_readPart a0 x1 T n r i w Q → kw_Met E.2.1 G yX4_readPart cX4_readPart 3 none (rm_X4_readPart d) [kw_a a0, kw_i x1] (T, n, r, i, w) (kw_PV (fun T' n' r' i' w' => T = T' ∧ n = n' ∧ r = r' ∧ w = w' ∧ Q i'))) (hr_X4_readSum : ∀ (a0 : Nat) (x1 : Int32) (T : kw_T) (n : Nat) (r : kw_R) (i : kw_I) (w : kw_L) (Q : kw_I → Prop), T a0 = (0, 4) → k_X4_readSum a0 x1 T n r i w Q → kw_Met E.2.1 G yX4_readSum cX4_readSum 5 none (rm_X4_readPart d) [kw_a a0, kw_i x1] (T, n, r, i, w) (kw_PV (fun T' n' r' i' w' => T = T' ∧ n = n' ∧ r = r' ∧ w = w' ∧ Q i'))) (h0 : T a0 = (0, 4))    (x2 : Int32) (i : kw_I) (h : w_X4_readSum_87 k_X4_readPart k_X4_readSum a0 x1 T n r w Q  x2 i) : kw_K E G 5 0 0 (kw_Z E G 0 0 (kw_PV (fun T' n' r' i' w' => T = T' ∧ n = n' ∧ r = r' ∧ w = w' ∧ Q i'))) 87 [(0, kw_a a0), (1, kw_i x1), (2, kw_i x2)] [] T n r i w := by
  refine kk_iload_n hm.1 2 dX4_readSum_87 rfl rfl ?_
  refine kk_iconst (v := (-1 : Int32)) hm.1 dX4_readSum_88 (by decide) ?_
  refine kk_icmp_eq (tgt := 98) hm.1 dX4_readSum_89 (by decide) (fun c89 => ?_) (fun c89 => ?_)
  · have h := h.1 c89
    exact kk_vret hm.1 hm.2.1 dX4_readSum_98 ⟨rfl, rfl, rfl, rfl, rfl, h⟩
  · have h := h.2 c89
    refine kk_aload_n hm.1 0 dX4_readSum_92 rfl rfl ?_
    refine kk_iload_n hm.1 2 dX4_readSum_93 rfl rfl ?_
    refine kk_iconst (v := (0 : Int32)) hm.1 dX4_readSum_94 (by decide) ?_
    refine kk_callVv (cs' := 0) (sl' := 0) (st := []) hm.1 cv_X4_89 (t_X4_emit h0 h) dX4_readSum_95 h0 rfl rfl hm.2.2.1 (rmi_X4_readPart d (by decide) (by decide)) ⟨Nat.le_refl _, Nat.le_refl _⟩ rfl rfl (Nat.le_of_ble_eq_true rfl) rfl ?_
    rintro _ _ _ i95 _ ⟨rfl, rfl, rfl, rfl, h⟩
    exact kk_vret hm.1 hm.2.1 dX4_readSum_98 ⟨rfl, rfl, rfl, rfl, rfl, h⟩
set_option maxHeartbeats 4000000 in
set_option maxRecDepth 100000 in
theorem q_X4_readSum_81 {k_X4_readPart : Nat → Int32 → kw_T → Nat → kw_R → kw_I → kw_L → (kw_I → Prop) → Prop} {k_X4_readSum : Nat → Int32 → kw_T → Nat → kw_R → kw_I → kw_L → (kw_I → Prop) → Prop} {a0 : Nat} {x1 : Int32} {T : kw_T} {n : Nat} {r : kw_R} {w : kw_L} {Q : kw_I → Prop} {E : kw_E} {G : kw_G} {d : Nat} (hm : kw_m E G cX4_readSum 5 RX4 none (rm_X4_readPart (d + 1)) "readSum") (hr_X4_readPart : ∀ (a0 : Nat) (x1 : Int32) (T : kw_T) (n : Nat) (r : kw_R) (i : kw_I) (w : kw_L) (Q : kw_I → Prop), T a0 = (0, 4) → k_X4_readPart a0 x1 T n r i w Q → kw_Met E.2.1 G yX4_readPart cX4_readPart 3 none (rm_X4_readPart d) [kw_a a0, kw_i x1] (T, n, r, i, w) (kw_PV (fun T' n' r' i' w' => T = T' ∧ n = n' ∧ r = r' ∧ w = w' ∧ Q i'))) (hr_X4_readSum : ∀ (a0 : Nat) (x1 : Int32) (T : kw_T) (n : Nat) (r : kw_R) (i : kw_I) (w : kw_L) (Q : kw_I → Prop), T a0 = (0, 4) → k_X4_readSum a0 x1 T n r i w Q → kw_Met E.2.1 G yX4_readSum cX4_readSum 5 none (rm_X4_readPart d) [kw_a a0, kw_i x1] (T, n, r, i, w) (kw_PV (fun T' n' r' i' w' => T = T' ∧ n = n' ∧ r = r' ∧ w = w' ∧ Q i'))) (h0 : T a0 = (0, 4))  {k9 : Int32 → Int32 → kw_I → Prop} (hk9 : ∀ (x2 : Int32) (x3 : Int32) (i : kw_I), k9 x2 x3 i → kw_K E G 5 0 0 (kw_Z E G 0 0 (kw_PV (fun T' n' r' i' w' => T = T' ∧ n = n' ∧ r = r' ∧ w = w' ∧ Q i'))) 9 [(0, kw_a a0), (1, kw_i x1), (2, kw_i x2), (3, kw_i x3)] [] T n r i w) (x2 : Int32) (x3 : Int32) (i : kw_I) (h : w_X4_readSum_81 k_X4_readPart k_X4_readSum a0 x1 T n r w Q k9 x2 x3 i) : kw_K E G 5 0 0 (kw_Z E G 0 0 (kw_PV (fun T' n' r' i' w' => T = T' ∧ n = n' ∧ r = r' ∧ w = w' ∧ Q i'))) 81 [(0, kw_a a0), (1, kw_i x1), (2, kw_i x2), (3, kw_i x3)] [] T n r i w := by
  refine kk_iinc (v := (x3 + (1 : Int32))) (L' := [(3, kw_i (x3 + (1 : Int32))), (0, kw_a a0), (1, kw_i x1), (2, kw_i x2)]) hm.1 3 dX4_readSum_81 rfl rfl (by decide) rfl ?_
  refine kk_goto (tgt := 9) hm.1 dX4_readSum_84 (by decide) ?_
  refine kk_loc (L' := [(0, kw_a a0), (1, kw_i x1), (2, kw_i x2), (3, kw_i (x3 + (1 : Int32)))]) [1, 2, 3, 0] rfl ?_
  exact hk9 x2 ((x3 + (1 : Int32))) i h
set_option maxHeartbeats 4000000 in
set_option maxRecDepth 100000 in
theorem q_X4_readSum_58 {k_X4_readPart : Nat → Int32 → kw_T → Nat → kw_R → kw_I → kw_L → (kw_I → Prop) → Prop} {k_X4_readSum : Nat → Int32 → kw_T → Nat → kw_R → kw_I → kw_L → (kw_I → Prop) → Prop} {a0 : Nat} {x1 : Int32} {T : kw_T} {n : Nat} {r : kw_R} {w : kw_L} {Q : kw_I → Prop} {E : kw_E} {G : kw_G} {d : Nat} (hm : kw_m E G cX4_readSum 5 RX4 none (rm_X4_readPart (d + 1)) "readSum") (hr_X4_readPart : ∀ (a0 : Nat) (x1 : Int32) (T : kw_T) (n : Nat) (r : kw_R) (i : kw_I) (w : kw_L) (Q : kw_I → Prop), T a0 = (0, 4) → k_X4_readPart a0 x1 T n r i w Q → kw_Met E.2.1 G yX4_readPart cX4_readPart 3 none (rm_X4_readPart d) [kw_a a0, kw_i x1] (T, n, r, i, w) (kw_PV (fun T' n' r' i' w' => T = T' ∧ n = n' ∧ r = r' ∧ w = w' ∧ Q i'))) (hr_X4_readSum : ∀ (a0 : Nat) (x1 : Int32) (T : kw_T) (n : Nat) (r : kw_R) (i : kw_I) (w : kw_L) (Q : kw_I → Prop), T a0 = (0, 4) → k_X4_readSum a0 x1 T n r i w Q → kw_Met E.2.1 G yX4_readSum cX4_readSum 5 none (rm_X4_readPart d) [kw_a a0, kw_i x1] (T, n, r, i, w) (kw_PV (fun T' n' r' i' w' => T = T' ∧ n = n' ∧ r = r' ∧ w = w' ∧ Q i'))) (h0 : T a0 = (0, 4))  {k9 : Int32 → Int32 → kw_I → Prop} (hk9 : ∀ (x2 : Int32) (x3 : Int32) (i : kw_I), k9 x2 x3 i → kw_K E G 5 0 0 (kw_Z E G 0 0 (kw_PV (fun T' n' r' i' w' => T = T' ∧ n = n' ∧ r = r' ∧ w = w' ∧ Q i'))) 9 [(0, kw_a a0), (1, kw_i x1), (2, kw_i x2), (3, kw_i x3)] [] T n r i w) (x3 : Int32) (x4 : Int32) (i : kw_I) (h : w_X4_readSum_58 k_X4_readPart k_X4_readSum a0 x1 T n r w Q k9 x3 x4 i) : kw_K E G 5 0 0 (kw_Z E G 0 0 (kw_PV (fun T' n' r' i' w' => T = T' ∧ n = n' ∧ r = r' ∧ w = w' ∧ Q i'))) 58 [(0, kw_a a0), (1, kw_i x1), (3, kw_i x3), (4, kw_i x4)] [] T n r i w := by
  refine kk_iload hm.1 3 dX4_readSum_58 rfl ?_
  refine kk_istore_n (L' := [(2, kw_i x4), (0, kw_a a0), (1, kw_i x1), (3, kw_i x3), (4, kw_i x4)]) hm.1 dX4_readSum_60 rfl (by decide) rfl ?_
  refine kk_aload_n hm.1 1 dX4_readSum_61 rfl rfl ?_
  refine kk_iload_n hm.1 2 dX4_readSum_62 rfl rfl ?_
  refine kk_callVv (cs' := 0) (sl' := 0) (st := []) hm.1 cv_X4_107 (hr_X4_readPart a0 x1 T n r i w _ h0 h) dX4_readSum_63 h0 rfl rfl hm.2.2.1 (rms_X4_readPart d (by decide)) ⟨Nat.le_refl _, Nat.le_refl _⟩ rfl rfl (Nat.le_of_ble_eq_true rfl) rfl ?_
  rintro _ _ _ i63 _ ⟨rfl, rfl, rfl, rfl, h⟩
  refine kk_goto (tgt := 81) hm.1 dX4_readSum_66 (by decide) ?_
  refine kk_loc (L' := [(0, kw_a a0), (1, kw_i x1), (2, kw_i x4), (3, kw_i x3)]) [1, 2, 0, 3] rfl ?_
  exact q_X4_readSum_81 hm hr_X4_readPart hr_X4_readSum h0  hk9 x4 x3 i63 h
set_option maxHeartbeats 4000000 in
set_option maxRecDepth 100000 in
theorem q_X4_readSum_47 {k_X4_readPart : Nat → Int32 → kw_T → Nat → kw_R → kw_I → kw_L → (kw_I → Prop) → Prop} {k_X4_readSum : Nat → Int32 → kw_T → Nat → kw_R → kw_I → kw_L → (kw_I → Prop) → Prop} {a0 : Nat} {x1 : Int32} {T : kw_T} {n : Nat} {r : kw_R} {w : kw_L} {Q : kw_I → Prop} {E : kw_E} {G : kw_G} {d : Nat} (hm : kw_m E G cX4_readSum 5 RX4 none (rm_X4_readPart (d + 1)) "readSum") (hr_X4_readPart : ∀ (a0 : Nat) (x1 : Int32) (T : kw_T) (n : Nat) (r : kw_R) (i : kw_I) (w : kw_L) (Q : kw_I → Prop), T a0 = (0, 4) → k_X4_readPart a0 x1 T n r i w Q → kw_Met E.2.1 G yX4_readPart cX4_readPart 3 none (rm_X4_readPart d) [kw_a a0, kw_i x1] (T, n, r, i, w) (kw_PV (fun T' n' r' i' w' => T = T' ∧ n = n' ∧ r = r' ∧ w = w' ∧ Q i'))) (hr_X4_readSum : ∀ (a0 : Nat) (x1 : Int32) (T : kw_T) (n : Nat) (r : kw_R) (i : kw_I) (w : kw_L) (Q : kw_I → Prop), T a0 = (0, 4) → k_X4_readSum a0 x1 T n r i w Q → kw_Met E.2.1 G yX4_readSum cX4_readSum 5 none (rm_X4_readPart d) [kw_a a0, kw_i x1] (T, n, r, i, w) (kw_PV (fun T' n' r' i' w' => T = T' ∧ n = n' ∧ r = r' ∧ w = w' ∧ Q i'))) (h0 : T a0 = (0, 4))  {k9 : Int32 → Int32 → kw_I → Prop} (hk9 : ∀ (x2 : Int32) (x3 : Int32) (i : kw_I), k9 x2 x3 i → kw_K E G 5 0 0 (kw_Z E G 0 0 (kw_PV (fun T' n' r' i' w' => T = T' ∧ n = n' ∧ r = r' ∧ w = w' ∧ Q i'))) 9 [(0, kw_a a0), (1, kw_i x1), (2, kw_i x2), (3, kw_i x3)] [] T n r i w) (x2 : Int32) (x3 : Int32) (x4 : Int32) (i : kw_I) (h : w_X4_readSum_47 k_X4_readPart k_X4_readSum a0 x1 T n r w Q k9 x2 x3 x4 i) : kw_K E G 5 0 0 (kw_Z E G 0 0 (kw_PV (fun T' n' r' i' w' => T = T' ∧ n = n' ∧ r = r' ∧ w = w' ∧ Q i'))) 47 [(0, kw_a a0), (1, kw_i x1), (2, kw_i x2), (3, kw_i x3), (4, kw_i x4)] [] T n r i w := by
  refine kk_iload_n hm.1 2 dX4_readSum_47 rfl rfl ?_
  refine kk_iconst (v := (-1 : Int32)) hm.1 dX4_readSum_48 (by decide) ?_
  refine kk_icmp_eq (tgt := 58) hm.1 dX4_readSum_49 (by decide) (fun c49 => ?_) (fun c49 => ?_)
  · have h := h.1 c49
    refine kk_loc (L' := [(0, kw_a a0), (1, kw_i x1), (3, kw_i x3), (4, kw_i x4)]) [0, 1, 3, 4] rfl ?_
    exact q_X4_readSum_58 hm hr_X4_readPart hr_X4_readSum h0  hk9 x3 x4 i h
  · have h := h.2 c49
    refine kk_aload_n hm.1 0 dX4_readSum_52 rfl rfl ?_
    refine kk_iload_n hm.1 2 dX4_readSum_53 rfl rfl ?_
    refine kk_iconst (v := (0 : Int32)) hm.1 dX4_readSum_54 (by decide) ?_
    refine kk_callVv (cs' := 0) (sl' := 0) (st := []) hm.1 cv_X4_89 (t_X4_emit h0 h) dX4_readSum_55 h0 rfl rfl hm.2.2.1 (rmi_X4_readPart d (by decide) (by decide)) ⟨Nat.le_refl _, Nat.le_refl _⟩ rfl rfl (Nat.le_of_ble_eq_true rfl) rfl ?_
    rintro _ _ _ i55 _ ⟨rfl, rfl, rfl, rfl, h⟩
    refine kk_loc (L' := [(0, kw_a a0), (1, kw_i x1), (3, kw_i x3), (4, kw_i x4)]) [0, 1, 3, 4] rfl ?_
    exact q_X4_readSum_58 hm hr_X4_readPart hr_X4_readSum h0  hk9 x3 x4 i55 h
set_option maxHeartbeats 4000000 in
set_option maxRecDepth 100000 in
theorem qs_X4_readSum_9 {k_X4_readPart : Nat → Int32 → kw_T → Nat → kw_R → kw_I → kw_L → (kw_I → Prop) → Prop} {k_X4_readSum : Nat → Int32 → kw_T → Nat → kw_R → kw_I → kw_L → (kw_I → Prop) → Prop} {a0 : Nat} {x1 : Int32} {T : kw_T} {n : Nat} {r : kw_R} {w : kw_L} {Q : kw_I → Prop} {E : kw_E} {G : kw_G} {d : Nat} (hm : kw_m E G cX4_readSum 5 RX4 none (rm_X4_readPart (d + 1)) "readSum") (hr_X4_readPart : ∀ (a0 : Nat) (x1 : Int32) (T : kw_T) (n : Nat) (r : kw_R) (i : kw_I) (w : kw_L) (Q : kw_I → Prop), T a0 = (0, 4) → k_X4_readPart a0 x1 T n r i w Q → kw_Met E.2.1 G yX4_readPart cX4_readPart 3 none (rm_X4_readPart d) [kw_a a0, kw_i x1] (T, n, r, i, w) (kw_PV (fun T' n' r' i' w' => T = T' ∧ n = n' ∧ r = r' ∧ w = w' ∧ Q i'))) (hr_X4_readSum : ∀ (a0 : Nat) (x1 : Int32) (T : kw_T) (n : Nat) (r : kw_R) (i : kw_I) (w : kw_L) (Q : kw_I → Prop), T a0 = (0, 4) → k_X4_readSum a0 x1 T n r i w Q → kw_Met E.2.1 G yX4_readSum cX4_readSum 5 none (rm_X4_readPart d) [kw_a a0, kw_i x1] (T, n, r, i, w) (kw_PV (fun T' n' r' i' w' => T = T' ∧ n = n' ∧ r = r' ∧ w = w' ∧ Q i'))) (h0 : T a0 = (0, 4))    {k9 : Int32 → Int32 → kw_I → Prop} (hk9 : ∀ (x2 : Int32) (x3 : Int32) (i : kw_I), k9 x2 x3 i → kw_K E G 5 0 0 (kw_Z E G 0 0 (kw_PV (fun T' n' r' i' w' => T = T' ∧ n = n' ∧ r = r' ∧ w = w' ∧ Q i'))) 9 [(0, kw_a a0), (1, kw_i x1), (2, kw_i x2), (3, kw_i x3)] [] T n r i w) (x2 : Int32) (x3 : Int32) (i : kw_I) (h : s_X4_readSum_9 k_X4_readPart k_X4_readSum a0 x1 T n r w Q  k9 x2 x3 i) : kw_K E G 5 0 0 (kw_Z E G 0 0 (kw_PV (fun T' n' r' i' w' => T = T' ∧ n = n' ∧ r = r' ∧ w = w' ∧ Q i'))) 9 [(0, kw_a a0), (1, kw_i x1), (2, kw_i x2), (3, kw_i x3)] [] T n r i w := by
  refine kk_iload_n hm.1 3 dX4_readSum_9 rfl rfl ?_
  refine kk_sipush (v := (400 : Int32)) hm.1 dX4_readSum_10 (by decide) ?_
  refine kk_icmp_ge (tgt := 87) hm.1 dX4_readSum_13 (by decide) (fun c13 => ?_) (fun c13 => ?_)
  · have h := h.1 c13
    refine kk_loc (L' := [(0, kw_a a0), (1, kw_i x1), (2, kw_i x2)]) [0, 1, 2] rfl ?_
    exact q_X4_readSum_87 hm hr_X4_readPart hr_X4_readSum h0   x2 i h
  · have h := h.2 c13
    refine kk_aload_n hm.1 0 dX4_readSum_16 rfl rfl ?_
    refine kk_callVi (cs' := 0) (sl' := 0) (st := []) hm.1 cv_X4_110 (t_X4_calculation h0 h) dX4_readSum_17 h0 rfl rfl hm.2.2.1 (rmi_X4_readPart d (by decide) (by decide)) ⟨Nat.le_refl _, Nat.le_refl _⟩ rfl rfl (Nat.le_of_ble_eq_true rfl) rfl ?_
    rintro v17 _ _ _ _ _ ⟨rfl, rfl, rfl, rfl, rfl, h⟩
    refine kk_istore (L' := [(4, kw_i v17), (0, kw_a a0), (1, kw_i x1), (2, kw_i x2), (3, kw_i x3)]) hm.1 dX4_readSum_20 (by decide) rfl ?_
    refine kk_iload hm.1 0 dX4_readSum_22 rfl ?_
    refine kk_iconst (v := (-1 : Int32)) hm.1 dX4_readSum_24 (by decide) ?_
    refine kk_icmp_ne (tgt := 31) hm.1 dX4_readSum_25 (by decide) (fun c25 => ?_) (fun c25 => ?_)
    · have h := h.1 c25
      refine kk_aload_n hm.1 1 dX4_readSum_31 rfl rfl ?_
      refine kk_callVv (cs' := 0) (sl' := 0) (st := []) hm.1 cv_X4_49 (t_X4_step h0 h) dX4_readSum_32 h0 rfl rfl hm.2.2.1 (rmi_X4_readPart d (by decide) (by decide)) ⟨Nat.le_refl _, Nat.le_refl _⟩ rfl rfl (Nat.le_of_ble_eq_true rfl) rfl ?_
      rintro _ _ _ i32 _ ⟨rfl, rfl, rfl, rfl, h⟩
      refine kk_iload hm.1 0 dX4_readSum_35 rfl ?_
      refine kk_iconst (v := (2 : Int32)) hm.1 dX4_readSum_37 (by decide) ?_
      refine kk_icmp_eq (tgt := 47) hm.1 dX4_readSum_38 (by decide) (fun c38 => ?_) (fun c38 => ?_)
      · have h := h.1 c38
        refine kk_loc (L' := [(0, kw_a a0), (1, kw_i x1), (2, kw_i x2), (3, kw_i x3), (4, kw_i v17)]) [1, 2, 3, 4, 0] rfl ?_
        exact q_X4_readSum_47 hm hr_X4_readPart hr_X4_readSum h0  hk9 x2 x3 v17 i32 h
      · have h := h.2 c38
        refine kk_iload hm.1 0 dX4_readSum_41 rfl ?_
        refine kk_iconst (v := (3 : Int32)) hm.1 dX4_readSum_43 (by decide) ?_
        refine kk_icmp_ne (tgt := 69) hm.1 dX4_readSum_44 (by decide) (fun c44 => ?_) (fun c44 => ?_)
        · have h := h.1 c44
          refine kk_aload_n hm.1 1 dX4_readSum_69 rfl rfl ?_
          refine kk_iload_n hm.1 2 dX4_readSum_70 rfl rfl ?_
          refine kk_callVv (cs' := 0) (sl' := 0) (st := []) hm.1 cv_X4_107 (hr_X4_readPart a0 x1 T n r i32 w _ h0 h) dX4_readSum_71 h0 rfl rfl hm.2.2.1 (rms_X4_readPart d (by decide)) ⟨Nat.le_refl _, Nat.le_refl _⟩ rfl rfl (Nat.le_of_ble_eq_true rfl) rfl ?_
          rintro _ _ _ i71 _ ⟨rfl, rfl, rfl, rfl, h⟩
          refine kk_aload_n hm.1 1 dX4_readSum_74 rfl rfl ?_
          refine kk_iload hm.1 0 dX4_readSum_75 rfl ?_
          refine kk_iconst (v := (0 : Int32)) hm.1 dX4_readSum_77 (by decide) ?_
          refine kk_callVv (cs' := 0) (sl' := 0) (st := []) hm.1 cv_X4_89 (t_X4_emit h0 h) dX4_readSum_78 h0 rfl rfl hm.2.2.1 (rmi_X4_readPart d (by decide) (by decide)) ⟨Nat.le_refl _, Nat.le_refl _⟩ rfl rfl (Nat.le_of_ble_eq_true rfl) rfl ?_
          rintro _ _ _ i78 _ ⟨rfl, rfl, rfl, rfl, h⟩
          refine kk_loc (L' := [(0, kw_a a0), (1, kw_i x1), (2, kw_i x2), (3, kw_i x3)]) [1, 2, 3, 4] rfl ?_
          exact q_X4_readSum_81 hm hr_X4_readPart hr_X4_readSum h0  hk9 x2 x3 i78 h
        · have h := h.2 c44
          refine kk_loc (L' := [(0, kw_a a0), (1, kw_i x1), (2, kw_i x2), (3, kw_i x3), (4, kw_i v17)]) [1, 2, 3, 4, 0] rfl ?_
          exact q_X4_readSum_47 hm hr_X4_readPart hr_X4_readSum h0  hk9 x2 x3 v17 i32 h
    · have h := h.2 c25
      refine kk_goto (tgt := 87) hm.1 dX4_readSum_28 (by decide) ?_
      refine kk_loc (L' := [(0, kw_a a0), (1, kw_i x1), (2, kw_i x2)]) [1, 2, 3] rfl ?_
      exact q_X4_readSum_87 hm hr_X4_readPart hr_X4_readSum h0   x2 i h
set_option maxHeartbeats 4000000 in
set_option maxRecDepth 100000 in
theorem q_X4_readSum_9 {k_X4_readPart : Nat → Int32 → kw_T → Nat → kw_R → kw_I → kw_L → (kw_I → Prop) → Prop} {k_X4_readSum : Nat → Int32 → kw_T → Nat → kw_R → kw_I → kw_L → (kw_I → Prop) → Prop} {a0 : Nat} {x1 : Int32} {T : kw_T} {n : Nat} {r : kw_R} {w : kw_L} {Q : kw_I → Prop} {E : kw_E} {G : kw_G} {d : Nat} (hm : kw_m E G cX4_readSum 5 RX4 none (rm_X4_readPart (d + 1)) "readSum") (hr_X4_readPart : ∀ (a0 : Nat) (x1 : Int32) (T : kw_T) (n : Nat) (r : kw_R) (i : kw_I) (w : kw_L) (Q : kw_I → Prop), T a0 = (0, 4) → k_X4_readPart a0 x1 T n r i w Q → kw_Met E.2.1 G yX4_readPart cX4_readPart 3 none (rm_X4_readPart d) [kw_a a0, kw_i x1] (T, n, r, i, w) (kw_PV (fun T' n' r' i' w' => T = T' ∧ n = n' ∧ r = r' ∧ w = w' ∧ Q i'))) (hr_X4_readSum : ∀ (a0 : Nat) (x1 : Int32) (T : kw_T) (n : Nat) (r : kw_R) (i : kw_I) (w : kw_L) (Q : kw_I → Prop), T a0 = (0, 4) → k_X4_readSum a0 x1 T n r i w Q → kw_Met E.2.1 G yX4_readSum cX4_readSum 5 none (rm_X4_readPart d) [kw_a a0, kw_i x1] (T, n, r, i, w) (kw_PV (fun T' n' r' i' w' => T = T' ∧ n = n' ∧ r = r' ∧ w = w' ∧ Q i'))) (h0 : T a0 = (0, 4))    : ∀ (N : Nat) (x2 : Int32) (x3 : Int32) (i : kw_I), w_X4_readSum_9 k_X4_readPart k_X4_readSum a0 x1 T n r w Q  N x2 x3 i → kw_K E G 5 0 0 (kw_Z E G 0 0 (kw_PV (fun T' n' r' i' w' => T = T' ∧ n = n' ∧ r = r' ∧ w = w' ∧ Q i'))) 9 [(0, kw_a a0), (1, kw_i x1), (2, kw_i x2), (3, kw_i x3)] [] T n r i w := by
  intro N
  induction N with
  | zero => intro x2 x3 i h; exact h.elim
  | succ N ih => intro x2 x3 i h; exact qs_X4_readSum_9 hm hr_X4_readPart hr_X4_readSum h0  ih x2 x3 i h
set_option maxHeartbeats 4000000 in
set_option maxRecDepth 100000 in
theorem t_X4_readSum {l : Launch} {G : kw_G} {d : Nat} {k_X4_readPart : Nat → Int32 → kw_T → Nat → kw_R → kw_I → kw_L → (kw_I → Prop) → Prop} {k_X4_readSum : Nat → Int32 → kw_T → Nat → kw_R → kw_I → kw_L → (kw_I → Prop) → Prop} {a0 : Nat} {x1 : Int32} {T : kw_T} {n : Nat} {r : kw_R} {i : kw_I} {w : kw_L} {Q : kw_I → Prop} (hr_X4_readPart : ∀ (a0 : Nat) (x1 : Int32) (T : kw_T) (n : Nat) (r : kw_R) (i : kw_I) (w : kw_L) (Q : kw_I → Prop), T a0 = (0, 4) → k_X4_readPart a0 x1 T n r i w Q → kw_Met l G yX4_readPart cX4_readPart 3 none (rm_X4_readPart d) [kw_a a0, kw_i x1] (T, n, r, i, w) (kw_PV (fun T' n' r' i' w' => T = T' ∧ n = n' ∧ r = r' ∧ w = w' ∧ Q i'))) (hr_X4_readSum : ∀ (a0 : Nat) (x1 : Int32) (T : kw_T) (n : Nat) (r : kw_R) (i : kw_I) (w : kw_L) (Q : kw_I → Prop), T a0 = (0, 4) → k_X4_readSum a0 x1 T n r i w Q → kw_Met l G yX4_readSum cX4_readSum 5 none (rm_X4_readPart d) [kw_a a0, kw_i x1] (T, n, r, i, w) (kw_PV (fun T' n' r' i' w' => T = T' ∧ n = n' ∧ r = r' ∧ w = w' ∧ Q i'))) (h0 : T a0 = (0, 4)) (h : w_X4_readSum k_X4_readPart k_X4_readSum a0 x1 T n r i w Q) : kw_Met l G yX4_readSum cX4_readSum 5 none (rm_X4_readPart (d + 1)) [kw_a a0, kw_i x1] (T, n, r, i, w) (kw_PV (fun T' n' r' i' w' => T = T' ∧ n = n' ∧ r = r' ∧ w = w' ∧ Q i')) := by
  refine kw_Met.of (by decide) (Nat.le_of_ble_eq_true rfl) fun E hl hRm hE hT hnm => ?_
  have hm : kw_m E G cX4_readSum 5 RX4 none (rm_X4_readPart (d + 1)) "readSum" := ⟨hE, hT, hRm, hnm⟩
  subst hl
  show kw_K E G 5 0 0 (kw_Z E G 0 0 (kw_PV (fun T' n' r' i' w' => T = T' ∧ n = n' ∧ r = r' ∧ w = w' ∧ Q i'))) 0 [(0, kw_a a0), (1, kw_i x1)] [] T n r i w
  refine kk_iconst (v := (-1 : Int32)) hm.1 dX4_readSum_0 (by decide) ?_
  refine kk_istore_n (L' := [(2, kw_i (-1 : Int32)), (0, kw_a a0), (1, kw_i x1)]) hm.1 dX4_readSum_1 rfl (by decide) rfl ?_
  refine kk_aload_n hm.1 1 dX4_readSum_2 rfl rfl ?_
  refine kk_iload_n hm.1 2 dX4_readSum_3 rfl rfl ?_
  refine kk_callVv (cs' := 0) (sl' := 0) (st := []) hm.1 cv_X4_107 (hr_X4_readPart a0 x1 T n r i w _ h0 h) dX4_readSum_4 h0 rfl rfl hm.2.2.1 (rms_X4_readPart d (by decide)) ⟨Nat.le_refl _, Nat.le_refl _⟩ rfl rfl (Nat.le_of_ble_eq_true rfl) rfl ?_
  rintro _ _ _ i4 _ ⟨rfl, rfl, rfl, rfl, h⟩
  refine kk_iconst (v := (0 : Int32)) hm.1 dX4_readSum_7 (by decide) ?_
  refine kk_istore_n (L' := [(3, kw_i (0 : Int32)), (2, kw_i (-1 : Int32)), (0, kw_a a0), (1, kw_i x1)]) hm.1 dX4_readSum_8 rfl (by decide) rfl ?_
  refine kk_loc (L' := [(0, kw_a a0), (1, kw_i x1), (2, kw_i (-1 : Int32)), (3, kw_i (0 : Int32))]) [2, 3, 1, 0] rfl ?_
  obtain ⟨N, h⟩ := h
  exact q_X4_readSum_9 hm hr_X4_readPart hr_X4_readSum h0   N ((-1 : Int32)) ((0 : Int32)) i4 h
def g_X4_readPart : Nat → (Nat → Int32 → kw_T → Nat → kw_R → kw_I → kw_L → (kw_I → Prop) → Prop) × (Nat → Int32 → kw_T → Nat → kw_R → kw_I → kw_L → (kw_I → Prop) → Prop)
  | 0 => (fun _ _ _ _ _ _ _ _ => False, fun _ _ _ _ _ _ _ _ => False)
  | d + 1 => (w_X4_readPart (g_X4_readPart d).1 (g_X4_readPart d).2, w_X4_readSum (g_X4_readPart d).1 (g_X4_readPart d).2)
set_option maxHeartbeats 4000000 in
set_option maxRecDepth 100000 in
theorem tg_X4_readPart (l : Launch) (G : kw_G) : ∀ d : Nat, (∀ (a0 : Nat) (x1 : Int32) (T : kw_T) (n : Nat) (r : kw_R) (i : kw_I) (w : kw_L) (Q : kw_I → Prop), T a0 = (0, 4) → (g_X4_readPart d).1 a0 x1 T n r i w Q → kw_Met l G yX4_readPart cX4_readPart 3 none (rm_X4_readPart d) [kw_a a0, kw_i x1] (T, n, r, i, w) (kw_PV (fun T' n' r' i' w' => T = T' ∧ n = n' ∧ r = r' ∧ w = w' ∧ Q i'))) ∧ (∀ (a0 : Nat) (x1 : Int32) (T : kw_T) (n : Nat) (r : kw_R) (i : kw_I) (w : kw_L) (Q : kw_I → Prop), T a0 = (0, 4) → (g_X4_readPart d).2 a0 x1 T n r i w Q → kw_Met l G yX4_readSum cX4_readSum 5 none (rm_X4_readPart d) [kw_a a0, kw_i x1] (T, n, r, i, w) (kw_PV (fun T' n' r' i' w' => T = T' ∧ n = n' ∧ r = r' ∧ w = w' ∧ Q i')))
  | 0 => ⟨fun a0 x1 T n r i w Q h0 h => h.elim, fun a0 x1 T n r i w Q h0 h => h.elim⟩
  | d + 1 => have ih := tg_X4_readPart l G d
    ⟨fun a0 x1 T n r i w Q h0 h => t_X4_readPart ih.1 ih.2 h0 h, fun a0 x1 T n r i w Q h0 h => t_X4_readSum ih.1 ih.2 h0 h⟩
def w_X4_comparison  (a0 : Nat) (T : kw_T) (n : Nat) (r : kw_R) (i : kw_I) (w : kw_L) (Q : Int32 → Prop) : Prop :=
  (¬ (i a0 6) = (60 : Int32) → (¬ (i a0 6) = (62 : Int32) → (¬ (i a0 6) = (61 : Int32) → Q (-1 : Int32)) ∧ ((i a0 6) = (61 : Int32) → Q (8 : Int32))) ∧ ((i a0 6) = (62 : Int32) → Q (7 : Int32))) ∧ ((i a0 6) = (60 : Int32) → Q (6 : Int32))
abbrev rm_X4_comparison : Room := { frames := 1, cells := 0, slots := 0, locals := 60 }
set_option maxHeartbeats 4000000 in
set_option maxRecDepth 100000 in
theorem t_X4_comparison {l : Launch} {G : kw_G} {a0 : Nat} {T : kw_T} {n : Nat} {r : kw_R} {i : kw_I} {w : kw_L} {Q : Int32 → Prop} (h0 : T a0 = (0, 4)) (h : w_X4_comparison a0 T n r i w Q) : kw_Met l G yX4_comparison cX4_comparison 1 (some .int) rm_X4_comparison [kw_a a0] (T, n, r, i, w) (kw_PI (fun v T' n' r' i' w' => T = T' ∧ n = n' ∧ r = r' ∧ i = i' ∧ w = w' ∧ Q v)) := by
  refine kw_Met.of (by decide) (Nat.le_of_ble_eq_true rfl) fun E hl hRm hE hT hnm => ?_
  have hm : kw_m E G cX4_comparison 1 RX4 (some .int) rm_X4_comparison "comparison" := ⟨hE, hT, hRm, hnm⟩
  subst hl
  show kw_K E G 1 0 0 (kw_Z E G 0 0 (kw_PI (fun v T' n' r' i' w' => T = T' ∧ n = n' ∧ r = r' ∧ i = i' ∧ w = w' ∧ Q v))) 0 [(0, kw_a a0)] [] T n r i w
  refine kk_aload_n hm.1 0 dX4_comparison_0 rfl rfl ?_
  refine kk_getI hm.1 ff_X4_31 dX4_comparison_1 h0 ?_
  refine kk_bipush (v := (60 : Int32)) hm.1 dX4_comparison_4 (by decide) ?_
  refine kk_icmp_ne (tgt := 12) hm.1 dX4_comparison_6 (by decide) (fun c6 => ?_) (fun c6 => ?_)
  · have h := h.1 c6
    refine kk_aload_n hm.1 0 dX4_comparison_12 rfl rfl ?_
    refine kk_getI hm.1 ff_X4_31 dX4_comparison_13 h0 ?_
    refine kk_bipush (v := (62 : Int32)) hm.1 dX4_comparison_16 (by decide) ?_
    refine kk_icmp_ne (tgt := 24) hm.1 dX4_comparison_18 (by decide) (fun c18 => ?_) (fun c18 => ?_)
    · have h := h.1 c18
      refine kk_aload_n hm.1 0 dX4_comparison_24 rfl rfl ?_
      refine kk_getI hm.1 ff_X4_31 dX4_comparison_25 h0 ?_
      refine kk_bipush (v := (61 : Int32)) hm.1 dX4_comparison_28 (by decide) ?_
      refine kk_icmp_ne (tgt := 38) hm.1 dX4_comparison_30 (by decide) (fun c30 => ?_) (fun c30 => ?_)
      · have h := h.1 c30
        refine kk_iconst (v := (-1 : Int32)) hm.1 dX4_comparison_38 (by decide) ?_
        exact kk_iret hm.1 hm.2.1 dX4_comparison_39 ⟨_, rfl, rfl, rfl, rfl, rfl, rfl, h⟩
      · have h := h.2 c30
        refine kk_bipush (v := (8 : Int32)) hm.1 dX4_comparison_33 (by decide) ?_
        refine kk_goto (tgt := 39) hm.1 dX4_comparison_35 (by decide) ?_
        exact kk_iret hm.1 hm.2.1 dX4_comparison_39 ⟨_, rfl, rfl, rfl, rfl, rfl, rfl, h⟩
    · have h := h.2 c18
      refine kk_bipush (v := (7 : Int32)) hm.1 dX4_comparison_21 (by decide) ?_
      exact kk_iret hm.1 hm.2.1 dX4_comparison_23 ⟨_, rfl, rfl, rfl, rfl, rfl, rfl, h⟩
  · have h := h.2 c6
    refine kk_bipush (v := (6 : Int32)) hm.1 dX4_comparison_9 (by decide) ?_
    exact kk_iret hm.1 hm.2.1 dX4_comparison_11 ⟨_, rfl, rfl, rfl, rfl, rfl, rfl, h⟩
def w_X4_skipToHere  (a0 : Nat) (x1 : Int32) (T : kw_T) (n : Nat) (r : kw_R) (i : kw_I) (w : kw_L) (Q : kw_I → Prop) : Prop :=
  (x1 < 0 → Q i) ∧ (¬ x1 < 0 → (x1 < (i a0 7) → kw_in T 1 (r a0 0) x1 ∧ (kw_in T 1 (r a0 0) x1 ∧ (∀ i34 : kw_I, i34 = kw_st i (r a0 0) (x1).toNatClampNeg (((i a0 7) <<< ((4 : Int32) &&& 31)) ||| ((i (r a0 0) (x1).toNatClampNeg) &&& (15 : Int32))) → (Q i34)))) ∧ (¬ x1 < (i a0 7) → Q i))
abbrev rm_X4_skipToHere : Room := { frames := 1, cells := 0, slots := 0, locals := 60 }
set_option maxHeartbeats 4000000 in
set_option maxRecDepth 100000 in
theorem t_X4_skipToHere {l : Launch} {G : kw_G} {a0 : Nat} {x1 : Int32} {T : kw_T} {n : Nat} {r : kw_R} {i : kw_I} {w : kw_L} {Q : kw_I → Prop} (h0 : T a0 = (0, 4)) (h : w_X4_skipToHere a0 x1 T n r i w Q) : kw_Met l G yX4_skipToHere cX4_skipToHere 2 none rm_X4_skipToHere [kw_a a0, kw_i x1] (T, n, r, i, w) (kw_PV (fun T' n' r' i' w' => T = T' ∧ n = n' ∧ r = r' ∧ w = w' ∧ Q i')) := by
  refine kw_Met.of (by decide) (Nat.le_of_ble_eq_true rfl) fun E hl hRm hE hT hnm => ?_
  have hm : kw_m E G cX4_skipToHere 2 RX4 none rm_X4_skipToHere "skipToHere" := ⟨hE, hT, hRm, hnm⟩
  subst hl
  show kw_K E G 2 0 0 (kw_Z E G 0 0 (kw_PV (fun T' n' r' i' w' => T = T' ∧ n = n' ∧ r = r' ∧ w = w' ∧ Q i'))) 0 [(0, kw_a a0), (1, kw_i x1)] [] T n r i w
  refine kk_iload_n hm.1 1 dX4_skipToHere_0 rfl rfl ?_
  refine kk_if_lt (tgt := 12) hm.1 dX4_skipToHere_1 (by decide) (fun c1 => ?_) (fun c1 => ?_)
  · have h := h.1 c1
    exact kk_vret hm.1 hm.2.1 dX4_skipToHere_12 ⟨rfl, rfl, rfl, rfl, rfl, h⟩
  · have h := h.2 c1
    refine kk_iload_n hm.1 1 dX4_skipToHere_4 rfl rfl ?_
    refine kk_aload_n hm.1 0 dX4_skipToHere_5 rfl rfl ?_
    refine kk_getI hm.1 ff_X4_34 dX4_skipToHere_6 h0 ?_
    refine kk_icmp_lt (tgt := 13) hm.1 dX4_skipToHere_9 (by decide) (fun c9 => ?_) (fun c9 => ?_)
    · have h := h.1 c9
      refine kk_aload_n hm.1 0 dX4_skipToHere_13 rfl rfl ?_
      refine kk_getR hm.1 ff_X4_9 dX4_skipToHere_14 h0 ?_
      refine kk_iload_n hm.1 1 dX4_skipToHere_17 rfl rfl ?_
      refine kk_aload_n hm.1 0 dX4_skipToHere_18 rfl rfl ?_
      refine kk_getI hm.1 ff_X4_34 dX4_skipToHere_19 h0 ?_
      refine kk_iconst (v := (4 : Int32)) hm.1 dX4_skipToHere_22 (by decide) ?_
      refine kk_ishl hm.1 dX4_skipToHere_23 ?_
      refine kk_aload_n hm.1 0 dX4_skipToHere_24 rfl rfl ?_
      refine kk_getR hm.1 ff_X4_9 dX4_skipToHere_25 h0 ?_
      refine kk_iload_n hm.1 1 dX4_skipToHere_28 rfl rfl ?_
      obtain ⟨o29, h⟩ := h
      refine kk_iaload hm.1 dX4_skipToHere_29 o29 ?_
      refine kk_bipush (v := (15 : Int32)) hm.1 dX4_skipToHere_30 (by decide) ?_
      refine kk_iand hm.1 dX4_skipToHere_32 ?_
      refine kk_ior hm.1 dX4_skipToHere_33 ?_
      obtain ⟨o34, h⟩ := h
      refine kn_iastore hm.1 dX4_skipToHere_34 o34 (fun i34 e34 => ?_)
      have h := h i34 e34
      exact kk_vret hm.1 hm.2.1 dX4_skipToHere_35 ⟨rfl, rfl, rfl, rfl, rfl, h⟩
    · have h := h.2 c9
      exact kk_vret hm.1 hm.2.1 dX4_skipToHere_12 ⟨rfl, rfl, rfl, rfl, rfl, h⟩
