abbrev rm_X10_readPart (d : Nat) : Room := { frames := 4 + d, cells := 0, slots := 0, locals := 123 + 50 * d }
theorem rms_X10_readPart (d : Nat) {nL' : Nat} (h : nL' ≤ 31) : (rm_X10_readPart d).frames + 1 ≤ (rm_X10_readPart (d + 1)).frames ∧ 8 + (nL' + 11) + (rm_X10_readPart d).locals ≤ (rm_X10_readPart (d + 1)).locals := ⟨by show 4 + d + 1 ≤ 4 + (d + 1); omega, by show 8 + (nL' + 11) + (123 + 50 * d) ≤ 123 + 50 * (d + 1); omega⟩
theorem rmi_X10_readPart (d : Nat) {nL' : Nat} {rm : Room} (h1 : rm.frames + 1 ≤ 4) (h2 : 8 + (nL' + 11) + rm.locals ≤ 123) : rm.frames + 1 ≤ (rm_X10_readPart (d + 1)).frames ∧ 8 + (nL' + 11) + rm.locals ≤ (rm_X10_readPart (d + 1)).locals := ⟨by show _ ≤ 4 + (d + 1); omega, by show _ ≤ 123 + 50 * (d + 1); omega⟩
theorem rmo_X10_readPart {d : Nat} (hd : d ≤ 60) {nL' : Nat} {rm : Room} (h1 : 65 ≤ rm.frames) (h2 : 8 + (nL' + 11) + 3123 ≤ rm.locals) : (rm_X10_readPart d).frames + 1 ≤ rm.frames ∧ 8 + (nL' + 11) + (rm_X10_readPart d).locals ≤ rm.locals := ⟨by show 4 + d + 1 ≤ _; omega, by show 8 + (nL' + 11) + (123 + 50 * d) ≤ _; omega⟩
def w_X10_readPart_37 (k_X10_readPart : Nat → Int32 → kw_T → Nat → kw_R → kw_I → kw_L → (kw_I → Prop) → Prop) (k_X10_readSum : Nat → Int32 → kw_T → Nat → kw_R → kw_I → kw_L → (kw_I → Prop) → Prop) (k_X10_readTerm : Nat → Int32 → kw_T → Nat → kw_R → kw_I → kw_L → (kw_I → Prop) → Prop) (a0 : Nat) (x1 : Int32) (T : kw_T) (n : Nat) (r : kw_R) (w : kw_L) (Q : kw_I → Prop)  (i : kw_I) : Prop :=
  w_X10_fine a0 T n r i w (fun v38 => (¬ v38 = 0 → ∀ i52 : kw_I, i52 = kw_st i a0 15 ((i a0 15) + (1 : Int32)) → (k_X10_readSum a0 (x1 + (1 : Int32)) T n r i52 w (fun i59 => w_X10_sign (93 : Int32) T n r i59 w (fun v65 => w_X10_must a0 v65 T n r i59 w (fun i68 => Q i68))))) ∧ (v38 = 0 → Q i))
def w_X10_readPart_107 (k_X10_readPart : Nat → Int32 → kw_T → Nat → kw_R → kw_I → kw_L → (kw_I → Prop) → Prop) (k_X10_readSum : Nat → Int32 → kw_T → Nat → kw_R → kw_I → kw_L → (kw_I → Prop) → Prop) (k_X10_readTerm : Nat → Int32 → kw_T → Nat → kw_R → kw_I → kw_L → (kw_I → Prop) → Prop) (a0 : Nat) (x1 : Int32) (T : kw_T) (n : Nat) (r : kw_R) (w : kw_L) (Q : kw_I → Prop)  (i : kw_I) : Prop :=
  w_X10_leaf a0 T n r i w (fun i108 => Q i108)
def w_X10_readPart_114 (k_X10_readPart : Nat → Int32 → kw_T → Nat → kw_R → kw_I → kw_L → (kw_I → Prop) → Prop) (k_X10_readSum : Nat → Int32 → kw_T → Nat → kw_R → kw_I → kw_L → (kw_I → Prop) → Prop) (k_X10_readTerm : Nat → Int32 → kw_T → Nat → kw_R → kw_I → kw_L → (kw_I → Prop) → Prop) (a0 : Nat) (x1 : Int32) (T : kw_T) (n : Nat) (r : kw_R) (w : kw_L) (Q : kw_I → Prop)  (i : kw_I) : Prop :=
  w_X10_faults a0 T n r i w (fun i115 => Q i115)
def w_X10_readPart_95 (k_X10_readPart : Nat → Int32 → kw_T → Nat → kw_R → kw_I → kw_L → (kw_I → Prop) → Prop) (k_X10_readSum : Nat → Int32 → kw_T → Nat → kw_R → kw_I → kw_L → (kw_I → Prop) → Prop) (k_X10_readTerm : Nat → Int32 → kw_T → Nat → kw_R → kw_I → kw_L → (kw_I → Prop) → Prop) (a0 : Nat) (x1 : Int32) (T : kw_T) (n : Nat) (r : kw_R) (w : kw_L) (Q : kw_I → Prop)  (x2 : Int32) (i : kw_I) : Prop :=
  (x2 < (6 : Int32) → w_X10_readPart_114 k_X10_readPart k_X10_readSum k_X10_readTerm a0 x1 T n r w Q  i) ∧ (¬ x2 < (6 : Int32) → ((14 : Int32) < x2 → w_X10_readPart_114 k_X10_readPart k_X10_readSum k_X10_readTerm a0 x1 T n r w Q  i) ∧ (¬ (14 : Int32) < x2 → w_X10_readPart_107 k_X10_readPart k_X10_readSum k_X10_readTerm a0 x1 T n r w Q  i))
def w_X10_readPart (k_X10_readPart : Nat → Int32 → kw_T → Nat → kw_R → kw_I → kw_L → (kw_I → Prop) → Prop) (k_X10_readSum : Nat → Int32 → kw_T → Nat → kw_R → kw_I → kw_L → (kw_I → Prop) → Prop) (k_X10_readTerm : Nat → Int32 → kw_T → Nat → kw_R → kw_I → kw_L → (kw_I → Prop) → Prop) (a0 : Nat) (x1 : Int32) (T : kw_T) (n : Nat) (r : kw_R) (i : kw_I) (w : kw_L) (Q : kw_I → Prop) : Prop :=
  w_X10_fine a0 T n r i w (fun v1 => (¬ v1 = 0 → kw_in T 1 (r a0 11) (i a0 15) ∧ (w_X10_sign (91 : Int32) T n r i w (fun v21 => (¬ (i (r a0 11) ((i a0 15)).toNatClampNeg) = v21 → (¬ (i (r a0 11) ((i a0 15)).toNatClampNeg) = (50 : Int32) → w_X10_readPart_95 k_X10_readPart k_X10_readSum k_X10_readTerm a0 x1 T n r w Q  ((i (r a0 11) ((i a0 15)).toNatClampNeg)) i) ∧ ((i (r a0 11) ((i a0 15)).toNatClampNeg) = (50 : Int32) → kw_in T 1 (r a0 12) (i a0 15) ∧ (((i (r a0 12) ((i a0 15)).toNatClampNeg) ≤ (1000 : Int32) → w_X10_readPart_107 k_X10_readPart k_X10_readSum k_X10_readTerm a0 x1 T n r w Q  i) ∧ (¬ (i (r a0 12) ((i a0 15)).toNatClampNeg) ≤ (1000 : Int32) → w_X10_readPart_95 k_X10_readPart k_X10_readSum k_X10_readTerm a0 x1 T n r w Q  ((i (r a0 11) ((i a0 15)).toNatClampNeg)) i)))) ∧ ((i (r a0 11) ((i a0 15)).toNatClampNeg) = v21 → (¬ x1 = (8 : Int32) → w_X10_readPart_37 k_X10_readPart k_X10_readSum k_X10_readTerm a0 x1 T n r w Q  i) ∧ (x1 = (8 : Int32) → w_X10_faults a0 T n r i w (fun i34 => w_X10_readPart_37 k_X10_readPart k_X10_readSum k_X10_readTerm a0 x1 T n r w Q  i34)))))) ∧ (v1 = 0 → Q i))
set_option maxHeartbeats 4000000 in
set_option maxRecDepth 100000 in
theorem q_X10_readPart_37 {k_X10_readPart : Nat → Int32 → kw_T → Nat → kw_R → kw_I → kw_L → (kw_I → Prop) → Prop} {k_X10_readSum : Nat → Int32 → kw_T → Nat → kw_R → kw_I → kw_L → (kw_I → Prop) → Prop} {k_X10_readTerm : Nat → Int32 → kw_T → Nat → kw_R → kw_I → kw_L → (kw_I → Prop) → Prop} {a0 : Nat} {x1 : Int32} {T : kw_T} {n : Nat} {r : kw_R} {w : kw_L} {Q : kw_I → Prop} {E : kw_E} {G : kw_G} {d : Nat} (hm : kw_m E G cX10_readPart 3 RX10 none (rm_X10_readPart (d + 1)) "readPart") (hr_X10_readPart : ∀ (a0 : Nat) (x1 : Int32) (T : kw_T) (n : Nat) (r : kw_R) (i : kw_I) (w : kw_L) (Q : kw_I → Prop), T a0 = (0, 10) → k_X10_readPart a0 x1 T n r i w Q → kw_Met E.2.1 G yX10_readPart cX10_readPart 3 none (rm_X10_readPart d) [kw_a a0, kw_i x1] (T, n, r, i, w) (kw_PV (fun T' n' r' i' w' => T = T' ∧ n = n' ∧ r = r' ∧ w = w' ∧ Q i'))) (hr_X10_readSum : ∀ (a0 : Nat) (x1 : Int32) (T : kw_T) (n : Nat) (r : kw_R) (i : kw_I) (w : kw_L) (Q : kw_I → Prop), T a0 = (0, 10) → k_X10_readSum a0 x1 T n r i w Q → kw_Met E.2.1 G yX10_readSum cX10_readSum 2 none (rm_X10_readPart d) [kw_a a0, kw_i x1] (T, n, r, i, w) (kw_PV (fun T' n' r' i' w' => T = T' ∧ n = n' ∧ r = r' ∧ w = w' ∧ Q i'))) (hr_X10_readTerm : ∀ (a0 : Nat) (x1 : Int32) (T : kw_T) (n : Nat) (r : kw_R) (i : kw_I) (w : kw_L) (Q : kw_I → Prop), T a0 = (0, 10) → k_X10_readTerm a0 x1 T n r i w Q → kw_Met E.2.1 G yX10_readTerm cX10_readTerm 2 none (rm_X10_readPart d) [kw_a a0, kw_i x1] (T, n, r, i, w) (kw_PV (fun T' n' r' i' w' => T = T' ∧ n = n' ∧ r = r' ∧ w = w' ∧ Q i'))) (h0 : T a0 = (0, 10))    (i : kw_I) (h : w_X10_readPart_37 k_X10_readPart k_X10_readSum k_X10_readTerm a0 x1 T n r w Q  i) : kw_K E G 3 0 0 (kw_Z E G 0 0 (kw_PV (fun T' n' r' i' w' => T = T' ∧ n = n' ∧ r = r' ∧ w = w' ∧ Q i'))) 37 [(0, kw_a a0), (1, kw_i x1)] [] T n r i w := by
  refine kk_aload_n hm.1 0 dX10_readPart_37 rfl rfl ?_
  refine kk_callVi (cs' := 0) (sl' := 0) (st := []) hm.1 cv_X10_132 (t_X10_fine h0 h) dX10_readPart_38 h0 rfl rfl hm.2.2.1 (rmi_X10_readPart d (by decide) (by decide)) ⟨Nat.le_refl _, Nat.le_refl _⟩ rfl rfl (Nat.le_of_ble_eq_true rfl) rfl ?_
  rintro v38 _ _ _ _ _ ⟨rfl, rfl, rfl, rfl, rfl, h⟩
  refine kk_if_ne (tgt := 45) hm.1 dX10_readPart_41 (by decide) (fun c41 => ?_) (fun c41 => ?_)
  · have h := h.1 c41
    refine kk_aload_n hm.1 0 dX10_readPart_45 rfl rfl ?_
    refine kk_dup hm.1 dX10_readPart_46 rfl ?_
    refine kk_getI hm.1 ff_X10_136 dX10_readPart_47 h0 ?_
    refine kk_iconst (v := (1 : Int32)) hm.1 dX10_readPart_50 (by decide) ?_
    refine kk_iadd hm.1 dX10_readPart_51 ?_
    refine kn_putI hm.1 fp_X10_136 dX10_readPart_52 h0 (fun i52 e52 => ?_)
    have h := h i52 e52
    refine kk_aload_n hm.1 0 dX10_readPart_55 rfl rfl ?_
    refine kk_iload_n hm.1 1 dX10_readPart_56 rfl rfl ?_
    refine kk_iconst (v := (1 : Int32)) hm.1 dX10_readPart_57 (by decide) ?_
    refine kk_iadd hm.1 dX10_readPart_58 ?_
    refine kk_callVv (cs' := 0) (sl' := 0) (st := []) hm.1 cv_X10_152 (hr_X10_readSum a0 (x1 + (1 : Int32)) T n r i52 w _ h0 h) dX10_readPart_59 h0 rfl rfl hm.2.2.1 (rms_X10_readPart d (by decide)) ⟨Nat.le_refl _, Nat.le_refl _⟩ rfl rfl (Nat.le_of_ble_eq_true rfl) rfl ?_
    rintro _ _ _ i59 _ ⟨rfl, rfl, rfl, rfl, h⟩
    refine kk_aload_n hm.1 0 dX10_readPart_62 rfl rfl ?_
    refine kk_bipush (v := (93 : Int32)) hm.1 dX10_readPart_63 (by decide) ?_
    refine kk_callSi (cs' := 0) (sl' := 0) (st := [kw_a a0]) hm.1 cs_X10_164 (t_X10_sign h) dX10_readPart_65 rfl hm.2.2.1 (rmi_X10_readPart d (by decide) (by decide)) ⟨Nat.le_refl _, Nat.le_refl _⟩ rfl rfl (Nat.le_of_ble_eq_true rfl) rfl ?_
    rintro v65 _ _ _ _ _ ⟨rfl, rfl, rfl, rfl, rfl, h⟩
    refine kk_callVv (cs' := 0) (sl' := 0) (st := []) hm.1 cv_X10_148 (t_X10_must h0 h) dX10_readPart_68 h0 rfl rfl hm.2.2.1 (rmi_X10_readPart d (by decide) (by decide)) ⟨Nat.le_refl _, Nat.le_refl _⟩ rfl rfl (Nat.le_of_ble_eq_true rfl) rfl ?_
    rintro _ _ _ i68 _ ⟨rfl, rfl, rfl, rfl, h⟩
    refine kk_goto (tgt := 118) hm.1 dX10_readPart_71 (by decide) ?_
    exact kk_vret hm.1 hm.2.1 dX10_readPart_118 ⟨rfl, rfl, rfl, rfl, rfl, h⟩
  · have h := h.2 c41
    exact kk_vret hm.1 hm.2.1 dX10_readPart_44 ⟨rfl, rfl, rfl, rfl, rfl, h⟩
set_option maxHeartbeats 4000000 in
set_option maxRecDepth 100000 in
theorem q_X10_readPart_107 {k_X10_readPart : Nat → Int32 → kw_T → Nat → kw_R → kw_I → kw_L → (kw_I → Prop) → Prop} {k_X10_readSum : Nat → Int32 → kw_T → Nat → kw_R → kw_I → kw_L → (kw_I → Prop) → Prop} {k_X10_readTerm : Nat → Int32 → kw_T → Nat → kw_R → kw_I → kw_L → (kw_I → Prop) → Prop} {a0 : Nat} {x1 : Int32} {T : kw_T} {n : Nat} {r : kw_R} {w : kw_L} {Q : kw_I → Prop} {E : kw_E} {G : kw_G} {d : Nat} (hm : kw_m E G cX10_readPart 3 RX10 none (rm_X10_readPart (d + 1)) "readPart") (hr_X10_readPart : ∀ (a0 : Nat) (x1 : Int32) (T : kw_T) (n : Nat) (r : kw_R) (i : kw_I) (w : kw_L) (Q : kw_I → Prop), T a0 = (0, 10) → k_X10_readPart a0 x1 T n r i w Q → kw_Met E.2.1 G yX10_readPart cX10_readPart 3 none (rm_X10_readPart d) [kw_a a0, kw_i x1] (T, n, r, i, w) (kw_PV (fun T' n' r' i' w' => T = T' ∧ n = n' ∧ r = r' ∧ w = w' ∧ Q i'))) (hr_X10_readSum : ∀ (a0 : Nat) (x1 : Int32) (T : kw_T) (n : Nat) (r : kw_R) (i : kw_I) (w : kw_L) (Q : kw_I → Prop), T a0 = (0, 10) → k_X10_readSum a0 x1 T n r i w Q → kw_Met E.2.1 G yX10_readSum cX10_readSum 2 none (rm_X10_readPart d) [kw_a a0, kw_i x1] (T, n, r, i, w) (kw_PV (fun T' n' r' i' w' => T = T' ∧ n = n' ∧ r = r' ∧ w = w' ∧ Q i'))) (hr_X10_readTerm : ∀ (a0 : Nat) (x1 : Int32) (T : kw_T) (n : Nat) (r : kw_R) (i : kw_I) (w : kw_L) (Q : kw_I → Prop), T a0 = (0, 10) → k_X10_readTerm a0 x1 T n r i w Q → kw_Met E.2.1 G yX10_readTerm cX10_readTerm 2 none (rm_X10_readPart d) [kw_a a0, kw_i x1] (T, n, r, i, w) (kw_PV (fun T' n' r' i' w' => T = T' ∧ n = n' ∧ r = r' ∧ w = w' ∧ Q i'))) (h0 : T a0 = (0, 10))    (i : kw_I) (h : w_X10_readPart_107 k_X10_readPart k_X10_readSum k_X10_readTerm a0 x1 T n r w Q  i) : kw_K E G 3 0 0 (kw_Z E G 0 0 (kw_PV (fun T' n' r' i' w' => T = T' ∧ n = n' ∧ r = r' ∧ w = w' ∧ Q i'))) 107 [(0, kw_a a0), (1, kw_i x1)] [] T n r i w := by
  refine kk_aload_n hm.1 0 dX10_readPart_107 rfl rfl ?_
  refine kk_callVv (cs' := 0) (sl' := 0) (st := []) hm.1 cv_X10_174 (t_X10_leaf h0 h) dX10_readPart_108 h0 rfl rfl hm.2.2.1 (rmi_X10_readPart d (by decide) (by decide)) ⟨Nat.le_refl _, Nat.le_refl _⟩ rfl rfl (Nat.le_of_ble_eq_true rfl) rfl ?_
  rintro _ _ _ i108 _ ⟨rfl, rfl, rfl, rfl, h⟩
  refine kk_goto (tgt := 118) hm.1 dX10_readPart_111 (by decide) ?_
  exact kk_vret hm.1 hm.2.1 dX10_readPart_118 ⟨rfl, rfl, rfl, rfl, rfl, h⟩
set_option maxHeartbeats 4000000 in
set_option maxRecDepth 100000 in
theorem q_X10_readPart_114 {k_X10_readPart : Nat → Int32 → kw_T → Nat → kw_R → kw_I → kw_L → (kw_I → Prop) → Prop} {k_X10_readSum : Nat → Int32 → kw_T → Nat → kw_R → kw_I → kw_L → (kw_I → Prop) → Prop} {k_X10_readTerm : Nat → Int32 → kw_T → Nat → kw_R → kw_I → kw_L → (kw_I → Prop) → Prop} {a0 : Nat} {x1 : Int32} {T : kw_T} {n : Nat} {r : kw_R} {w : kw_L} {Q : kw_I → Prop} {E : kw_E} {G : kw_G} {d : Nat} (hm : kw_m E G cX10_readPart 3 RX10 none (rm_X10_readPart (d + 1)) "readPart") (hr_X10_readPart : ∀ (a0 : Nat) (x1 : Int32) (T : kw_T) (n : Nat) (r : kw_R) (i : kw_I) (w : kw_L) (Q : kw_I → Prop), T a0 = (0, 10) → k_X10_readPart a0 x1 T n r i w Q → kw_Met E.2.1 G yX10_readPart cX10_readPart 3 none (rm_X10_readPart d) [kw_a a0, kw_i x1] (T, n, r, i, w) (kw_PV (fun T' n' r' i' w' => T = T' ∧ n = n' ∧ r = r' ∧ w = w' ∧ Q i'))) (hr_X10_readSum : ∀ (a0 : Nat) (x1 : Int32) (T : kw_T) (n : Nat) (r : kw_R) (i : kw_I) (w : kw_L) (Q : kw_I → Prop), T a0 = (0, 10) → k_X10_readSum a0 x1 T n r i w Q → kw_Met E.2.1 G yX10_readSum cX10_readSum 2 none (rm_X10_readPart d) [kw_a a0, kw_i x1] (T, n, r, i, w) (kw_PV (fun T' n' r' i' w' => T = T' ∧ n = n' ∧ r = r' ∧ w = w' ∧ Q i'))) (hr_X10_readTerm : ∀ (a0 : Nat) (x1 : Int32) (T : kw_T) (n : Nat) (r : kw_R) (i : kw_I) (w : kw_L) (Q : kw_I → Prop), T a0 = (0, 10) → k_X10_readTerm a0 x1 T n r i w Q → kw_Met E.2.1 G yX10_readTerm cX10_readTerm 2 none (rm_X10_readPart d) [kw_a a0, kw_i x1] (T, n, r, i, w) (kw_PV (fun T' n' r' i' w' => T = T' ∧ n = n' ∧ r = r' ∧ w = w' ∧ Q i'))) (h0 : T a0 = (0, 10))    (i : kw_I) (h : w_X10_readPart_114 k_X10_readPart k_X10_readSum k_X10_readTerm a0 x1 T n r w Q  i) : kw_K E G 3 0 0 (kw_Z E G 0 0 (kw_PV (fun T' n' r' i' w' => T = T' ∧ n = n' ∧ r = r' ∧ w = w' ∧ Q i'))) 114 [(0, kw_a a0), (1, kw_i x1)] [] T n r i w := by
  refine kk_aload_n hm.1 0 dX10_readPart_114 rfl rfl ?_
  refine kk_callVv (cs' := 0) (sl' := 0) (st := []) hm.1 cv_X10_142 (t_X10_faults h0 h) dX10_readPart_115 h0 rfl rfl hm.2.2.1 (rmi_X10_readPart d (by decide) (by decide)) ⟨Nat.le_refl _, Nat.le_refl _⟩ rfl rfl (Nat.le_of_ble_eq_true rfl) rfl ?_
  rintro _ _ _ i115 _ ⟨rfl, rfl, rfl, rfl, h⟩
  exact kk_vret hm.1 hm.2.1 dX10_readPart_118 ⟨rfl, rfl, rfl, rfl, rfl, h⟩
set_option maxHeartbeats 4000000 in
set_option maxRecDepth 100000 in
theorem q_X10_readPart_95 {k_X10_readPart : Nat → Int32 → kw_T → Nat → kw_R → kw_I → kw_L → (kw_I → Prop) → Prop} {k_X10_readSum : Nat → Int32 → kw_T → Nat → kw_R → kw_I → kw_L → (kw_I → Prop) → Prop} {k_X10_readTerm : Nat → Int32 → kw_T → Nat → kw_R → kw_I → kw_L → (kw_I → Prop) → Prop} {a0 : Nat} {x1 : Int32} {T : kw_T} {n : Nat} {r : kw_R} {w : kw_L} {Q : kw_I → Prop} {E : kw_E} {G : kw_G} {d : Nat} (hm : kw_m E G cX10_readPart 3 RX10 none (rm_X10_readPart (d + 1)) "readPart") (hr_X10_readPart : ∀ (a0 : Nat) (x1 : Int32) (T : kw_T) (n : Nat) (r : kw_R) (i : kw_I) (w : kw_L) (Q : kw_I → Prop), T a0 = (0, 10) → k_X10_readPart a0 x1 T n r i w Q → kw_Met E.2.1 G yX10_readPart cX10_readPart 3 none (rm_X10_readPart d) [kw_a a0, kw_i x1] (T, n, r, i, w) (kw_PV (fun T' n' r' i' w' => T = T' ∧ n = n' ∧ r = r' ∧ w = w' ∧ Q i'))) (hr_X10_readSum : ∀ (a0 : Nat) (x1 : Int32) (T : kw_T) (n : Nat) (r : kw_R) (i : kw_I) (w : kw_L) (Q : kw_I → Prop), T a0 = (0, 10) → k_X10_readSum a0 x1 T n r i w Q → kw_Met E.2.1 G yX10_readSum cX10_readSum 2 none (rm_X10_readPart d) [kw_a a0, kw_i x1] (T, n, r, i, w) (kw_PV (fun T' n' r' i' w' => T = T' ∧ n = n' ∧ r = r' ∧ w = w' ∧ Q i'))) (hr_X10_readTerm : ∀ (a0 : Nat) (x1 : Int32) (T : kw_T) (n : Nat) (r : kw_R) (i : kw_I) (w : kw_L) (Q : kw_I → Prop), T a0 = (0, 10) → k_X10_readTerm a0 x1 T n r i w Q → kw_Met E.2.1 G yX10_readTerm cX10_readTerm 2 none (rm_X10_readPart d) [kw_a a0, kw_i x1] (T, n, r, i, w) (kw_PV (fun T' n' r' i' w' => T = T' ∧ n = n' ∧ r = r' ∧ w = w' ∧ Q i'))) (h0 : T a0 = (0, 10))    (x2 : Int32) (i : kw_I) (h : w_X10_readPart_95 k_X10_readPart k_X10_readSum k_X10_readTerm a0 x1 T n r w Q  x2 i) : kw_K E G 3 0 0 (kw_Z E G 0 0 (kw_PV (fun T' n' r' i' w' => T = T' ∧ n = n' ∧ r = r' ∧ w = w' ∧ Q i'))) 95 [(0, kw_a a0), (1, kw_i x1), (2, kw_i x2)] [] T n r i w := by
  refine kk_iload_n hm.1 2 dX10_readPart_95 rfl rfl ?_
  refine kk_bipush (v := (6 : Int32)) hm.1 dX10_readPart_96 (by decide) ?_
  refine kk_icmp_lt (tgt := 114) hm.1 dX10_readPart_98 (by decide) (fun c98 => ?_) (fun c98 => ?_)
  · have h := h.1 c98
    refine kk_loc (L' := [(0, kw_a a0), (1, kw_i x1)]) [0, 1] rfl ?_
    exact q_X10_readPart_114 hm hr_X10_readPart hr_X10_readSum hr_X10_readTerm h0   i h
  · have h := h.2 c98
    refine kk_iload_n hm.1 2 dX10_readPart_101 rfl rfl ?_
    refine kk_bipush (v := (14 : Int32)) hm.1 dX10_readPart_102 (by decide) ?_
    refine kk_icmp_gt (tgt := 114) hm.1 dX10_readPart_104 (by decide) (fun c104 => ?_) (fun c104 => ?_)
    · have h := h.1 c104
      refine kk_loc (L' := [(0, kw_a a0), (1, kw_i x1)]) [0, 1] rfl ?_
      exact q_X10_readPart_114 hm hr_X10_readPart hr_X10_readSum hr_X10_readTerm h0   i h
    · have h := h.2 c104
      refine kk_loc (L' := [(0, kw_a a0), (1, kw_i x1)]) [0, 1] rfl ?_
      exact q_X10_readPart_107 hm hr_X10_readPart hr_X10_readSum hr_X10_readTerm h0   i h
set_option maxHeartbeats 4000000 in
set_option maxRecDepth 100000 in
theorem t_X10_readPart {l : Launch} {G : kw_G} {d : Nat} {k_X10_readPart : Nat → Int32 → kw_T → Nat → kw_R → kw_I → kw_L → (kw_I → Prop) → Prop} {k_X10_readSum : Nat → Int32 → kw_T → Nat → kw_R → kw_I → kw_L → (kw_I → Prop) → Prop} {k_X10_readTerm : Nat → Int32 → kw_T → Nat → kw_R → kw_I → kw_L → (kw_I → Prop) → Prop} {a0 : Nat} {x1 : Int32} {T : kw_T} {n : Nat} {r : kw_R} {i : kw_I} {w : kw_L} {Q : kw_I → Prop} (hr_X10_readPart : ∀ (a0 : Nat) (x1 : Int32) (T : kw_T) (n : Nat) (r : kw_R) (i : kw_I) (w : kw_L) (Q : kw_I → Prop), T a0 = (0, 10) → k_X10_readPart a0 x1 T n r i w Q → kw_Met l G yX10_readPart cX10_readPart 3 none (rm_X10_readPart d) [kw_a a0, kw_i x1] (T, n, r, i, w) (kw_PV (fun T' n' r' i' w' => T = T' ∧ n = n' ∧ r = r' ∧ w = w' ∧ Q i'))) (hr_X10_readSum : ∀ (a0 : Nat) (x1 : Int32) (T : kw_T) (n : Nat) (r : kw_R) (i : kw_I) (w : kw_L) (Q : kw_I → Prop), T a0 = (0, 10) → k_X10_readSum a0 x1 T n r i w Q → kw_Met l G yX10_readSum cX10_readSum 2 none (rm_X10_readPart d) [kw_a a0, kw_i x1] (T, n, r, i, w) (kw_PV (fun T' n' r' i' w' => T = T' ∧ n = n' ∧ r = r' ∧ w = w' ∧ Q i'))) (hr_X10_readTerm : ∀ (a0 : Nat) (x1 : Int32) (T : kw_T) (n : Nat) (r : kw_R) (i : kw_I) (w : kw_L) (Q : kw_I → Prop), T a0 = (0, 10) → k_X10_readTerm a0 x1 T n r i w Q → kw_Met l G yX10_readTerm cX10_readTerm 2 none (rm_X10_readPart d) [kw_a a0, kw_i x1] (T, n, r, i, w) (kw_PV (fun T' n' r' i' w' => T = T' ∧ n = n' ∧ r = r' ∧ w = w' ∧ Q i'))) (h0 : T a0 = (0, 10)) (h : w_X10_readPart k_X10_readPart k_X10_readSum k_X10_readTerm a0 x1 T n r i w Q) : kw_Met l G yX10_readPart cX10_readPart 3 none (rm_X10_readPart (d + 1)) [kw_a a0, kw_i x1] (T, n, r, i, w) (kw_PV (fun T' n' r' i' w' => T = T' ∧ n = n' ∧ r = r' ∧ w = w' ∧ Q i')) := by
  refine kw_Met.of (by decide) (Nat.le_of_ble_eq_true rfl) fun E hl hRm hE hT hnm => ?_
  have hm : kw_m E G cX10_readPart 3 RX10 none (rm_X10_readPart (d + 1)) "readPart" := ⟨hE, hT, hRm, hnm⟩
  subst hl
  show kw_K E G 3 0 0 (kw_Z E G 0 0 (kw_PV (fun T' n' r' i' w' => T = T' ∧ n = n' ∧ r = r' ∧ w = w' ∧ Q i'))) 0 [(0, kw_a a0), (1, kw_i x1)] [] T n r i w
  refine kk_aload_n hm.1 0 dX10_readPart_0 rfl rfl ?_
  refine kk_callVi (cs' := 0) (sl' := 0) (st := []) hm.1 cv_X10_132 (t_X10_fine h0 h) dX10_readPart_1 h0 rfl rfl hm.2.2.1 (rmi_X10_readPart d (by decide) (by decide)) ⟨Nat.le_refl _, Nat.le_refl _⟩ rfl rfl (Nat.le_of_ble_eq_true rfl) rfl ?_
  rintro v1 _ _ _ _ _ ⟨rfl, rfl, rfl, rfl, rfl, h⟩
  refine kk_if_ne (tgt := 8) hm.1 dX10_readPart_4 (by decide) (fun c4 => ?_) (fun c4 => ?_)
  · have h := h.1 c4
    refine kk_aload_n hm.1 0 dX10_readPart_8 rfl rfl ?_
    refine kk_getR hm.1 ff_X10_40 dX10_readPart_9 h0 ?_
    refine kk_aload_n hm.1 0 dX10_readPart_12 rfl rfl ?_
    refine kk_getI hm.1 ff_X10_136 dX10_readPart_13 h0 ?_
    obtain ⟨o16, h⟩ := h
    refine kk_iaload hm.1 dX10_readPart_16 o16 ?_
    refine kk_istore_n (L' := [(2, kw_i (i (r a0 11) ((i a0 15)).toNatClampNeg)), (0, kw_a a0), (1, kw_i x1)]) hm.1 dX10_readPart_17 rfl (by decide) rfl ?_
    refine kk_iload_n hm.1 0 dX10_readPart_18 rfl rfl ?_
    refine kk_bipush (v := (91 : Int32)) hm.1 dX10_readPart_19 (by decide) ?_
    refine kk_callSi (cs' := 0) (sl' := 0) (st := [kw_i (i (r a0 11) ((i a0 15)).toNatClampNeg)]) hm.1 cs_X10_164 (t_X10_sign h) dX10_readPart_21 rfl hm.2.2.1 (rmi_X10_readPart d (by decide) (by decide)) ⟨Nat.le_refl _, Nat.le_refl _⟩ rfl rfl (Nat.le_of_ble_eq_true rfl) rfl ?_
    rintro v21 _ _ _ _ _ ⟨rfl, rfl, rfl, rfl, rfl, h⟩
    refine kk_icmp_ne (tgt := 74) hm.1 dX10_readPart_24 (by decide) (fun c24 => ?_) (fun c24 => ?_)
    · have h := h.1 c24
      refine kk_iload_n hm.1 0 dX10_readPart_74 rfl rfl ?_
      refine kk_bipush (v := (50 : Int32)) hm.1 dX10_readPart_75 (by decide) ?_
      refine kk_icmp_ne (tgt := 95) hm.1 dX10_readPart_77 (by decide) (fun c77 => ?_) (fun c77 => ?_)
      · have h := h.1 c77
        refine kk_loc (L' := [(0, kw_a a0), (1, kw_i x1), (2, kw_i (i (r a0 11) ((i a0 15)).toNatClampNeg))]) [1, 2, 0] rfl ?_
        exact q_X10_readPart_95 hm hr_X10_readPart hr_X10_readSum hr_X10_readTerm h0   ((i (r a0 11) ((i a0 15)).toNatClampNeg)) i h
      · have h := h.2 c77
        refine kk_aload_n hm.1 1 dX10_readPart_80 rfl rfl ?_
        refine kk_getR hm.1 ff_X10_43 dX10_readPart_81 h0 ?_
        refine kk_aload_n hm.1 1 dX10_readPart_84 rfl rfl ?_
        refine kk_getI hm.1 ff_X10_136 dX10_readPart_85 h0 ?_
        obtain ⟨o88, h⟩ := h
        refine kk_iaload hm.1 dX10_readPart_88 o88 ?_
        refine kk_sipush (v := (1000 : Int32)) hm.1 dX10_readPart_89 (by decide) ?_
        refine kk_icmp_le (tgt := 107) hm.1 dX10_readPart_92 (by decide) (fun c92 => ?_) (fun c92 => ?_)
        · have h := h.1 c92
          refine kk_loc (L' := [(0, kw_a a0), (1, kw_i x1)]) [1, 2] rfl ?_
          exact q_X10_readPart_107 hm hr_X10_readPart hr_X10_readSum hr_X10_readTerm h0   i h
        · have h := h.2 c92
          refine kk_loc (L' := [(0, kw_a a0), (1, kw_i x1), (2, kw_i (i (r a0 11) ((i a0 15)).toNatClampNeg))]) [1, 2, 0] rfl ?_
          exact q_X10_readPart_95 hm hr_X10_readPart hr_X10_readSum hr_X10_readTerm h0   ((i (r a0 11) ((i a0 15)).toNatClampNeg)) i h
    · have h := h.2 c24
      refine kk_iload_n hm.1 2 dX10_readPart_27 rfl rfl ?_
      refine kk_bipush (v := (8 : Int32)) hm.1 dX10_readPart_28 (by decide) ?_
      refine kk_icmp_ne (tgt := 37) hm.1 dX10_readPart_30 (by decide) (fun c30 => ?_) (fun c30 => ?_)
      · have h := h.1 c30
        refine kk_loc (L' := [(0, kw_a a0), (1, kw_i x1)]) [1, 2] rfl ?_
        exact q_X10_readPart_37 hm hr_X10_readPart hr_X10_readSum hr_X10_readTerm h0   i h
      · have h := h.2 c30
        refine kk_aload_n hm.1 1 dX10_readPart_33 rfl rfl ?_
        refine kk_callVv (cs' := 0) (sl' := 0) (st := []) hm.1 cv_X10_142 (t_X10_faults h0 h) dX10_readPart_34 h0 rfl rfl hm.2.2.1 (rmi_X10_readPart d (by decide) (by decide)) ⟨Nat.le_refl _, Nat.le_refl _⟩ rfl rfl (Nat.le_of_ble_eq_true rfl) rfl ?_
        rintro _ _ _ i34 _ ⟨rfl, rfl, rfl, rfl, h⟩
        refine kk_loc (L' := [(0, kw_a a0), (1, kw_i x1)]) [1, 2] rfl ?_
        exact q_X10_readPart_37 hm hr_X10_readPart hr_X10_readSum hr_X10_readTerm h0   i34 h
  · have h := h.2 c4
    exact kk_vret hm.1 hm.2.1 dX10_readPart_7 ⟨rfl, rfl, rfl, rfl, rfl, h⟩
def w_X10_readSum_29 (k_X10_readPart : Nat → Int32 → kw_T → Nat → kw_R → kw_I → kw_L → (kw_I → Prop) → Prop) (k_X10_readSum : Nat → Int32 → kw_T → Nat → kw_R → kw_I → kw_L → (kw_I → Prop) → Prop) (k_X10_readTerm : Nat → Int32 → kw_T → Nat → kw_R → kw_I → kw_L → (kw_I → Prop) → Prop) (a0 : Nat) (x1 : Int32) (T : kw_T) (n : Nat) (r : kw_R) (w : kw_L) (Q : kw_I → Prop) (k5 : kw_I → Prop) (i : kw_I) : Prop :=
  k_X10_readTerm a0 x1 T n r i w (fun i31 => k5 i31)
def s_X10_readSum_5 (k_X10_readPart : Nat → Int32 → kw_T → Nat → kw_R → kw_I → kw_L → (kw_I → Prop) → Prop) (k_X10_readSum : Nat → Int32 → kw_T → Nat → kw_R → kw_I → kw_L → (kw_I → Prop) → Prop) (k_X10_readTerm : Nat → Int32 → kw_T → Nat → kw_R → kw_I → kw_L → (kw_I → Prop) → Prop) (a0 : Nat) (x1 : Int32) (T : kw_T) (n : Nat) (r : kw_R) (w : kw_L) (Q : kw_I → Prop)  (k5 : kw_I → Prop) (i : kw_I) : Prop :=
  w_X10_sign (43 : Int32) T n r i w (fun v8 => w_X10_takes0 a0 v8 T n r i w (fun v11 i11 => (¬ v11 = 0 → w_X10_readSum_29 k_X10_readPart k_X10_readSum k_X10_readTerm a0 x1 T n r w Q k5 i11) ∧ (v11 = 0 → w_X10_sign (45 : Int32) T n r i11 w (fun v20 => w_X10_takes0 a0 v20 T n r i11 w (fun v23 i23 => (v23 = 0 → Q i23) ∧ (¬ v23 = 0 → w_X10_readSum_29 k_X10_readPart k_X10_readSum k_X10_readTerm a0 x1 T n r w Q k5 i23))))))
def w_X10_readSum_5 (k_X10_readPart : Nat → Int32 → kw_T → Nat → kw_R → kw_I → kw_L → (kw_I → Prop) → Prop) (k_X10_readSum : Nat → Int32 → kw_T → Nat → kw_R → kw_I → kw_L → (kw_I → Prop) → Prop) (k_X10_readTerm : Nat → Int32 → kw_T → Nat → kw_R → kw_I → kw_L → (kw_I → Prop) → Prop) (a0 : Nat) (x1 : Int32) (T : kw_T) (n : Nat) (r : kw_R) (w : kw_L) (Q : kw_I → Prop)  : Nat → kw_I → Prop
  | 0 => fun _ => False
  | N + 1 => s_X10_readSum_5 k_X10_readPart k_X10_readSum k_X10_readTerm a0 x1 T n r w Q  (w_X10_readSum_5 k_X10_readPart k_X10_readSum k_X10_readTerm a0 x1 T n r w Q  N)
def w_X10_readSum (k_X10_readPart : Nat → Int32 → kw_T → Nat → kw_R → kw_I → kw_L → (kw_I → Prop) → Prop) (k_X10_readSum : Nat → Int32 → kw_T → Nat → kw_R → kw_I → kw_L → (kw_I → Prop) → Prop) (k_X10_readTerm : Nat → Int32 → kw_T → Nat → kw_R → kw_I → kw_L → (kw_I → Prop) → Prop) (a0 : Nat) (x1 : Int32) (T : kw_T) (n : Nat) (r : kw_R) (i : kw_I) (w : kw_L) (Q : kw_I → Prop) : Prop :=
  k_X10_readTerm a0 x1 T n r i w (fun i2 => ∃ N, w_X10_readSum_5 k_X10_readPart k_X10_readSum k_X10_readTerm a0 x1 T n r w Q  N i2)
set_option maxHeartbeats 4000000 in
set_option maxRecDepth 100000 in
theorem q_X10_readSum_29 {k_X10_readPart : Nat → Int32 → kw_T → Nat → kw_R → kw_I → kw_L → (kw_I → Prop) → Prop} {k_X10_readSum : Nat → Int32 → kw_T → Nat → kw_R → kw_I → kw_L → (kw_I → Prop) → Prop} {k_X10_readTerm : Nat → Int32 → kw_T → Nat → kw_R → kw_I → kw_L → (kw_I → Prop) → Prop} {a0 : Nat} {x1 : Int32} {T : kw_T} {n : Nat} {r : kw_R} {w : kw_L} {Q : kw_I → Prop} {E : kw_E} {G : kw_G} {d : Nat} (hm : kw_m E G cX10_readSum 2 RX10 none (rm_X10_readPart (d + 1)) "readSum") (hr_X10_readPart : ∀ (a0 : Nat) (x1 : Int32) (T : kw_T) (n : Nat) (r : kw_R) (i : kw_I) (w : kw_L) (Q : kw_I → Prop), T a0 = (0, 10) → k_X10_readPart a0 x1 T n r i w Q → kw_Met E.2.1 G yX10_readPart cX10_readPart 3 none (rm_X10_readPart d) [kw_a a0, kw_i x1] (T, n, r, i, w) (kw_PV (fun T' n' r' i' w' => T = T' ∧ n = n' ∧ r = r' ∧ w = w' ∧ Q i'))) (hr_X10_readSum : ∀ (a0 : Nat) (x1 : Int32) (T : kw_T) (n : Nat) (r : kw_R) (i : kw_I) (w : kw_L) (Q : kw_I → Prop), T a0 = (0, 10) → k_X10_readSum a0 x1 T n r i w Q → kw_Met E.2.1 G yX10_readSum cX10_readSum 2 none (rm_X10_readPart d) [kw_a a0, kw_i x1] (T, n, r, i, w) (kw_PV (fun T' n' r' i' w' => T = T' ∧ n = n' ∧ r = r' ∧ w = w' ∧ Q i'))) (hr_X10_readTerm : ∀ (a0 : Nat) (x1 : Int32) (T : kw_T) (n : Nat) (r : kw_R) (i : kw_I) (w : kw_L) (Q : kw_I → Prop), T a0 = (0, 10) → k_X10_readTerm a0 x1 T n r i w Q → kw_Met E.2.1 G yX10_readTerm cX10_readTerm 2 none (rm_X10_readPart d) [kw_a a0, kw_i x1] (T, n, r, i, w) (kw_PV (fun T' n' r' i' w' => T = T' ∧ n = n' ∧ r = r' ∧ w = w' ∧ Q i'))) (h0 : T a0 = (0, 10))  {k5 : kw_I → Prop} (hk5 : ∀ (i : kw_I), k5 i → kw_K E G 2 0 0 (kw_Z E G 0 0 (kw_PV (fun T' n' r' i' w' => T = T' ∧ n = n' ∧ r = r' ∧ w = w' ∧ Q i'))) 5 [(0, kw_a a0), (1, kw_i x1)] [] T n r i w) (i : kw_I) (h : w_X10_readSum_29 k_X10_readPart k_X10_readSum k_X10_readTerm a0 x1 T n r w Q k5 i) : kw_K E G 2 0 0 (kw_Z E G 0 0 (kw_PV (fun T' n' r' i' w' => T = T' ∧ n = n' ∧ r = r' ∧ w = w' ∧ Q i'))) 29 [(0, kw_a a0), (1, kw_i x1)] [] T n r i w := by
  refine kk_aload_n hm.1 0 dX10_readSum_29 rfl rfl ?_
  refine kk_iload_n hm.1 1 dX10_readSum_30 rfl rfl ?_
  refine kk_callVv (cs' := 0) (sl' := 0) (st := []) hm.1 cv_X10_168 (hr_X10_readTerm a0 x1 T n r i w _ h0 h) dX10_readSum_31 h0 rfl rfl hm.2.2.1 (rms_X10_readPart d (by decide)) ⟨Nat.le_refl _, Nat.le_refl _⟩ rfl rfl (Nat.le_of_ble_eq_true rfl) rfl ?_
  rintro _ _ _ i31 _ ⟨rfl, rfl, rfl, rfl, h⟩
  refine kk_goto (tgt := 5) hm.1 dX10_readSum_34 (by decide) ?_
  exact hk5 i31 h
set_option maxHeartbeats 4000000 in
set_option maxRecDepth 100000 in
theorem qs_X10_readSum_5 {k_X10_readPart : Nat → Int32 → kw_T → Nat → kw_R → kw_I → kw_L → (kw_I → Prop) → Prop} {k_X10_readSum : Nat → Int32 → kw_T → Nat → kw_R → kw_I → kw_L → (kw_I → Prop) → Prop} {k_X10_readTerm : Nat → Int32 → kw_T → Nat → kw_R → kw_I → kw_L → (kw_I → Prop) → Prop} {a0 : Nat} {x1 : Int32} {T : kw_T} {n : Nat} {r : kw_R} {w : kw_L} {Q : kw_I → Prop} {E : kw_E} {G : kw_G} {d : Nat} (hm : kw_m E G cX10_readSum 2 RX10 none (rm_X10_readPart (d + 1)) "readSum") (hr_X10_readPart : ∀ (a0 : Nat) (x1 : Int32) (T : kw_T) (n : Nat) (r : kw_R) (i : kw_I) (w : kw_L) (Q : kw_I → Prop), T a0 = (0, 10) → k_X10_readPart a0 x1 T n r i w Q → kw_Met E.2.1 G yX10_readPart cX10_readPart 3 none (rm_X10_readPart d) [kw_a a0, kw_i x1] (T, n, r, i, w) (kw_PV (fun T' n' r' i' w' => T = T' ∧ n = n' ∧ r = r' ∧ w = w' ∧ Q i'))) (hr_X10_readSum : ∀ (a0 : Nat) (x1 : Int32) (T : kw_T) (n : Nat) (r : kw_R) (i : kw_I) (w : kw_L) (Q : kw_I → Prop), T a0 = (0, 10) → k_X10_readSum a0 x1 T n r i w Q → kw_Met E.2.1 G yX10_readSum cX10_readSum 2 none (rm_X10_readPart d) [kw_a a0, kw_i x1] (T, n, r, i, w) (kw_PV (fun T' n' r' i' w' => T = T' ∧ n = n' ∧ r = r' ∧ w = w' ∧ Q i'))) (hr_X10_readTerm : ∀ (a0 : Nat) (x1 : Int32) (T : kw_T) (n : Nat) (r : kw_R) (i : kw_I) (w : kw_L) (Q : kw_I → Prop), T a0 = (0, 10) → k_X10_readTerm a0 x1 T n r i w Q → kw_Met E.2.1 G yX10_readTerm cX10_readTerm 2 none (rm_X10_readPart d) [kw_a a0, kw_i x1] (T, n, r, i, w) (kw_PV (fun T' n' r' i' w' => T = T' ∧ n = n' ∧ r = r' ∧ w = w' ∧ Q i'))) (h0 : T a0 = (0, 10))    {k5 : kw_I → Prop} (hk5 : ∀ (i : kw_I), k5 i → kw_K E G 2 0 0 (kw_Z E G 0 0 (kw_PV (fun T' n' r' i' w' => T = T' ∧ n = n' ∧ r = r' ∧ w = w' ∧ Q i'))) 5 [(0, kw_a a0), (1, kw_i x1)] [] T n r i w) (i : kw_I) (h : s_X10_readSum_5 k_X10_readPart k_X10_readSum k_X10_readTerm a0 x1 T n r w Q  k5 i) : kw_K E G 2 0 0 (kw_Z E G 0 0 (kw_PV (fun T' n' r' i' w' => T = T' ∧ n = n' ∧ r = r' ∧ w = w' ∧ Q i'))) 5 [(0, kw_a a0), (1, kw_i x1)] [] T n r i w := by
  refine kk_aload_n hm.1 0 dX10_readSum_5 rfl rfl ?_
  refine kk_bipush (v := (43 : Int32)) hm.1 dX10_readSum_6 (by decide) ?_
  refine kk_callSi (cs' := 0) (sl' := 0) (st := [kw_a a0]) hm.1 cs_X10_164 (t_X10_sign h) dX10_readSum_8 rfl hm.2.2.1 (rmi_X10_readPart d (by decide) (by decide)) ⟨Nat.le_refl _, Nat.le_refl _⟩ rfl rfl (Nat.le_of_ble_eq_true rfl) rfl ?_
  rintro v8 _ _ _ _ _ ⟨rfl, rfl, rfl, rfl, rfl, h⟩
  refine kk_callVi (cs' := 0) (sl' := 0) (st := []) hm.1 cv_X10_139 (t_X10_takes0 h0 h) dX10_readSum_11 h0 rfl rfl hm.2.2.1 (rmi_X10_readPart d (by decide) (by decide)) ⟨Nat.le_refl _, Nat.le_refl _⟩ rfl rfl (Nat.le_of_ble_eq_true rfl) rfl ?_
  rintro v11 _ _ _ i11 _ ⟨rfl, rfl, rfl, rfl, h⟩
  refine kk_if_ne (tgt := 29) hm.1 dX10_readSum_14 (by decide) (fun c14 => ?_) (fun c14 => ?_)
  · have h := h.1 c14
    exact q_X10_readSum_29 hm hr_X10_readPart hr_X10_readSum hr_X10_readTerm h0  hk5 i11 h
  · have h := h.2 c14
    refine kk_aload_n hm.1 0 dX10_readSum_17 rfl rfl ?_
    refine kk_bipush (v := (45 : Int32)) hm.1 dX10_readSum_18 (by decide) ?_
    refine kk_callSi (cs' := 0) (sl' := 0) (st := [kw_a a0]) hm.1 cs_X10_164 (t_X10_sign h) dX10_readSum_20 rfl hm.2.2.1 (rmi_X10_readPart d (by decide) (by decide)) ⟨Nat.le_refl _, Nat.le_refl _⟩ rfl rfl (Nat.le_of_ble_eq_true rfl) rfl ?_
    rintro v20 _ _ _ _ _ ⟨rfl, rfl, rfl, rfl, rfl, h⟩
    refine kk_callVi (cs' := 0) (sl' := 0) (st := []) hm.1 cv_X10_139 (t_X10_takes0 h0 h) dX10_readSum_23 h0 rfl rfl hm.2.2.1 (rmi_X10_readPart d (by decide) (by decide)) ⟨Nat.le_refl _, Nat.le_refl _⟩ rfl rfl (Nat.le_of_ble_eq_true rfl) rfl ?_
    rintro v23 _ _ _ i23 _ ⟨rfl, rfl, rfl, rfl, h⟩
    refine kk_if_eq (tgt := 37) hm.1 dX10_readSum_26 (by decide) (fun c26 => ?_) (fun c26 => ?_)
    · have h := h.1 c26
      exact kk_vret hm.1 hm.2.1 dX10_readSum_37 ⟨rfl, rfl, rfl, rfl, rfl, h⟩
    · have h := h.2 c26
      exact q_X10_readSum_29 hm hr_X10_readPart hr_X10_readSum hr_X10_readTerm h0  hk5 i23 h
set_option maxHeartbeats 4000000 in
set_option maxRecDepth 100000 in
theorem q_X10_readSum_5 {k_X10_readPart : Nat → Int32 → kw_T → Nat → kw_R → kw_I → kw_L → (kw_I → Prop) → Prop} {k_X10_readSum : Nat → Int32 → kw_T → Nat → kw_R → kw_I → kw_L → (kw_I → Prop) → Prop} {k_X10_readTerm : Nat → Int32 → kw_T → Nat → kw_R → kw_I → kw_L → (kw_I → Prop) → Prop} {a0 : Nat} {x1 : Int32} {T : kw_T} {n : Nat} {r : kw_R} {w : kw_L} {Q : kw_I → Prop} {E : kw_E} {G : kw_G} {d : Nat} (hm : kw_m E G cX10_readSum 2 RX10 none (rm_X10_readPart (d + 1)) "readSum") (hr_X10_readPart : ∀ (a0 : Nat) (x1 : Int32) (T : kw_T) (n : Nat) (r : kw_R) (i : kw_I) (w : kw_L) (Q : kw_I → Prop), T a0 = (0, 10) → k_X10_readPart a0 x1 T n r i w Q → kw_Met E.2.1 G yX10_readPart cX10_readPart 3 none (rm_X10_readPart d) [kw_a a0, kw_i x1] (T, n, r, i, w) (kw_PV (fun T' n' r' i' w' => T = T' ∧ n = n' ∧ r = r' ∧ w = w' ∧ Q i'))) (hr_X10_readSum : ∀ (a0 : Nat) (x1 : Int32) (T : kw_T) (n : Nat) (r : kw_R) (i : kw_I) (w : kw_L) (Q : kw_I → Prop), T a0 = (0, 10) → k_X10_readSum a0 x1 T n r i w Q → kw_Met E.2.1 G yX10_readSum cX10_readSum 2 none (rm_X10_readPart d) [kw_a a0, kw_i x1] (T, n, r, i, w) (kw_PV (fun T' n' r' i' w' => T = T' ∧ n = n' ∧ r = r' ∧ w = w' ∧ Q i'))) (hr_X10_readTerm : ∀ (a0 : Nat) (x1 : Int32) (T : kw_T) (n : Nat) (r : kw_R) (i : kw_I) (w : kw_L) (Q : kw_I → Prop), T a0 = (0, 10) → k_X10_readTerm a0 x1 T n r i w Q → kw_Met E.2.1 G yX10_readTerm cX10_readTerm 2 none (rm_X10_readPart d) [kw_a a0, kw_i x1] (T, n, r, i, w) (kw_PV (fun T' n' r' i' w' => T = T' ∧ n = n' ∧ r = r' ∧ w = w' ∧ Q i'))) (h0 : T a0 = (0, 10))    : ∀ (N : Nat) (i : kw_I), w_X10_readSum_5 k_X10_readPart k_X10_readSum k_X10_readTerm a0 x1 T n r w Q  N i → kw_K E G 2 0 0 (kw_Z E G 0 0 (kw_PV (fun T' n' r' i' w' => T = T' ∧ n = n' ∧ r = r' ∧ w = w' ∧ Q i'))) 5 [(0, kw_a a0), (1, kw_i x1)] [] T n r i w := by
  intro N
  induction N with
  | zero => intro i h; exact h.elim
  | succ N ih => intro i h; exact qs_X10_readSum_5 hm hr_X10_readPart hr_X10_readSum hr_X10_readTerm h0  ih i h
set_option maxHeartbeats 4000000 in
set_option maxRecDepth 100000 in
theorem t_X10_readSum {l : Launch} {G : kw_G} {d : Nat} {k_X10_readPart : Nat → Int32 → kw_T → Nat → kw_R → kw_I → kw_L → (kw_I → Prop) → Prop} {k_X10_readSum : Nat → Int32 → kw_T → Nat → kw_R → kw_I → kw_L → (kw_I → Prop) → Prop} {k_X10_readTerm : Nat → Int32 → kw_T → Nat → kw_R → kw_I → kw_L → (kw_I → Prop) → Prop} {a0 : Nat} {x1 : Int32} {T : kw_T} {n : Nat} {r : kw_R} {i : kw_I} {w : kw_L} {Q : kw_I → Prop} (hr_X10_readPart : ∀ (a0 : Nat) (x1 : Int32) (T : kw_T) (n : Nat) (r : kw_R) (i : kw_I) (w : kw_L) (Q : kw_I → Prop), T a0 = (0, 10) → k_X10_readPart a0 x1 T n r i w Q → kw_Met l G yX10_readPart cX10_readPart 3 none (rm_X10_readPart d) [kw_a a0, kw_i x1] (T, n, r, i, w) (kw_PV (fun T' n' r' i' w' => T = T' ∧ n = n' ∧ r = r' ∧ w = w' ∧ Q i'))) (hr_X10_readSum : ∀ (a0 : Nat) (x1 : Int32) (T : kw_T) (n : Nat) (r : kw_R) (i : kw_I) (w : kw_L) (Q : kw_I → Prop), T a0 = (0, 10) → k_X10_readSum a0 x1 T n r i w Q → kw_Met l G yX10_readSum cX10_readSum 2 none (rm_X10_readPart d) [kw_a a0, kw_i x1] (T, n, r, i, w) (kw_PV (fun T' n' r' i' w' => T = T' ∧ n = n' ∧ r = r' ∧ w = w' ∧ Q i'))) (hr_X10_readTerm : ∀ (a0 : Nat) (x1 : Int32) (T : kw_T) (n : Nat) (r : kw_R) (i : kw_I) (w : kw_L) (Q : kw_I → Prop), T a0 = (0, 10) → k_X10_readTerm a0 x1 T n r i w Q → kw_Met l G yX10_readTerm cX10_readTerm 2 none (rm_X10_readPart d) [kw_a a0, kw_i x1] (T, n, r, i, w) (kw_PV (fun T' n' r' i' w' => T = T' ∧ n = n' ∧ r = r' ∧ w = w' ∧ Q i'))) (h0 : T a0 = (0, 10)) (h : w_X10_readSum k_X10_readPart k_X10_readSum k_X10_readTerm a0 x1 T n r i w Q) : kw_Met l G yX10_readSum cX10_readSum 2 none (rm_X10_readPart (d + 1)) [kw_a a0, kw_i x1] (T, n, r, i, w) (kw_PV (fun T' n' r' i' w' => T = T' ∧ n = n' ∧ r = r' ∧ w = w' ∧ Q i')) := by
  refine kw_Met.of (by decide) (Nat.le_of_ble_eq_true rfl) fun E hl hRm hE hT hnm => ?_
  have hm : kw_m E G cX10_readSum 2 RX10 none (rm_X10_readPart (d + 1)) "readSum" := ⟨hE, hT, hRm, hnm⟩
  subst hl
  show kw_K E G 2 0 0 (kw_Z E G 0 0 (kw_PV (fun T' n' r' i' w' => T = T' ∧ n = n' ∧ r = r' ∧ w = w' ∧ Q i'))) 0 [(0, kw_a a0), (1, kw_i x1)] [] T n r i w
  refine kk_aload_n hm.1 0 dX10_readSum_0 rfl rfl ?_
  refine kk_iload_n hm.1 1 dX10_readSum_1 rfl rfl ?_
  refine kk_callVv (cs' := 0) (sl' := 0) (st := []) hm.1 cv_X10_168 (hr_X10_readTerm a0 x1 T n r i w _ h0 h) dX10_readSum_2 h0 rfl rfl hm.2.2.1 (rms_X10_readPart d (by decide)) ⟨Nat.le_refl _, Nat.le_refl _⟩ rfl rfl (Nat.le_of_ble_eq_true rfl) rfl ?_
  rintro _ _ _ i2 _ ⟨rfl, rfl, rfl, rfl, h⟩
  obtain ⟨N, h⟩ := h
  exact q_X10_readSum_5 hm hr_X10_readPart hr_X10_readSum hr_X10_readTerm h0   N i2 h
def w_X10_readTerm_29 (k_X10_readPart : Nat → Int32 → kw_T → Nat → kw_R → kw_I → kw_L → (kw_I → Prop) → Prop) (k_X10_readSum : Nat → Int32 → kw_T → Nat → kw_R → kw_I → kw_L → (kw_I → Prop) → Prop) (k_X10_readTerm : Nat → Int32 → kw_T → Nat → kw_R → kw_I → kw_L → (kw_I → Prop) → Prop) (a0 : Nat) (x1 : Int32) (T : kw_T) (n : Nat) (r : kw_R) (w : kw_L) (Q : kw_I → Prop) (k5 : kw_I → Prop) (i : kw_I) : Prop :=
  k_X10_readPart a0 x1 T n r i w (fun i31 => k5 i31)
def s_X10_readTerm_5 (k_X10_readPart : Nat → Int32 → kw_T → Nat → kw_R → kw_I → kw_L → (kw_I → Prop) → Prop) (k_X10_readSum : Nat → Int32 → kw_T → Nat → kw_R → kw_I → kw_L → (kw_I → Prop) → Prop) (k_X10_readTerm : Nat → Int32 → kw_T → Nat → kw_R → kw_I → kw_L → (kw_I → Prop) → Prop) (a0 : Nat) (x1 : Int32) (T : kw_T) (n : Nat) (r : kw_R) (w : kw_L) (Q : kw_I → Prop)  (k5 : kw_I → Prop) (i : kw_I) : Prop :=
  w_X10_sign (42 : Int32) T n r i w (fun v8 => w_X10_takes0 a0 v8 T n r i w (fun v11 i11 => (¬ v11 = 0 → w_X10_readTerm_29 k_X10_readPart k_X10_readSum k_X10_readTerm a0 x1 T n r w Q k5 i11) ∧ (v11 = 0 → w_X10_sign (47 : Int32) T n r i11 w (fun v20 => w_X10_takes0 a0 v20 T n r i11 w (fun v23 i23 => (v23 = 0 → Q i23) ∧ (¬ v23 = 0 → w_X10_readTerm_29 k_X10_readPart k_X10_readSum k_X10_readTerm a0 x1 T n r w Q k5 i23))))))
def w_X10_readTerm_5 (k_X10_readPart : Nat → Int32 → kw_T → Nat → kw_R → kw_I → kw_L → (kw_I → Prop) → Prop) (k_X10_readSum : Nat → Int32 → kw_T → Nat → kw_R → kw_I → kw_L → (kw_I → Prop) → Prop) (k_X10_readTerm : Nat → Int32 → kw_T → Nat → kw_R → kw_I → kw_L → (kw_I → Prop) → Prop) (a0 : Nat) (x1 : Int32) (T : kw_T) (n : Nat) (r : kw_R) (w : kw_L) (Q : kw_I → Prop)  : Nat → kw_I → Prop
  | 0 => fun _ => False
  | N + 1 => s_X10_readTerm_5 k_X10_readPart k_X10_readSum k_X10_readTerm a0 x1 T n r w Q  (w_X10_readTerm_5 k_X10_readPart k_X10_readSum k_X10_readTerm a0 x1 T n r w Q  N)
def w_X10_readTerm (k_X10_readPart : Nat → Int32 → kw_T → Nat → kw_R → kw_I → kw_L → (kw_I → Prop) → Prop) (k_X10_readSum : Nat → Int32 → kw_T → Nat → kw_R → kw_I → kw_L → (kw_I → Prop) → Prop) (k_X10_readTerm : Nat → Int32 → kw_T → Nat → kw_R → kw_I → kw_L → (kw_I → Prop) → Prop) (a0 : Nat) (x1 : Int32) (T : kw_T) (n : Nat) (r : kw_R) (i : kw_I) (w : kw_L) (Q : kw_I → Prop) : Prop :=
  k_X10_readPart a0 x1 T n r i w (fun i2 => ∃ N, w_X10_readTerm_5 k_X10_readPart k_X10_readSum k_X10_readTerm a0 x1 T n r w Q  N i2)
set_option maxHeartbeats 4000000 in
set_option maxRecDepth 100000 in
theorem q_X10_readTerm_29 {k_X10_readPart : Nat → Int32 → kw_T → Nat → kw_R → kw_I → kw_L → (kw_I → Prop) → Prop} {k_X10_readSum : Nat → Int32 → kw_T → Nat → kw_R → kw_I → kw_L → (kw_I → Prop) → Prop} {k_X10_readTerm : Nat → Int32 → kw_T → Nat → kw_R → kw_I → kw_L → (kw_I → Prop) → Prop} {a0 : Nat} {x1 : Int32} {T : kw_T} {n : Nat} {r : kw_R} {w : kw_L} {Q : kw_I → Prop} {E : kw_E} {G : kw_G} {d : Nat} (hm : kw_m E G cX10_readTerm 2 RX10 none (rm_X10_readPart (d + 1)) "readTerm") (hr_X10_readPart : ∀ (a0 : Nat) (x1 : Int32) (T : kw_T) (n : Nat) (r : kw_R) (i : kw_I) (w : kw_L) (Q : kw_I → Prop), T a0 = (0, 10) → k_X10_readPart a0 x1 T n r i w Q → kw_Met E.2.1 G yX10_readPart cX10_readPart 3 none (rm_X10_readPart d) [kw_a a0, kw_i x1] (T, n, r, i, w) (kw_PV (fun T' n' r' i' w' => T = T' ∧ n = n' ∧ r = r' ∧ w = w' ∧ Q i'))) (hr_X10_readSum : ∀ (a0 : Nat) (x1 : Int32) (T : kw_T) (n : Nat) (r : kw_R) (i : kw_I) (w : kw_L) (Q : kw_I → Prop), T a0 = (0, 10) → k_X10_readSum a0 x1 T n r i w Q → kw_Met E.2.1 G yX10_readSum cX10_readSum 2 none (rm_X10_readPart d) [kw_a a0, kw_i x1] (T, n, r, i, w) (kw_PV (fun T' n' r' i' w' => T = T' ∧ n = n' ∧ r = r' ∧ w = w' ∧ Q i'))) (hr_X10_readTerm : ∀ (a0 : Nat) (x1 : Int32) (T : kw_T) (n : Nat) (r : kw_R) (i : kw_I) (w : kw_L) (Q : kw_I → Prop), T a0 = (0, 10) → k_X10_readTerm a0 x1 T n r i w Q → kw_Met E.2.1 G yX10_readTerm cX10_readTerm 2 none (rm_X10_readPart d) [kw_a a0, kw_i x1] (T, n, r, i, w) (kw_PV (fun T' n' r' i' w' => T = T' ∧ n = n' ∧ r = r' ∧ w = w' ∧ Q i'))) (h0 : T a0 = (0, 10))  {k5 : kw_I → Prop} (hk5 : ∀ (i : kw_I), k5 i → kw_K E G 2 0 0 (kw_Z E G 0 0 (kw_PV (fun T' n' r' i' w' => T = T' ∧ n = n' ∧ r = r' ∧ w = w' ∧ Q i'))) 5 [(0, kw_a a0), (1, kw_i x1)] [] T n r i w) (i : kw_I) (h : w_X10_readTerm_29 k_X10_readPart k_X10_readSum k_X10_readTerm a0 x1 T n r w Q k5 i) : kw_K E G 2 0 0 (kw_Z E G 0 0 (kw_PV (fun T' n' r' i' w' => T = T' ∧ n = n' ∧ r = r' ∧ w = w' ∧ Q i'))) 29 [(0, kw_a a0), (1, kw_i x1)] [] T n r i w := by
  refine kk_aload_n hm.1 0 dX10_readTerm_29 rfl rfl ?_
  refine kk_iload_n hm.1 1 dX10_readTerm_30 rfl rfl ?_
  refine kk_callVv (cs' := 0) (sl' := 0) (st := []) hm.1 cv_X10_171 (hr_X10_readPart a0 x1 T n r i w _ h0 h) dX10_readTerm_31 h0 rfl rfl hm.2.2.1 (rms_X10_readPart d (by decide)) ⟨Nat.le_refl _, Nat.le_refl _⟩ rfl rfl (Nat.le_of_ble_eq_true rfl) rfl ?_
  rintro _ _ _ i31 _ ⟨rfl, rfl, rfl, rfl, h⟩
  refine kk_goto (tgt := 5) hm.1 dX10_readTerm_34 (by decide) ?_
  exact hk5 i31 h
set_option maxHeartbeats 4000000 in
set_option maxRecDepth 100000 in
theorem qs_X10_readTerm_5 {k_X10_readPart : Nat → Int32 → kw_T → Nat → kw_R → kw_I → kw_L → (kw_I → Prop) → Prop} {k_X10_readSum : Nat → Int32 → kw_T → Nat → kw_R → kw_I → kw_L → (kw_I → Prop) → Prop} {k_X10_readTerm : Nat → Int32 → kw_T → Nat → kw_R → kw_I → kw_L → (kw_I → Prop) → Prop} {a0 : Nat} {x1 : Int32} {T : kw_T} {n : Nat} {r : kw_R} {w : kw_L} {Q : kw_I → Prop} {E : kw_E} {G : kw_G} {d : Nat} (hm : kw_m E G cX10_readTerm 2 RX10 none (rm_X10_readPart (d + 1)) "readTerm") (hr_X10_readPart : ∀ (a0 : Nat) (x1 : Int32) (T : kw_T) (n : Nat) (r : kw_R) (i : kw_I) (w : kw_L) (Q : kw_I → Prop), T a0 = (0, 10) → k_X10_readPart a0 x1 T n r i w Q → kw_Met E.2.1 G yX10_readPart cX10_readPart 3 none (rm_X10_readPart d) [kw_a a0, kw_i x1] (T, n, r, i, w) (kw_PV (fun T' n' r' i' w' => T = T' ∧ n = n' ∧ r = r' ∧ w = w' ∧ Q i'))) (hr_X10_readSum : ∀ (a0 : Nat) (x1 : Int32) (T : kw_T) (n : Nat) (r : kw_R) (i : kw_I) (w : kw_L) (Q : kw_I → Prop), T a0 = (0, 10) → k_X10_readSum a0 x1 T n r i w Q → kw_Met E.2.1 G yX10_readSum cX10_readSum 2 none (rm_X10_readPart d) [kw_a a0, kw_i x1] (T, n, r, i, w) (kw_PV (fun T' n' r' i' w' => T = T' ∧ n = n' ∧ r = r' ∧ w = w' ∧ Q i'))) (hr_X10_readTerm : ∀ (a0 : Nat) (x1 : Int32) (T : kw_T) (n : Nat) (r : kw_R) (i : kw_I) (w : kw_L) (Q : kw_I → Prop), T a0 = (0, 10) → k_X10_readTerm a0 x1 T n r i w Q → kw_Met E.2.1 G yX10_readTerm cX10_readTerm 2 none (rm_X10_readPart d) [kw_a a0, kw_i x1] (T, n, r, i, w) (kw_PV (fun T' n' r' i' w' => T = T' ∧ n = n' ∧ r = r' ∧ w = w' ∧ Q i'))) (h0 : T a0 = (0, 10))    {k5 : kw_I → Prop} (hk5 : ∀ (i : kw_I), k5 i → kw_K E G 2 0 0 (kw_Z E G 0 0 (kw_PV (fun T' n' r' i' w' => T = T' ∧ n = n' ∧ r = r' ∧ w = w' ∧ Q i'))) 5 [(0, kw_a a0), (1, kw_i x1)] [] T n r i w) (i : kw_I) (h : s_X10_readTerm_5 k_X10_readPart k_X10_readSum k_X10_readTerm a0 x1 T n r w Q  k5 i) : kw_K E G 2 0 0 (kw_Z E G 0 0 (kw_PV (fun T' n' r' i' w' => T = T' ∧ n = n' ∧ r = r' ∧ w = w' ∧ Q i'))) 5 [(0, kw_a a0), (1, kw_i x1)] [] T n r i w := by
  refine kk_aload_n hm.1 0 dX10_readTerm_5 rfl rfl ?_
  refine kk_bipush (v := (42 : Int32)) hm.1 dX10_readTerm_6 (by decide) ?_
  refine kk_callSi (cs' := 0) (sl' := 0) (st := [kw_a a0]) hm.1 cs_X10_164 (t_X10_sign h) dX10_readTerm_8 rfl hm.2.2.1 (rmi_X10_readPart d (by decide) (by decide)) ⟨Nat.le_refl _, Nat.le_refl _⟩ rfl rfl (Nat.le_of_ble_eq_true rfl) rfl ?_
  rintro v8 _ _ _ _ _ ⟨rfl, rfl, rfl, rfl, rfl, h⟩
  refine kk_callVi (cs' := 0) (sl' := 0) (st := []) hm.1 cv_X10_139 (t_X10_takes0 h0 h) dX10_readTerm_11 h0 rfl rfl hm.2.2.1 (rmi_X10_readPart d (by decide) (by decide)) ⟨Nat.le_refl _, Nat.le_refl _⟩ rfl rfl (Nat.le_of_ble_eq_true rfl) rfl ?_
  rintro v11 _ _ _ i11 _ ⟨rfl, rfl, rfl, rfl, h⟩
  refine kk_if_ne (tgt := 29) hm.1 dX10_readTerm_14 (by decide) (fun c14 => ?_) (fun c14 => ?_)
  · have h := h.1 c14
    exact q_X10_readTerm_29 hm hr_X10_readPart hr_X10_readSum hr_X10_readTerm h0  hk5 i11 h
  · have h := h.2 c14
    refine kk_aload_n hm.1 0 dX10_readTerm_17 rfl rfl ?_
    refine kk_bipush (v := (47 : Int32)) hm.1 dX10_readTerm_18 (by decide) ?_
    refine kk_callSi (cs' := 0) (sl' := 0) (st := [kw_a a0]) hm.1 cs_X10_164 (t_X10_sign h) dX10_readTerm_20 rfl hm.2.2.1 (rmi_X10_readPart d (by decide) (by decide)) ⟨Nat.le_refl _, Nat.le_refl _⟩ rfl rfl (Nat.le_of_ble_eq_true rfl) rfl ?_
    rintro v20 _ _ _ _ _ ⟨rfl, rfl, rfl, rfl, rfl, h⟩
    refine kk_callVi (cs' := 0) (sl' := 0) (st := []) hm.1 cv_X10_139 (t_X10_takes0 h0 h) dX10_readTerm_23 h0 rfl rfl hm.2.2.1 (rmi_X10_readPart d (by decide) (by decide)) ⟨Nat.le_refl _, Nat.le_refl _⟩ rfl rfl (Nat.le_of_ble_eq_true rfl) rfl ?_
    rintro v23 _ _ _ i23 _ ⟨rfl, rfl, rfl, rfl, h⟩
    refine kk_if_eq (tgt := 37) hm.1 dX10_readTerm_26 (by decide) (fun c26 => ?_) (fun c26 => ?_)
    · have h := h.1 c26
      exact kk_vret hm.1 hm.2.1 dX10_readTerm_37 ⟨rfl, rfl, rfl, rfl, rfl, h⟩
    · have h := h.2 c26
      exact q_X10_readTerm_29 hm hr_X10_readPart hr_X10_readSum hr_X10_readTerm h0  hk5 i23 h
set_option maxHeartbeats 4000000 in
set_option maxRecDepth 100000 in
theorem q_X10_readTerm_5 {k_X10_readPart : Nat → Int32 → kw_T → Nat → kw_R → kw_I → kw_L → (kw_I → Prop) → Prop} {k_X10_readSum : Nat → Int32 → kw_T → Nat → kw_R → kw_I → kw_L → (kw_I → Prop) → Prop} {k_X10_readTerm : Nat → Int32 → kw_T → Nat → kw_R → kw_I → kw_L → (kw_I → Prop) → Prop} {a0 : Nat} {x1 : Int32} {T : kw_T} {n : Nat} {r : kw_R} {w : kw_L} {Q : kw_I → Prop} {E : kw_E} {G : kw_G} {d : Nat} (hm : kw_m E G cX10_readTerm 2 RX10 none (rm_X10_readPart (d + 1)) "readTerm") (hr_X10_readPart : ∀ (a0 : Nat) (x1 : Int32) (T : kw_T) (n : Nat) (r : kw_R) (i : kw_I) (w : kw_L) (Q : kw_I → Prop), T a0 = (0, 10) → k_X10_readPart a0 x1 T n r i w Q → kw_Met E.2.1 G yX10_readPart cX10_readPart 3 none (rm_X10_readPart d) [kw_a a0, kw_i x1] (T, n, r, i, w) (kw_PV (fun T' n' r' i' w' => T = T' ∧ n = n' ∧ r = r' ∧ w = w' ∧ Q i'))) (hr_X10_readSum : ∀ (a0 : Nat) (x1 : Int32) (T : kw_T) (n : Nat) (r : kw_R) (i : kw_I) (w : kw_L) (Q : kw_I → Prop), T a0 = (0, 10) → k_X10_readSum a0 x1 T n r i w Q → kw_Met E.2.1 G yX10_readSum cX10_readSum 2 none (rm_X10_readPart d) [kw_a a0, kw_i x1] (T, n, r, i, w) (kw_PV (fun T' n' r' i' w' => T = T' ∧ n = n' ∧ r = r' ∧ w = w' ∧ Q i'))) (hr_X10_readTerm : ∀ (a0 : Nat) (x1 : Int32) (T : kw_T) (n : Nat) (r : kw_R) (i : kw_I) (w : kw_L) (Q : kw_I → Prop), T a0 = (0, 10) → k_X10_readTerm a0 x1 T n r i w Q → kw_Met E.2.1 G yX10_readTerm cX10_readTerm 2 none (rm_X10_readPart d) [kw_a a0, kw_i x1] (T, n, r, i, w) (kw_PV (fun T' n' r' i' w' => T = T' ∧ n = n' ∧ r = r' ∧ w = w' ∧ Q i'))) (h0 : T a0 = (0, 10))    : ∀ (N : Nat) (i : kw_I), w_X10_readTerm_5 k_X10_readPart k_X10_readSum k_X10_readTerm a0 x1 T n r w Q  N i → kw_K E G 2 0 0 (kw_Z E G 0 0 (kw_PV (fun T' n' r' i' w' => T = T' ∧ n = n' ∧ r = r' ∧ w = w' ∧ Q i'))) 5 [(0, kw_a a0), (1, kw_i x1)] [] T n r i w := by
  intro N
  induction N with
  | zero => intro i h; exact h.elim
  | succ N ih => intro i h; exact qs_X10_readTerm_5 hm hr_X10_readPart hr_X10_readSum hr_X10_readTerm h0  ih i h
set_option maxHeartbeats 4000000 in
set_option maxRecDepth 100000 in
theorem t_X10_readTerm {l : Launch} {G : kw_G} {d : Nat} {k_X10_readPart : Nat → Int32 → kw_T → Nat → kw_R → kw_I → kw_L → (kw_I → Prop) → Prop} {k_X10_readSum : Nat → Int32 → kw_T → Nat → kw_R → kw_I → kw_L → (kw_I → Prop) → Prop} {k_X10_readTerm : Nat → Int32 → kw_T → Nat → kw_R → kw_I → kw_L → (kw_I → Prop) → Prop} {a0 : Nat} {x1 : Int32} {T : kw_T} {n : Nat} {r : kw_R} {i : kw_I} {w : kw_L} {Q : kw_I → Prop} (hr_X10_readPart : ∀ (a0 : Nat) (x1 : Int32) (T : kw_T) (n : Nat) (r : kw_R) (i : kw_I) (w : kw_L) (Q : kw_I → Prop), T a0 = (0, 10) → k_X10_readPart a0 x1 T n r i w Q → kw_Met l G yX10_readPart cX10_readPart 3 none (rm_X10_readPart d) [kw_a a0, kw_i x1] (T, n, r, i, w) (kw_PV (fun T' n' r' i' w' => T = T' ∧ n = n' ∧ r = r' ∧ w = w' ∧ Q i'))) (hr_X10_readSum : ∀ (a0 : Nat) (x1 : Int32) (T : kw_T) (n : Nat) (r : kw_R) (i : kw_I) (w : kw_L) (Q : kw_I → Prop), T a0 = (0, 10) → k_X10_readSum a0 x1 T n r i w Q → kw_Met l G yX10_readSum cX10_readSum 2 none (rm_X10_readPart d) [kw_a a0, kw_i x1] (T, n, r, i, w) (kw_PV (fun T' n' r' i' w' => T = T' ∧ n = n' ∧ r = r' ∧ w = w' ∧ Q i'))) (hr_X10_readTerm : ∀ (a0 : Nat) (x1 : Int32) (T : kw_T) (n : Nat) (r : kw_R) (i : kw_I) (w : kw_L) (Q : kw_I → Prop), T a0 = (0, 10) → k_X10_readTerm a0 x1 T n r i w Q → kw_Met l G yX10_readTerm cX10_readTerm 2 none (rm_X10_readPart d) [kw_a a0, kw_i x1] (T, n, r, i, w) (kw_PV (fun T' n' r' i' w' => T = T' ∧ n = n' ∧ r = r' ∧ w = w' ∧ Q i'))) (h0 : T a0 = (0, 10)) (h : w_X10_readTerm k_X10_readPart k_X10_readSum k_X10_readTerm a0 x1 T n r i w Q) : kw_Met l G yX10_readTerm cX10_readTerm 2 none (rm_X10_readPart (d + 1)) [kw_a a0, kw_i x1] (T, n, r, i, w) (kw_PV (fun T' n' r' i' w' => T = T' ∧ n = n' ∧ r = r' ∧ w = w' ∧ Q i')) := by
  refine kw_Met.of (by decide) (Nat.le_of_ble_eq_true rfl) fun E hl hRm hE hT hnm => ?_
  have hm : kw_m E G cX10_readTerm 2 RX10 none (rm_X10_readPart (d + 1)) "readTerm" := ⟨hE, hT, hRm, hnm⟩
  subst hl
  show kw_K E G 2 0 0 (kw_Z E G 0 0 (kw_PV (fun T' n' r' i' w' => T = T' ∧ n = n' ∧ r = r' ∧ w = w' ∧ Q i'))) 0 [(0, kw_a a0), (1, kw_i x1)] [] T n r i w
  refine kk_aload_n hm.1 0 dX10_readTerm_0 rfl rfl ?_
  refine kk_iload_n hm.1 1 dX10_readTerm_1 rfl rfl ?_
  refine kk_callVv (cs' := 0) (sl' := 0) (st := []) hm.1 cv_X10_171 (hr_X10_readPart a0 x1 T n r i w _ h0 h) dX10_readTerm_2 h0 rfl rfl hm.2.2.1 (rms_X10_readPart d (by decide)) ⟨Nat.le_refl _, Nat.le_refl _⟩ rfl rfl (Nat.le_of_ble_eq_true rfl) rfl ?_
  rintro _ _ _ i2 _ ⟨rfl, rfl, rfl, rfl, h⟩
  obtain ⟨N, h⟩ := h
  exact q_X10_readTerm_5 hm hr_X10_readPart hr_X10_readSum hr_X10_readTerm h0   N i2 h
def g_X10_readPart : Nat → (Nat → Int32 → kw_T → Nat → kw_R → kw_I → kw_L → (kw_I → Prop) → Prop) × (Nat → Int32 → kw_T → Nat → kw_R → kw_I → kw_L → (kw_I → Prop) → Prop) × (Nat → Int32 → kw_T → Nat → kw_R → kw_I → kw_L → (kw_I → Prop) → Prop)
  | 0 => (fun _ _ _ _ _ _ _ _ => False, fun _ _ _ _ _ _ _ _ => False, fun _ _ _ _ _ _ _ _ => False)
  | d + 1 => (w_X10_readPart (g_X10_readPart d).1 (g_X10_readPart d).2.1 (g_X10_readPart d).2.2, w_X10_readSum (g_X10_readPart d).1 (g_X10_readPart d).2.1 (g_X10_readPart d).2.2, w_X10_readTerm (g_X10_readPart d).1 (g_X10_readPart d).2.1 (g_X10_readPart d).2.2)
set_option maxHeartbeats 4000000 in
set_option maxRecDepth 100000 in
theorem tg_X10_readPart (l : Launch) (G : kw_G) : ∀ d : Nat, (∀ (a0 : Nat) (x1 : Int32) (T : kw_T) (n : Nat) (r : kw_R) (i : kw_I) (w : kw_L) (Q : kw_I → Prop), T a0 = (0, 10) → (g_X10_readPart d).1 a0 x1 T n r i w Q → kw_Met l G yX10_readPart cX10_readPart 3 none (rm_X10_readPart d) [kw_a a0, kw_i x1] (T, n, r, i, w) (kw_PV (fun T' n' r' i' w' => T = T' ∧ n = n' ∧ r = r' ∧ w = w' ∧ Q i'))) ∧ (∀ (a0 : Nat) (x1 : Int32) (T : kw_T) (n : Nat) (r : kw_R) (i : kw_I) (w : kw_L) (Q : kw_I → Prop), T a0 = (0, 10) → (g_X10_readPart d).2.1 a0 x1 T n r i w Q → kw_Met l G yX10_readSum cX10_readSum 2 none (rm_X10_readPart d) [kw_a a0, kw_i x1] (T, n, r, i, w) (kw_PV (fun T' n' r' i' w' => T = T' ∧ n = n' ∧ r = r' ∧ w = w' ∧ Q i'))) ∧ (∀ (a0 : Nat) (x1 : Int32) (T : kw_T) (n : Nat) (r : kw_R) (i : kw_I) (w : kw_L) (Q : kw_I → Prop), T a0 = (0, 10) → (g_X10_readPart d).2.2 a0 x1 T n r i w Q → kw_Met l G yX10_readTerm cX10_readTerm 2 none (rm_X10_readPart d) [kw_a a0, kw_i x1] (T, n, r, i, w) (kw_PV (fun T' n' r' i' w' => T = T' ∧ n = n' ∧ r = r' ∧ w = w' ∧ Q i')))
  | 0 => ⟨fun a0 x1 T n r i w Q h0 h => h.elim, fun a0 x1 T n r i w Q h0 h => h.elim, fun a0 x1 T n r i w Q h0 h => h.elim⟩
  | d + 1 => have ih := tg_X10_readPart l G d
    ⟨fun a0 x1 T n r i w Q h0 h => t_X10_readPart ih.1 ih.2.1 ih.2.2 h0 h, fun a0 x1 T n r i w Q h0 h => t_X10_readSum ih.1 ih.2.1 ih.2.2 h0 h, fun a0 x1 T n r i w Q h0 h => t_X10_readTerm ih.1 ih.2.1 ih.2.2 h0 h⟩
