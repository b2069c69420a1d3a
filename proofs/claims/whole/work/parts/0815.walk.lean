abbrev rm_X10_readBoth (d : Nat) : Room := { frames := 65 + d, cells := 0, slots := 0, locals := 3144 + 50 * d }
theorem rms_X10_readBoth (d : Nat) {nL' : Nat} (h : nL' ≤ 31) : (rm_X10_readBoth d).frames + 1 ≤ (rm_X10_readBoth (d + 1)).frames ∧ 8 + (nL' + 11) + (rm_X10_readBoth d).locals ≤ (rm_X10_readBoth (d + 1)).locals := ⟨by show 65 + d + 1 ≤ 65 + (d + 1); omega, by show 8 + (nL' + 11) + (3144 + 50 * d) ≤ 3144 + 50 * (d + 1); omega⟩
theorem rmi_X10_readBoth (d : Nat) {nL' : Nat} {rm : Room} (h1 : rm.frames + 1 ≤ 65) (h2 : 8 + (nL' + 11) + rm.locals ≤ 3144) : rm.frames + 1 ≤ (rm_X10_readBoth (d + 1)).frames ∧ 8 + (nL' + 11) + rm.locals ≤ (rm_X10_readBoth (d + 1)).locals := ⟨by show _ ≤ 65 + (d + 1); omega, by show _ ≤ 3144 + 50 * (d + 1); omega⟩
theorem rmo_X10_readBoth {d : Nat} (hd : d ≤ 60) {nL' : Nat} {rm : Room} (h1 : 126 ≤ rm.frames) (h2 : 8 + (nL' + 11) + 6144 ≤ rm.locals) : (rm_X10_readBoth d).frames + 1 ≤ rm.frames ∧ 8 + (nL' + 11) + (rm_X10_readBoth d).locals ≤ rm.locals := ⟨by show 65 + d + 1 ≤ _; omega, by show 8 + (nL' + 11) + (3144 + 50 * d) ≤ _; omega⟩
def s_X10_readBoth_5 (k_X10_readBoth : Nat → Int32 → kw_T → Nat → kw_R → kw_I → kw_L → (kw_I → Prop) → Prop) (k_X10_readPlain : Nat → Int32 → kw_T → Nat → kw_R → kw_I → kw_L → (kw_I → Prop) → Prop) (k_X10_readTest : Nat → Int32 → kw_T → Nat → kw_R → kw_I → kw_L → (kw_I → Prop) → Prop) (a0 : Nat) (x1 : Int32) (T : kw_T) (n : Nat) (r : kw_R) (w : kw_L) (Q : kw_I → Prop)  (k5 : kw_I → Prop) (i : kw_I) : Prop :=
  w_X10_takes0 a0 (4 : Int32) T n r i w (fun v7 i7 => (v7 = 0 → Q i7) ∧ (¬ v7 = 0 → k_X10_readPlain a0 x1 T n r i7 w (fun i15 => k5 i15)))
def w_X10_readBoth_5 (k_X10_readBoth : Nat → Int32 → kw_T → Nat → kw_R → kw_I → kw_L → (kw_I → Prop) → Prop) (k_X10_readPlain : Nat → Int32 → kw_T → Nat → kw_R → kw_I → kw_L → (kw_I → Prop) → Prop) (k_X10_readTest : Nat → Int32 → kw_T → Nat → kw_R → kw_I → kw_L → (kw_I → Prop) → Prop) (a0 : Nat) (x1 : Int32) (T : kw_T) (n : Nat) (r : kw_R) (w : kw_L) (Q : kw_I → Prop)  : Nat → kw_I → Prop
  | 0 => fun _ => False
  | N + 1 => s_X10_readBoth_5 k_X10_readBoth k_X10_readPlain k_X10_readTest a0 x1 T n r w Q  (w_X10_readBoth_5 k_X10_readBoth k_X10_readPlain k_X10_readTest a0 x1 T n r w Q  N)
def w_X10_readBoth (k_X10_readBoth : Nat → Int32 → kw_T → Nat → kw_R → kw_I → kw_L → (kw_I → Prop) → Prop) (k_X10_readPlain : Nat → Int32 → kw_T → Nat → kw_R → kw_I → kw_L → (kw_I → Prop) → Prop) (k_X10_readTest : Nat → Int32 → kw_T → Nat → kw_R → kw_I → kw_L → (kw_I → Prop) → Prop) (a0 : Nat) (x1 : Int32) (T : kw_T) (n : Nat) (r : kw_R) (i : kw_I) (w : kw_L) (Q : kw_I → Prop) : Prop :=
  k_X10_readPlain a0 x1 T n r i w (fun i2 => ∃ N, w_X10_readBoth_5 k_X10_readBoth k_X10_readPlain k_X10_readTest a0 x1 T n r w Q  N i2)
set_option maxHeartbeats 4000000 in
set_option maxRecDepth 100000 in
theorem qs_X10_readBoth_5 {k_X10_readBoth : Nat → Int32 → kw_T → Nat → kw_R → kw_I → kw_L → (kw_I → Prop) → Prop} {k_X10_readPlain : Nat → Int32 → kw_T → Nat → kw_R → kw_I → kw_L → (kw_I → Prop) → Prop} {k_X10_readTest : Nat → Int32 → kw_T → Nat → kw_R → kw_I → kw_L → (kw_I → Prop) → Prop} {a0 : Nat} {x1 : Int32} {T : kw_T} {n : Nat} {r : kw_R} {w : kw_L} {Q : kw_I → Prop} {E : kw_E} {G : kw_G} {d : Nat} (hm : kw_m E G cX10_readBoth 2 RX10 none (rm_X10_readBoth (d + 1)) "readBoth") (hr_X10_readBoth : ∀ (a0 : Nat) (x1 : Int32) (T : kw_T) (n : Nat) (r : kw_R) (i : kw_I) (w : kw_L) (Q : kw_I → Prop), T a0 = (0, 10) → k_X10_readBoth a0 x1 T n r i w Q → kw_Met E.2.1 G yX10_readBoth cX10_readBoth 2 none (rm_X10_readBoth d) [kw_a a0, kw_i x1] (T, n, r, i, w) (kw_PV (fun T' n' r' i' w' => T = T' ∧ n = n' ∧ r = r' ∧ w = w' ∧ Q i'))) (hr_X10_readPlain : ∀ (a0 : Nat) (x1 : Int32) (T : kw_T) (n : Nat) (r : kw_R) (i : kw_I) (w : kw_L) (Q : kw_I → Prop), T a0 = (0, 10) → k_X10_readPlain a0 x1 T n r i w Q → kw_Met E.2.1 G yX10_readPlain cX10_readPlain 4 none (rm_X10_readBoth d) [kw_a a0, kw_i x1] (T, n, r, i, w) (kw_PV (fun T' n' r' i' w' => T = T' ∧ n = n' ∧ r = r' ∧ w = w' ∧ Q i'))) (hr_X10_readTest : ∀ (a0 : Nat) (x1 : Int32) (T : kw_T) (n : Nat) (r : kw_R) (i : kw_I) (w : kw_L) (Q : kw_I → Prop), T a0 = (0, 10) → k_X10_readTest a0 x1 T n r i w Q → kw_Met E.2.1 G yX10_readTest cX10_readTest 2 none (rm_X10_readBoth d) [kw_a a0, kw_i x1] (T, n, r, i, w) (kw_PV (fun T' n' r' i' w' => T = T' ∧ n = n' ∧ r = r' ∧ w = w' ∧ Q i'))) (h0 : T a0 = (0, 10))    {k5 : kw_I → Prop} (hk5 : ∀ (i : kw_I), k5 i → kw_K E G 2 0 0 (kw_Z E G 0 0 (kw_PV (fun T' n' r' i' w' => T = T' ∧ n = n' ∧ r = r' ∧ w = w' ∧ Q i'))) 5 [(0, kw_a a0), (1, kw_i x1)] [] T n r i w) (i : kw_I) (h : s_X10_readBoth_5 k_X10_readBoth k_X10_readPlain k_X10_readTest a0 x1 T n r w Q  k5 i) : kw_K E G 2 0 0 (kw_Z E G 0 0 (kw_PV (fun T' n' r' i' w' => T = T' ∧ n = n' ∧ r = r' ∧ w = w' ∧ Q i'))) 5 [(0, kw_a a0), (1, kw_i x1)] [] T n r i w := by
  refine kk_aload_n hm.1 0 dX10_readBoth_5 rfl rfl ?_
  refine kk_iconst (v := (4 : Int32)) hm.1 dX10_readBoth_6 (by decide) ?_
  refine kk_callVi (cs' := 0) (sl' := 0) (st := []) hm.1 cv_X10_139 (t_X10_takes0 h0 h) dX10_readBoth_7 h0 rfl rfl hm.2.2.1 (rmi_X10_readBoth d (by decide) (by decide)) ⟨Nat.le_refl _, Nat.le_refl _⟩ rfl rfl (Nat.le_of_ble_eq_true rfl) rfl ?_
  rintro v7 _ _ _ i7 _ ⟨rfl, rfl, rfl, rfl, h⟩
  refine kk_if_eq (tgt := 21) hm.1 dX10_readBoth_10 (by decide) (fun c10 => ?_) (fun c10 => ?_)
  · have h := h.1 c10
    exact kk_vret hm.1 hm.2.1 dX10_readBoth_21 ⟨rfl, rfl, rfl, rfl, rfl, h⟩
  · have h := h.2 c10
    refine kk_aload_n hm.1 0 dX10_readBoth_13 rfl rfl ?_
    refine kk_iload_n hm.1 1 dX10_readBoth_14 rfl rfl ?_
    refine kk_callVv (cs' := 0) (sl' := 0) (st := []) hm.1 cv_X10_161 (hr_X10_readPlain a0 x1 T n r i7 w _ h0 h) dX10_readBoth_15 h0 rfl rfl hm.2.2.1 (rms_X10_readBoth d (by decide)) ⟨Nat.le_refl _, Nat.le_refl _⟩ rfl rfl (Nat.le_of_ble_eq_true rfl) rfl ?_
    rintro _ _ _ i15 _ ⟨rfl, rfl, rfl, rfl, h⟩
    refine kk_goto (tgt := 5) hm.1 dX10_readBoth_18 (by decide) ?_
    exact hk5 i15 h
set_option maxHeartbeats 4000000 in
set_option maxRecDepth 100000 in
theorem q_X10_readBoth_5 {k_X10_readBoth : Nat → Int32 → kw_T → Nat → kw_R → kw_I → kw_L → (kw_I → Prop) → Prop} {k_X10_readPlain : Nat → Int32 → kw_T → Nat → kw_R → kw_I → kw_L → (kw_I → Prop) → Prop} {k_X10_readTest : Nat → Int32 → kw_T → Nat → kw_R → kw_I → kw_L → (kw_I → Prop) → Prop} {a0 : Nat} {x1 : Int32} {T : kw_T} {n : Nat} {r : kw_R} {w : kw_L} {Q : kw_I → Prop} {E : kw_E} {G : kw_G} {d : Nat} (hm : kw_m E G cX10_readBoth 2 RX10 none (rm_X10_readBoth (d + 1)) "readBoth") (hr_X10_readBoth : ∀ (a0 : Nat) (x1 : Int32) (T : kw_T) (n : Nat) (r : kw_R) (i : kw_I) (w : kw_L) (Q : kw_I → Prop), T a0 = (0, 10) → k_X10_readBoth a0 x1 T n r i w Q → kw_Met E.2.1 G yX10_readBoth cX10_readBoth 2 none (rm_X10_readBoth d) [kw_a a0, kw_i x1] (T, n, r, i, w) (kw_PV (fun T' n' r' i' w' => T = T' ∧ n = n' ∧ r = r' ∧ w = w' ∧ Q i'))) (hr_X10_readPlain : ∀ (a0 : Nat) (x1 : Int32) (T : kw_T) (n : Nat) (r : kw_R) (i : kw_I) (w : kw_L) (Q : kw_I → Prop), T a0 = (0, 10) → k_X10_readPlain a0 x1 T n r i w Q → kw_Met E.2.1 G yX10_readPlain cX10_readPlain 4 none (rm_X10_readBoth d) [kw_a a0, kw_i x1] (T, n, r, i, w) (kw_PV (fun T' n' r' i' w' => T = T' ∧ n = n' ∧ r = r' ∧ w = w' ∧ Q i'))) (hr_X10_readTest : ∀ (a0 : Nat) (x1 : Int32) (T : kw_T) (n : Nat) (r : kw_R) (i : kw_I) (w : kw_L) (Q : kw_I → Prop), T a0 = (0, 10) → k_X10_readTest a0 x1 T n r i w Q → kw_Met E.2.1 G yX10_readTest cX10_readTest 2 none (rm_X10_readBoth d) [kw_a a0, kw_i x1] (T, n, r, i, w) (kw_PV (fun T' n' r' i' w' => T = T' ∧ n = n' ∧ r = r' ∧ w = w' ∧ Q i'))) (h0 : T a0 = (0, 10))    : ∀ (N : Nat) (i : kw_I), w_X10_readBoth_5 k_X10_readBoth k_X10_readPlain k_X10_readTest a0 x1 T n r w Q  N i → kw_K E G 2 0 0 (kw_Z E G 0 0 (kw_PV (fun T' n' r' i' w' => T = T' ∧ n = n' ∧ r = r' ∧ w = w' ∧ Q i'))) 5 [(0, kw_a a0), (1, kw_i x1)] [] T n r i w := by
  intro N
  induction N with
  | zero => intro i h; exact h.elim
  | succ N ih => intro i h; exact qs_X10_readBoth_5 hm hr_X10_readBoth hr_X10_readPlain hr_X10_readTest h0  ih i h
set_option maxHeartbeats 4000000 in
set_option maxRecDepth 100000 in
theorem t_X10_readBoth {l : Launch} {G : kw_G} {d : Nat} {k_X10_readBoth : Nat → Int32 → kw_T → Nat → kw_R → kw_I → kw_L → (kw_I → Prop) → Prop} {k_X10_readPlain : Nat → Int32 → kw_T → Nat → kw_R → kw_I → kw_L → (kw_I → Prop) → Prop} {k_X10_readTest : Nat → Int32 → kw_T → Nat → kw_R → kw_I → kw_L → (kw_I → Prop) → Prop} {a0 : Nat} {x1 : Int32} {T : kw_T} {n : Nat} {r : kw_R} {i : kw_I} {w : kw_L} {Q : kw_I → Prop} (hr_X10_readBoth : ∀ (a0 : Nat) (x1 : Int32) (T : kw_T) (n : Nat) (r : kw_R) (i : kw_I) (w : kw_L) (Q : kw_I → Prop), T a0 = (0, 10) → k_X10_readBoth a0 x1 T n r i w Q → kw_Met l G yX10_readBoth cX10_readBoth 2 none (rm_X10_readBoth d) [kw_a a0, kw_i x1] (T, n, r, i, w) (kw_PV (fun T' n' r' i' w' => T = T' ∧ n = n' ∧ r = r' ∧ w = w' ∧ Q i'))) (hr_X10_readPlain : ∀ (a0 : Nat) (x1 : Int32) (T : kw_T) (n : Nat) (r : kw_R) (i : kw_I) (w : kw_L) (Q : kw_I → Prop), T a0 = (0, 10) → k_X10_readPlain a0 x1 T n r i w Q → kw_Met l G yX10_readPlain cX10_readPlain 4 none (rm_X10_readBoth d) [kw_a a0, kw_i x1] (T, n, r, i, w) (kw_PV (fun T' n' r' i' w' => T = T' ∧ n = n' ∧ r = r' ∧ w = w' ∧ Q i'))) (hr_X10_readTest : ∀ (a0 : Nat) (x1 : Int32) (T : kw_T) (n : Nat) (r : kw_R) (i : kw_I) (w : kw_L) (Q : kw_I → Prop), T a0 = (0, 10) → k_X10_readTest a0 x1 T n r i w Q → kw_Met l G yX10_readTest cX10_readTest 2 none (rm_X10_readBoth d) [kw_a a0, kw_i x1] (T, n, r, i, w) (kw_PV (fun T' n' r' i' w' => T = T' ∧ n = n' ∧ r = r' ∧ w = w' ∧ Q i'))) (h0 : T a0 = (0, 10)) (h : w_X10_readBoth k_X10_readBoth k_X10_readPlain k_X10_readTest a0 x1 T n r i w Q) : kw_Met l G yX10_readBoth cX10_readBoth 2 none (rm_X10_readBoth (d + 1)) [kw_a a0, kw_i x1] (T, n, r, i, w) (kw_PV (fun T' n' r' i' w' => T = T' ∧ n = n' ∧ r = r' ∧ w = w' ∧ Q i')) := by
  refine kw_Met.of (by decide) (Nat.le_of_ble_eq_true rfl) fun E hl hRm hE hT hnm => ?_
  have hm : kw_m E G cX10_readBoth 2 RX10 none (rm_X10_readBoth (d + 1)) "readBoth" := ⟨hE, hT, hRm, hnm⟩
  subst hl
  show kw_K E G 2 0 0 (kw_Z E G 0 0 (kw_PV (fun T' n' r' i' w' => T = T' ∧ n = n' ∧ r = r' ∧ w = w' ∧ Q i'))) 0 [(0, kw_a a0), (1, kw_i x1)] [] T n r i w
  refine kk_aload_n hm.1 0 dX10_readBoth_0 rfl rfl ?_
  refine kk_iload_n hm.1 1 dX10_readBoth_1 rfl rfl ?_
  refine kk_callVv (cs' := 0) (sl' := 0) (st := []) hm.1 cv_X10_161 (hr_X10_readPlain a0 x1 T n r i w _ h0 h) dX10_readBoth_2 h0 rfl rfl hm.2.2.1 (rms_X10_readBoth d (by decide)) ⟨Nat.le_refl _, Nat.le_refl _⟩ rfl rfl (Nat.le_of_ble_eq_true rfl) rfl ?_
  rintro _ _ _ i2 _ ⟨rfl, rfl, rfl, rfl, h⟩
  obtain ⟨N, h⟩ := h
  exact q_X10_readBoth_5 hm hr_X10_readBoth hr_X10_readPlain hr_X10_readTest h0   N i2 h
def w_X10_readPlain_52 (k_X10_readBoth : Nat → Int32 → kw_T → Nat → kw_R → kw_I → kw_L → (kw_I → Prop) → Prop) (k_X10_readPlain : Nat → Int32 → kw_T → Nat → kw_R → kw_I → kw_L → (kw_I → Prop) → Prop) (k_X10_readTest : Nat → Int32 → kw_T → Nat → kw_R → kw_I → kw_L → (kw_I → Prop) → Prop) (a0 : Nat) (x1 : Int32) (T : kw_T) (n : Nat) (r : kw_R) (w : kw_L) (Q : kw_I → Prop)  (i : kw_I) : Prop :=
  w_X10_fine a0 T n r i w (fun v53 => (¬ v53 = 0 → ∀ i67 : kw_I, i67 = kw_st i a0 15 ((i a0 15) + (1 : Int32)) → (k_X10_readTest a0 (x1 + (1 : Int32)) T n r i67 w (fun i74 => w_X10_sign (41 : Int32) T n r i74 w (fun v80 => w_X10_must a0 v80 T n r i74 w (fun i83 => Q i83))))) ∧ (v53 = 0 → Q i))
def w_X10_readPlain_127 (k_X10_readBoth : Nat → Int32 → kw_T → Nat → kw_R → kw_I → kw_L → (kw_I → Prop) → Prop) (k_X10_readPlain : Nat → Int32 → kw_T → Nat → kw_R → kw_I → kw_L → (kw_I → Prop) → Prop) (k_X10_readTest : Nat → Int32 → kw_T → Nat → kw_R → kw_I → kw_L → (kw_I → Prop) → Prop) (a0 : Nat) (x1 : Int32) (T : kw_T) (n : Nat) (r : kw_R) (w : kw_L) (Q : kw_I → Prop)  (i : kw_I) : Prop :=
  ∃ dd, dd ≤ 60 ∧ (g_X10_readPart dd).2.1 a0 x1 T n r i w (fun i129 => Q i129)
def s_X10_readPlain_2 (k_X10_readBoth : Nat → Int32 → kw_T → Nat → kw_R → kw_I → kw_L → (kw_I → Prop) → Prop) (k_X10_readPlain : Nat → Int32 → kw_T → Nat → kw_R → kw_I → kw_L → (kw_I → Prop) → Prop) (k_X10_readTest : Nat → Int32 → kw_T → Nat → kw_R → kw_I → kw_L → (kw_I → Prop) → Prop) (a0 : Nat) (x1 : Int32) (T : kw_T) (n : Nat) (r : kw_R) (w : kw_L) (Q : kw_I → Prop)  (k2 : Int32 → kw_I → Prop) (x2 : Int32) (i : kw_I) : Prop :=
  (x2 = 0 → w_X10_fine a0 T n r i w (fun v16 => (¬ v16 = 0 → kw_in T 1 (r a0 11) (i a0 15) ∧ (w_X10_sign (40 : Int32) T n r i w (fun v36 => (¬ (i (r a0 11) ((i a0 15)).toNatClampNeg) = v36 → ∃ dd, dd ≤ 60 ∧ (g_X10_readPart dd).2.1 a0 x1 T n r i w (fun i91 => w_X10_sign (60 : Int32) T n r i91 w (fun v97 => w_X10_takes0 a0 v97 T n r i91 w (fun v100 i100 => (¬ v100 = 0 → w_X10_readPlain_127 k_X10_readBoth k_X10_readPlain k_X10_readTest a0 x1 T n r w Q  i100) ∧ (v100 = 0 → w_X10_sign (62 : Int32) T n r i100 w (fun v109 => w_X10_takes0 a0 v109 T n r i100 w (fun v112 i112 => (¬ v112 = 0 → w_X10_readPlain_127 k_X10_readBoth k_X10_readPlain k_X10_readTest a0 x1 T n r w Q  i112) ∧ (v112 = 0 → w_X10_sign (61 : Int32) T n r i112 w (fun v121 => w_X10_must a0 v121 T n r i112 w (fun i124 => w_X10_readPlain_127 k_X10_readBoth k_X10_readPlain k_X10_readTest a0 x1 T n r w Q  i124)))))))))) ∧ ((i (r a0 11) ((i a0 15)).toNatClampNeg) = v36 → (¬ x1 = (8 : Int32) → w_X10_readPlain_52 k_X10_readBoth k_X10_readPlain k_X10_readTest a0 x1 T n r w Q  i) ∧ (x1 = (8 : Int32) → w_X10_faults a0 T n r i w (fun i49 => w_X10_readPlain_52 k_X10_readBoth k_X10_readPlain k_X10_readTest a0 x1 T n r w Q  i49)))))) ∧ (v16 = 0 → Q i))) ∧ (¬ x2 = 0 → w_X10_takes0 a0 (5 : Int32) T n r i w (fun v8 i8 => k2 v8 i8))
def w_X10_readPlain_2 (k_X10_readBoth : Nat → Int32 → kw_T → Nat → kw_R → kw_I → kw_L → (kw_I → Prop) → Prop) (k_X10_readPlain : Nat → Int32 → kw_T → Nat → kw_R → kw_I → kw_L → (kw_I → Prop) → Prop) (k_X10_readTest : Nat → Int32 → kw_T → Nat → kw_R → kw_I → kw_L → (kw_I → Prop) → Prop) (a0 : Nat) (x1 : Int32) (T : kw_T) (n : Nat) (r : kw_R) (w : kw_L) (Q : kw_I → Prop)  : Nat → Int32 → kw_I → Prop
  | 0 => fun _ _ => False
  | N + 1 => s_X10_readPlain_2 k_X10_readBoth k_X10_readPlain k_X10_readTest a0 x1 T n r w Q  (w_X10_readPlain_2 k_X10_readBoth k_X10_readPlain k_X10_readTest a0 x1 T n r w Q  N)
def w_X10_readPlain (k_X10_readBoth : Nat → Int32 → kw_T → Nat → kw_R → kw_I → kw_L → (kw_I → Prop) → Prop) (k_X10_readPlain : Nat → Int32 → kw_T → Nat → kw_R → kw_I → kw_L → (kw_I → Prop) → Prop) (k_X10_readTest : Nat → Int32 → kw_T → Nat → kw_R → kw_I → kw_L → (kw_I → Prop) → Prop) (a0 : Nat) (x1 : Int32) (T : kw_T) (n : Nat) (r : kw_R) (i : kw_I) (w : kw_L) (Q : kw_I → Prop) : Prop :=
  ∃ N, w_X10_readPlain_2 k_X10_readBoth k_X10_readPlain k_X10_readTest a0 x1 T n r w Q  N ((1 : Int32)) i
set_option maxHeartbeats 4000000 in
set_option maxRecDepth 100000 in
theorem q_X10_readPlain_52 {k_X10_readBoth : Nat → Int32 → kw_T → Nat → kw_R → kw_I → kw_L → (kw_I → Prop) → Prop} {k_X10_readPlain : Nat → Int32 → kw_T → Nat → kw_R → kw_I → kw_L → (kw_I → Prop) → Prop} {k_X10_readTest : Nat → Int32 → kw_T → Nat → kw_R → kw_I → kw_L → (kw_I → Prop) → Prop} {a0 : Nat} {x1 : Int32} {T : kw_T} {n : Nat} {r : kw_R} {w : kw_L} {Q : kw_I → Prop} {E : kw_E} {G : kw_G} {d : Nat} (hm : kw_m E G cX10_readPlain 4 RX10 none (rm_X10_readBoth (d + 1)) "readPlain") (hr_X10_readBoth : ∀ (a0 : Nat) (x1 : Int32) (T : kw_T) (n : Nat) (r : kw_R) (i : kw_I) (w : kw_L) (Q : kw_I → Prop), T a0 = (0, 10) → k_X10_readBoth a0 x1 T n r i w Q → kw_Met E.2.1 G yX10_readBoth cX10_readBoth 2 none (rm_X10_readBoth d) [kw_a a0, kw_i x1] (T, n, r, i, w) (kw_PV (fun T' n' r' i' w' => T = T' ∧ n = n' ∧ r = r' ∧ w = w' ∧ Q i'))) (hr_X10_readPlain : ∀ (a0 : Nat) (x1 : Int32) (T : kw_T) (n : Nat) (r : kw_R) (i : kw_I) (w : kw_L) (Q : kw_I → Prop), T a0 = (0, 10) → k_X10_readPlain a0 x1 T n r i w Q → kw_Met E.2.1 G yX10_readPlain cX10_readPlain 4 none (rm_X10_readBoth d) [kw_a a0, kw_i x1] (T, n, r, i, w) (kw_PV (fun T' n' r' i' w' => T = T' ∧ n = n' ∧ r = r' ∧ w = w' ∧ Q i'))) (hr_X10_readTest : ∀ (a0 : Nat) (x1 : Int32) (T : kw_T) (n : Nat) (r : kw_R) (i : kw_I) (w : kw_L) (Q : kw_I → Prop), T a0 = (0, 10) → k_X10_readTest a0 x1 T n r i w Q → kw_Met E.2.1 G yX10_readTest cX10_readTest 2 none (rm_X10_readBoth d) [kw_a a0, kw_i x1] (T, n, r, i, w) (kw_PV (fun T' n' r' i' w' => T = T' ∧ n = n' ∧ r = r' ∧ w = w' ∧ Q i'))) (h0 : T a0 = (0, 10))    (i : kw_I) (h : w_X10_readPlain_52 k_X10_readBoth k_X10_readPlain k_X10_readTest a0 x1 T n r w Q  i) : kw_K E G 4 0 0 (kw_Z E G 0 0 (kw_PV (fun T' n' r' i' w' => T = T' ∧ n = n' ∧ r = r' ∧ w = w' ∧ Q i'))) 52 [(0, kw_a a0), (1, kw_i x1)] [] T n r i w := by
  refine kk_aload_n hm.1 0 dX10_readPlain_52 rfl rfl ?_
  refine kk_callVi (cs' := 0) (sl' := 0) (st := []) hm.1 cv_X10_132 (t_X10_fine h0 h) dX10_readPlain_53 h0 rfl rfl hm.2.2.1 (rmi_X10_readBoth d (by decide) (by decide)) ⟨Nat.le_refl _, Nat.le_refl _⟩ rfl rfl (Nat.le_of_ble_eq_true rfl) rfl ?_
  rintro v53 _ _ _ _ _ ⟨rfl, rfl, rfl, rfl, rfl, h⟩
  refine kk_if_ne (tgt := 60) hm.1 dX10_readPlain_56 (by decide) (fun c56 => ?_) (fun c56 => ?_)
  · have h := h.1 c56
    refine kk_aload_n hm.1 0 dX10_readPlain_60 rfl rfl ?_
    refine kk_dup hm.1 dX10_readPlain_61 rfl ?_
    refine kk_getI hm.1 ff_X10_136 dX10_readPlain_62 h0 ?_
    refine kk_iconst (v := (1 : Int32)) hm.1 dX10_readPlain_65 (by decide) ?_
    refine kk_iadd hm.1 dX10_readPlain_66 ?_
    refine kn_putI hm.1 fp_X10_136 dX10_readPlain_67 h0 (fun i67 e67 => ?_)
    have h := h i67 e67
    refine kk_aload_n hm.1 0 dX10_readPlain_70 rfl rfl ?_
    refine kk_iload_n hm.1 1 dX10_readPlain_71 rfl rfl ?_
    refine kk_iconst (v := (1 : Int32)) hm.1 dX10_readPlain_72 (by decide) ?_
    refine kk_iadd hm.1 dX10_readPlain_73 ?_
    refine kk_callVv (cs' := 0) (sl' := 0) (st := []) hm.1 cv_X10_155 (hr_X10_readTest a0 (x1 + (1 : Int32)) T n r i67 w _ h0 h) dX10_readPlain_74 h0 rfl rfl hm.2.2.1 (rms_X10_readBoth d (by decide)) ⟨Nat.le_refl _, Nat.le_refl _⟩ rfl rfl (Nat.le_of_ble_eq_true rfl) rfl ?_
    rintro _ _ _ i74 _ ⟨rfl, rfl, rfl, rfl, h⟩
    refine kk_aload_n hm.1 0 dX10_readPlain_77 rfl rfl ?_
    refine kk_bipush (v := (41 : Int32)) hm.1 dX10_readPlain_78 (by decide) ?_
    refine kk_callSi (cs' := 0) (sl' := 0) (st := [kw_a a0]) hm.1 cs_X10_164 (t_X10_sign h) dX10_readPlain_80 rfl hm.2.2.1 (rmi_X10_readBoth d (by decide) (by decide)) ⟨Nat.le_refl _, Nat.le_refl _⟩ rfl rfl (Nat.le_of_ble_eq_true rfl) rfl ?_
    rintro v80 _ _ _ _ _ ⟨rfl, rfl, rfl, rfl, rfl, h⟩
    refine kk_callVv (cs' := 0) (sl' := 0) (st := []) hm.1 cv_X10_148 (t_X10_must h0 h) dX10_readPlain_83 h0 rfl rfl hm.2.2.1 (rmi_X10_readBoth d (by decide) (by decide)) ⟨Nat.le_refl _, Nat.le_refl _⟩ rfl rfl (Nat.le_of_ble_eq_true rfl) rfl ?_
    rintro _ _ _ i83 _ ⟨rfl, rfl, rfl, rfl, h⟩
    refine kk_goto (tgt := 132) hm.1 dX10_readPlain_86 (by decide) ?_
    exact kk_vret hm.1 hm.2.1 dX10_readPlain_132 ⟨rfl, rfl, rfl, rfl, rfl, h⟩
  · have h := h.2 c56
    exact kk_vret hm.1 hm.2.1 dX10_readPlain_59 ⟨rfl, rfl, rfl, rfl, rfl, h⟩
set_option maxHeartbeats 4000000 in
set_option maxRecDepth 100000 in
theorem q_X10_readPlain_127 {k_X10_readBoth : Nat → Int32 → kw_T → Nat → kw_R → kw_I → kw_L → (kw_I → Prop) → Prop} {k_X10_readPlain : Nat → Int32 → kw_T → Nat → kw_R → kw_I → kw_L → (kw_I → Prop) → Prop} {k_X10_readTest : Nat → Int32 → kw_T → Nat → kw_R → kw_I → kw_L → (kw_I → Prop) → Prop} {a0 : Nat} {x1 : Int32} {T : kw_T} {n : Nat} {r : kw_R} {w : kw_L} {Q : kw_I → Prop} {E : kw_E} {G : kw_G} {d : Nat} (hm : kw_m E G cX10_readPlain 4 RX10 none (rm_X10_readBoth (d + 1)) "readPlain") (hr_X10_readBoth : ∀ (a0 : Nat) (x1 : Int32) (T : kw_T) (n : Nat) (r : kw_R) (i : kw_I) (w : kw_L) (Q : kw_I → Prop), T a0 = (0, 10) → k_X10_readBoth a0 x1 T n r i w Q → kw_Met E.2.1 G yX10_readBoth cX10_readBoth 2 none (rm_X10_readBoth d) [kw_a a0, kw_i x1] (T, n, r, i, w) (kw_PV (fun T' n' r' i' w' => T = T' ∧ n = n' ∧ r = r' ∧ w = w' ∧ Q i'))) (hr_X10_readPlain : ∀ (a0 : Nat) (x1 : Int32) (T : kw_T) (n : Nat) (r : kw_R) (i : kw_I) (w : kw_L) (Q : kw_I → Prop), T a0 = (0, 10) → k_X10_readPlain a0 x1 T n r i w Q → kw_Met E.2.1 G yX10_readPlain cX10_readPlain 4 none (rm_X10_readBoth d) [kw_a a0, kw_i x1] (T, n, r, i, w) (kw_PV (fun T' n' r' i' w' => T = T' ∧ n = n' ∧ r = r' ∧ w = w' ∧ Q i'))) (hr_X10_readTest : ∀ (a0 : Nat) (x1 : Int32) (T : kw_T) (n : Nat) (r : kw_R) (i : kw_I) (w : kw_L) (Q : kw_I → Prop), T a0 = (0, 10) → k_X10_readTest a0 x1 T n r i w Q → kw_Met E.2.1 G yX10_readTest cX10_readTest 2 none (rm_X10_readBoth d) [kw_a a0, kw_i x1] (T, n, r, i, w) (kw_PV (fun T' n' r' i' w' => T = T' ∧ n = n' ∧ r = r' ∧ w = w' ∧ Q i'))) (h0 : T a0 = (0, 10))    (i : kw_I) (h : w_X10_readPlain_127 k_X10_readBoth k_X10_readPlain k_X10_readTest a0 x1 T n r w Q  i) : kw_K E G 4 0 0 (kw_Z E G 0 0 (kw_PV (fun T' n' r' i' w' => T = T' ∧ n = n' ∧ r = r' ∧ w = w' ∧ Q i'))) 127 [(0, kw_a a0), (1, kw_i x1)] [] T n r i w := by
  refine kk_aload_n hm.1 0 dX10_readPlain_127 rfl rfl ?_
  refine kk_iload_n hm.1 1 dX10_readPlain_128 rfl rfl ?_
  obtain ⟨dd, hd, h⟩ := h
  refine kk_callVv (cs' := 0) (sl' := 0) (st := []) hm.1 cv_X10_152 ((tg_X10_readPart E.2.1 G dd).2.1 a0 x1 T n r i w _ h0 h) dX10_readPlain_129 h0 rfl rfl hm.2.2.1 (rmo_X10_readPart hd (by show 65 ≤ 65 + (d + 1); omega) (by show 3144 ≤ 3144 + 50 * (d + 1); omega)) ⟨Nat.le_refl _, Nat.le_refl _⟩ rfl rfl (Nat.le_of_ble_eq_true rfl) rfl ?_
  rintro _ _ _ i129 _ ⟨rfl, rfl, rfl, rfl, h⟩
  exact kk_vret hm.1 hm.2.1 dX10_readPlain_132 ⟨rfl, rfl, rfl, rfl, rfl, h⟩
set_option maxHeartbeats 4000000 in
set_option maxRecDepth 100000 in
theorem qs_X10_readPlain_2 {k_X10_readBoth : Nat → Int32 → kw_T → Nat → kw_R → kw_I → kw_L → (kw_I → Prop) → Prop} {k_X10_readPlain : Nat → Int32 → kw_T → Nat → kw_R → kw_I → kw_L → (kw_I → Prop) → Prop} {k_X10_readTest : Nat → Int32 → kw_T → Nat → kw_R → kw_I → kw_L → (kw_I → Prop) → Prop} {a0 : Nat} {x1 : Int32} {T : kw_T} {n : Nat} {r : kw_R} {w : kw_L} {Q : kw_I → Prop} {E : kw_E} {G : kw_G} {d : Nat} (hm : kw_m E G cX10_readPlain 4 RX10 none (rm_X10_readBoth (d + 1)) "readPlain") (hr_X10_readBoth : ∀ (a0 : Nat) (x1 : Int32) (T : kw_T) (n : Nat) (r : kw_R) (i : kw_I) (w : kw_L) (Q : kw_I → Prop), T a0 = (0, 10) → k_X10_readBoth a0 x1 T n r i w Q → kw_Met E.2.1 G yX10_readBoth cX10_readBoth 2 none (rm_X10_readBoth d) [kw_a a0, kw_i x1] (T, n, r, i, w) (kw_PV (fun T' n' r' i' w' => T = T' ∧ n = n' ∧ r = r' ∧ w = w' ∧ Q i'))) (hr_X10_readPlain : ∀ (a0 : Nat) (x1 : Int32) (T : kw_T) (n : Nat) (r : kw_R) (i : kw_I) (w : kw_L) (Q : kw_I → Prop), T a0 = (0, 10) → k_X10_readPlain a0 x1 T n r i w Q → kw_Met E.2.1 G yX10_readPlain cX10_readPlain 4 none (rm_X10_readBoth d) [kw_a a0, kw_i x1] (T, n, r, i, w) (kw_PV (fun T' n' r' i' w' => T = T' ∧ n = n' ∧ r = r' ∧ w = w' ∧ Q i'))) (hr_X10_readTest : ∀ (a0 : Nat) (x1 : Int32) (T : kw_T) (n : Nat) (r : kw_R) (i : kw_I) (w : kw_L) (Q : kw_I → Prop), T a0 = (0, 10) → k_X10_readTest a0 x1 T n r i w Q → kw_Met E.2.1 G yX10_readTest cX10_readTest 2 none (rm_X10_readBoth d) [kw_a a0, kw_i x1] (T, n, r, i, w) (kw_PV (fun T' n' r' i' w' => T = T' ∧ n = n' ∧ r = r' ∧ w = w' ∧ Q i'))) (h0 : T a0 = (0, 10))    {k2 : Int32 → kw_I → Prop} (hk2 : ∀ (x2 : Int32) (i : kw_I), k2 x2 i → kw_K E G 4 0 0 (kw_Z E G 0 0 (kw_PV (fun T' n' r' i' w' => T = T' ∧ n = n' ∧ r = r' ∧ w = w' ∧ Q i'))) 2 [(0, kw_a a0), (1, kw_i x1), (2, kw_i x2)] [] T n r i w) (x2 : Int32) (i : kw_I) (h : s_X10_readPlain_2 k_X10_readBoth k_X10_readPlain k_X10_readTest a0 x1 T n r w Q  k2 x2 i) : kw_K E G 4 0 0 (kw_Z E G 0 0 (kw_PV (fun T' n' r' i' w' => T = T' ∧ n = n' ∧ r = r' ∧ w = w' ∧ Q i'))) 2 [(0, kw_a a0), (1, kw_i x1), (2, kw_i x2)] [] T n r i w := by
  refine kk_iload_n hm.1 2 dX10_readPlain_2 rfl rfl ?_
  refine kk_if_eq (tgt := 15) hm.1 dX10_readPlain_3 (by decide) (fun c3 => ?_) (fun c3 => ?_)
  · have h := h.1 c3
    refine kk_aload_n hm.1 0 dX10_readPlain_15 rfl rfl ?_
    refine kk_callVi (cs' := 0) (sl' := 0) (st := []) hm.1 cv_X10_132 (t_X10_fine h0 h) dX10_readPlain_16 h0 rfl rfl hm.2.2.1 (rmi_X10_readBoth d (by decide) (by decide)) ⟨Nat.le_refl _, Nat.le_refl _⟩ rfl rfl (Nat.le_of_ble_eq_true rfl) rfl ?_
    rintro v16 _ _ _ _ _ ⟨rfl, rfl, rfl, rfl, rfl, h⟩
    refine kk_if_ne (tgt := 23) hm.1 dX10_readPlain_19 (by decide) (fun c19 => ?_) (fun c19 => ?_)
    · have h := h.1 c19
      refine kk_aload_n hm.1 0 dX10_readPlain_23 rfl rfl ?_
      refine kk_getR hm.1 ff_X10_40 dX10_readPlain_24 h0 ?_
      refine kk_aload_n hm.1 0 dX10_readPlain_27 rfl rfl ?_
      refine kk_getI hm.1 ff_X10_136 dX10_readPlain_28 h0 ?_
      obtain ⟨o31, h⟩ := h
      refine kk_iaload hm.1 dX10_readPlain_31 o31 ?_
      refine kk_istore_n (L' := [(3, kw_i (i (r a0 11) ((i a0 15)).toNatClampNeg)), (0, kw_a a0), (1, kw_i x1), (2, kw_i x2)]) hm.1 dX10_readPlain_32 rfl (by decide) rfl ?_
      refine kk_iload_n hm.1 0 dX10_readPlain_33 rfl rfl ?_
      refine kk_bipush (v := (40 : Int32)) hm.1 dX10_readPlain_34 (by decide) ?_
      refine kk_callSi (cs' := 0) (sl' := 0) (st := [kw_i (i (r a0 11) ((i a0 15)).toNatClampNeg)]) hm.1 cs_X10_164 (t_X10_sign h) dX10_readPlain_36 rfl hm.2.2.1 (rmi_X10_readBoth d (by decide) (by decide)) ⟨Nat.le_refl _, Nat.le_refl _⟩ rfl rfl (Nat.le_of_ble_eq_true rfl) rfl ?_
      rintro v36 _ _ _ _ _ ⟨rfl, rfl, rfl, rfl, rfl, h⟩
      refine kk_icmp_ne (tgt := 89) hm.1 dX10_readPlain_39 (by decide) (fun c39 => ?_) (fun c39 => ?_)
      · have h := h.1 c39
        refine kk_aload_n hm.1 1 dX10_readPlain_89 rfl rfl ?_
        refine kk_iload_n hm.1 2 dX10_readPlain_90 rfl rfl ?_
        obtain ⟨dd, hd, h⟩ := h
        refine kk_callVv (cs' := 0) (sl' := 0) (st := []) hm.1 cv_X10_152 ((tg_X10_readPart E.2.1 G dd).2.1 a0 x1 T n r i w _ h0 h) dX10_readPlain_91 h0 rfl rfl hm.2.2.1 (rmo_X10_readPart hd (by show 65 ≤ 65 + (d + 1); omega) (by show 3144 ≤ 3144 + 50 * (d + 1); omega)) ⟨Nat.le_refl _, Nat.le_refl _⟩ rfl rfl (Nat.le_of_ble_eq_true rfl) rfl ?_
        rintro _ _ _ i91 _ ⟨rfl, rfl, rfl, rfl, h⟩
        refine kk_aload_n hm.1 1 dX10_readPlain_94 rfl rfl ?_
        refine kk_bipush (v := (60 : Int32)) hm.1 dX10_readPlain_95 (by decide) ?_
        refine kk_callSi (cs' := 0) (sl' := 0) (st := [kw_a a0]) hm.1 cs_X10_164 (t_X10_sign h) dX10_readPlain_97 rfl hm.2.2.1 (rmi_X10_readBoth d (by decide) (by decide)) ⟨Nat.le_refl _, Nat.le_refl _⟩ rfl rfl (Nat.le_of_ble_eq_true rfl) rfl ?_
        rintro v97 _ _ _ _ _ ⟨rfl, rfl, rfl, rfl, rfl, h⟩
        refine kk_callVi (cs' := 0) (sl' := 0) (st := []) hm.1 cv_X10_139 (t_X10_takes0 h0 h) dX10_readPlain_100 h0 rfl rfl hm.2.2.1 (rmi_X10_readBoth d (by decide) (by decide)) ⟨Nat.le_refl _, Nat.le_refl _⟩ rfl rfl (Nat.le_of_ble_eq_true rfl) rfl ?_
        rintro v100 _ _ _ i100 _ ⟨rfl, rfl, rfl, rfl, h⟩
        refine kk_if_ne (tgt := 127) hm.1 dX10_readPlain_103 (by decide) (fun c103 => ?_) (fun c103 => ?_)
        · have h := h.1 c103
          refine kk_loc (L' := [(0, kw_a a0), (1, kw_i x1)]) [1, 2] rfl ?_
          exact q_X10_readPlain_127 hm hr_X10_readBoth hr_X10_readPlain hr_X10_readTest h0   i100 h
        · have h := h.2 c103
          refine kk_aload_n hm.1 1 dX10_readPlain_106 rfl rfl ?_
          refine kk_bipush (v := (62 : Int32)) hm.1 dX10_readPlain_107 (by decide) ?_
          refine kk_callSi (cs' := 0) (sl' := 0) (st := [kw_a a0]) hm.1 cs_X10_164 (t_X10_sign h) dX10_readPlain_109 rfl hm.2.2.1 (rmi_X10_readBoth d (by decide) (by decide)) ⟨Nat.le_refl _, Nat.le_refl _⟩ rfl rfl (Nat.le_of_ble_eq_true rfl) rfl ?_
          rintro v109 _ _ _ _ _ ⟨rfl, rfl, rfl, rfl, rfl, h⟩
          refine kk_callVi (cs' := 0) (sl' := 0) (st := []) hm.1 cv_X10_139 (t_X10_takes0 h0 h) dX10_readPlain_112 h0 rfl rfl hm.2.2.1 (rmi_X10_readBoth d (by decide) (by decide)) ⟨Nat.le_refl _, Nat.le_refl _⟩ rfl rfl (Nat.le_of_ble_eq_true rfl) rfl ?_
          rintro v112 _ _ _ i112 _ ⟨rfl, rfl, rfl, rfl, h⟩
          refine kk_if_ne (tgt := 127) hm.1 dX10_readPlain_115 (by decide) (fun c115 => ?_) (fun c115 => ?_)
          · have h := h.1 c115
            refine kk_loc (L' := [(0, kw_a a0), (1, kw_i x1)]) [1, 2] rfl ?_
            exact q_X10_readPlain_127 hm hr_X10_readBoth hr_X10_readPlain hr_X10_readTest h0   i112 h
          · have h := h.2 c115
            refine kk_aload_n hm.1 1 dX10_readPlain_118 rfl rfl ?_
            refine kk_bipush (v := (61 : Int32)) hm.1 dX10_readPlain_119 (by decide) ?_
            refine kk_callSi (cs' := 0) (sl' := 0) (st := [kw_a a0]) hm.1 cs_X10_164 (t_X10_sign h) dX10_readPlain_121 rfl hm.2.2.1 (rmi_X10_readBoth d (by decide) (by decide)) ⟨Nat.le_refl _, Nat.le_refl _⟩ rfl rfl (Nat.le_of_ble_eq_true rfl) rfl ?_
            rintro v121 _ _ _ _ _ ⟨rfl, rfl, rfl, rfl, rfl, h⟩
            refine kk_callVv (cs' := 0) (sl' := 0) (st := []) hm.1 cv_X10_148 (t_X10_must h0 h) dX10_readPlain_124 h0 rfl rfl hm.2.2.1 (rmi_X10_readBoth d (by decide) (by decide)) ⟨Nat.le_refl _, Nat.le_refl _⟩ rfl rfl (Nat.le_of_ble_eq_true rfl) rfl ?_
            rintro _ _ _ i124 _ ⟨rfl, rfl, rfl, rfl, h⟩
            refine kk_loc (L' := [(0, kw_a a0), (1, kw_i x1)]) [1, 2] rfl ?_
            exact q_X10_readPlain_127 hm hr_X10_readBoth hr_X10_readPlain hr_X10_readTest h0   i124 h
      · have h := h.2 c39
        refine kk_iload_n hm.1 2 dX10_readPlain_42 rfl rfl ?_
        refine kk_bipush (v := (8 : Int32)) hm.1 dX10_readPlain_43 (by decide) ?_
        refine kk_icmp_ne (tgt := 52) hm.1 dX10_readPlain_45 (by decide) (fun c45 => ?_) (fun c45 => ?_)
        · have h := h.1 c45
          refine kk_loc (L' := [(0, kw_a a0), (1, kw_i x1)]) [1, 2] rfl ?_
          exact q_X10_readPlain_52 hm hr_X10_readBoth hr_X10_readPlain hr_X10_readTest h0   i h
        · have h := h.2 c45
          refine kk_aload_n hm.1 1 dX10_readPlain_48 rfl rfl ?_
          refine kk_callVv (cs' := 0) (sl' := 0) (st := []) hm.1 cv_X10_142 (t_X10_faults h0 h) dX10_readPlain_49 h0 rfl rfl hm.2.2.1 (rmi_X10_readBoth d (by decide) (by decide)) ⟨Nat.le_refl _, Nat.le_refl _⟩ rfl rfl (Nat.le_of_ble_eq_true rfl) rfl ?_
          rintro _ _ _ i49 _ ⟨rfl, rfl, rfl, rfl, h⟩
          refine kk_loc (L' := [(0, kw_a a0), (1, kw_i x1)]) [1, 2] rfl ?_
          exact q_X10_readPlain_52 hm hr_X10_readBoth hr_X10_readPlain hr_X10_readTest h0   i49 h
    · have h := h.2 c19
      exact kk_vret hm.1 hm.2.1 dX10_readPlain_22 ⟨rfl, rfl, rfl, rfl, rfl, h⟩
  · have h := h.2 c3
    refine kk_aload_n hm.1 0 dX10_readPlain_6 rfl rfl ?_
    refine kk_iconst (v := (5 : Int32)) hm.1 dX10_readPlain_7 (by decide) ?_
    refine kk_callVi (cs' := 0) (sl' := 0) (st := []) hm.1 cv_X10_139 (t_X10_takes0 h0 h) dX10_readPlain_8 h0 rfl rfl hm.2.2.1 (rmi_X10_readBoth d (by decide) (by decide)) ⟨Nat.le_refl _, Nat.le_refl _⟩ rfl rfl (Nat.le_of_ble_eq_true rfl) rfl ?_
    rintro v8 _ _ _ i8 _ ⟨rfl, rfl, rfl, rfl, h⟩
    refine kk_istore_n (L' := [(2, kw_i v8), (0, kw_a a0), (1, kw_i x1)]) hm.1 dX10_readPlain_11 rfl (by decide) rfl ?_
    refine kk_goto (tgt := 2) hm.1 dX10_readPlain_12 (by decide) ?_
    refine kk_loc (L' := [(0, kw_a a0), (1, kw_i x1), (2, kw_i v8)]) [1, 2, 0] rfl ?_
    exact hk2 v8 i8 h
set_option maxHeartbeats 4000000 in
set_option maxRecDepth 100000 in
theorem q_X10_readPlain_2 {k_X10_readBoth : Nat → Int32 → kw_T → Nat → kw_R → kw_I → kw_L → (kw_I → Prop) → Prop} {k_X10_readPlain : Nat → Int32 → kw_T → Nat → kw_R → kw_I → kw_L → (kw_I → Prop) → Prop} {k_X10_readTest : Nat → Int32 → kw_T → Nat → kw_R → kw_I → kw_L → (kw_I → Prop) → Prop} {a0 : Nat} {x1 : Int32} {T : kw_T} {n : Nat} {r : kw_R} {w : kw_L} {Q : kw_I → Prop} {E : kw_E} {G : kw_G} {d : Nat} (hm : kw_m E G cX10_readPlain 4 RX10 none (rm_X10_readBoth (d + 1)) "readPlain") (hr_X10_readBoth : ∀ (a0 : Nat) (x1 : Int32) (T : kw_T) (n : Nat) (r : kw_R) (i : kw_I) (w : kw_L) (Q : kw_I → Prop), T a0 = (0, 10) → k_X10_readBoth a0 x1 T n r i w Q → kw_Met E.2.1 G yX10_readBoth cX10_readBoth 2 none (rm_X10_readBoth d) [kw_a a0, kw_i x1] (T, n, r, i, w) (kw_PV (fun T' n' r' i' w' => T = T' ∧ n = n' ∧ r = r' ∧ w = w' ∧ Q i'))) (hr_X10_readPlain : ∀ (a0 : Nat) (x1 : Int32) (T : kw_T) (n : Nat) (r : kw_R) (i : kw_I) (w : kw_L) (Q : kw_I → Prop), T a0 = (0, 10) → k_X10_readPlain a0 x1 T n r i w Q → kw_Met E.2.1 G yX10_readPlain cX10_readPlain 4 none (rm_X10_readBoth d) [kw_a a0, kw_i x1] (T, n, r, i, w) (kw_PV (fun T' n' r' i' w' => T = T' ∧ n = n' ∧ r = r' ∧ w = w' ∧ Q i'))) (hr_X10_readTest : ∀ (a0 : Nat) (x1 : Int32) (T : kw_T) (n : Nat) (r : kw_R) (i : kw_I) (w : kw_L) (Q : kw_I → Prop), T a0 = (0, 10) → k_X10_readTest a0 x1 T n r i w Q → kw_Met E.2.1 G yX10_readTest cX10_readTest 2 none (rm_X10_readBoth d) [kw_a a0, kw_i x1] (T, n, r, i, w) (kw_PV (fun T' n' r' i' w' => T = T' ∧ n = n' ∧ r = r' ∧ w = w' ∧ Q i'))) (h0 : T a0 = (0, 10))    : ∀ (N : Nat) (x2 : Int32) (i : kw_I), w_X10_readPlain_2 k_X10_readBoth k_X10_readPlain k_X10_readTest a0 x1 T n r w Q  N x2 i → kw_K E G 4 0 0 (kw_Z E G 0 0 (kw_PV (fun T' n' r' i' w' => T = T' ∧ n = n' ∧ r = r' ∧ w = w' ∧ Q i'))) 2 [(0, kw_a a0), (1, kw_i x1), (2, kw_i x2)] [] T n r i w := by
  intro N
  induction N with
  | zero => intro x2 i h; exact h.elim
  | succ N ih => intro x2 i h; exact qs_X10_readPlain_2 hm hr_X10_readBoth hr_X10_readPlain hr_X10_readTest h0  ih x2 i h
set_option maxHeartbeats 4000000 in
set_option maxRecDepth 100000 in
theorem t_X10_readPlain {l : Launch} {G : kw_G} {d : Nat} {k_X10_readBoth : Nat → Int32 → kw_T → Nat → kw_R → kw_I → kw_L → (kw_I → Prop) → Prop} {k_X10_readPlain : Nat → Int32 → kw_T → Nat → kw_R → kw_I → kw_L → (kw_I → Prop) → Prop} {k_X10_readTest : Nat → Int32 → kw_T → Nat → kw_R → kw_I → kw_L → (kw_I → Prop) → Prop} {a0 : Nat} {x1 : Int32} {T : kw_T} {n : Nat} {r : kw_R} {i : kw_I} {w : kw_L} {Q : kw_I → Prop} (hr_X10_readBoth : ∀ (a0 : Nat) (x1 : Int32) (T : kw_T) (n : Nat) (r : kw_R) (i : kw_I) (w : kw_L) (Q : kw_I → Prop), T a0 = (0, 10) → k_X10_readBoth a0 x1 T n r i w Q → kw_Met l G yX10_readBoth cX10_readBoth 2 none (rm_X10_readBoth d) [kw_a a0, kw_i x1] (T, n, r, i, w) (kw_PV (fun T' n' r' i' w' => T = T' ∧ n = n' ∧ r = r' ∧ w = w' ∧ Q i'))) (hr_X10_readPlain : ∀ (a0 : Nat) (x1 : Int32) (T : kw_T) (n : Nat) (r : kw_R) (i : kw_I) (w : kw_L) (Q : kw_I → Prop), T a0 = (0, 10) → k_X10_readPlain a0 x1 T n r i w Q → kw_Met l G yX10_readPlain cX10_readPlain 4 none (rm_X10_readBoth d) [kw_a a0, kw_i x1] (T, n, r, i, w) (kw_PV (fun T' n' r' i' w' => T = T' ∧ n = n' ∧ r = r' ∧ w = w' ∧ Q i'))) (hr_X10_readTest : ∀ (a0 : Nat) (x1 : Int32) (T : kw_T) (n : Nat) (r : kw_R) (i : kw_I) (w : kw_L) (Q : kw_I → Prop), T a0 = (0, 10) → k_X10_readTest a0 x1 T n r i w Q → kw_Met l G yX10_readTest cX10_readTest 2 none (rm_X10_readBoth d) [kw_a a0, kw_i x1] (T, n, r, i, w) (kw_PV (fun T' n' r' i' w' => T = T' ∧ n = n' ∧ r = r' ∧ w = w' ∧ Q i'))) (h0 : T a0 = (0, 10)) (h : w_X10_readPlain k_X10_readBoth k_X10_readPlain k_X10_readTest a0 x1 T n r i w Q) : kw_Met l G yX10_readPlain cX10_readPlain 4 none (rm_X10_readBoth (d + 1)) [kw_a a0, kw_i x1] (T, n, r, i, w) (kw_PV (fun T' n' r' i' w' => T = T' ∧ n = n' ∧ r = r' ∧ w = w' ∧ Q i')) := by
  refine kw_Met.of (by decide) (Nat.le_of_ble_eq_true rfl) fun E hl hRm hE hT hnm => ?_
  have hm : kw_m E G cX10_readPlain 4 RX10 none (rm_X10_readBoth (d + 1)) "readPlain" := ⟨hE, hT, hRm, hnm⟩
  subst hl
  show kw_K E G 4 0 0 (kw_Z E G 0 0 (kw_PV (fun T' n' r' i' w' => T = T' ∧ n = n' ∧ r = r' ∧ w = w' ∧ Q i'))) 0 [(0, kw_a a0), (1, kw_i x1)] [] T n r i w
  refine kk_iconst (v := (1 : Int32)) hm.1 dX10_readPlain_0 (by decide) ?_
  refine kk_istore_n (L' := [(2, kw_i (1 : Int32)), (0, kw_a a0), (1, kw_i x1)]) hm.1 dX10_readPlain_1 rfl (by decide) rfl ?_
  refine kk_loc (L' := [(0, kw_a a0), (1, kw_i x1), (2, kw_i (1 : Int32))]) [1, 2, 0] rfl ?_
  obtain ⟨N, h⟩ := h
  exact q_X10_readPlain_2 hm hr_X10_readBoth hr_X10_readPlain hr_X10_readTest h0   N ((1 : Int32)) i h
def s_X10_readTest_5 (k_X10_readBoth : Nat → Int32 → kw_T → Nat → kw_R → kw_I → kw_L → (kw_I → Prop) → Prop) (k_X10_readPlain : Nat → Int32 → kw_T → Nat → kw_R → kw_I → kw_L → (kw_I → Prop) → Prop) (k_X10_readTest : Nat → Int32 → kw_T → Nat → kw_R → kw_I → kw_L → (kw_I → Prop) → Prop) (a0 : Nat) (x1 : Int32) (T : kw_T) (n : Nat) (r : kw_R) (w : kw_L) (Q : kw_I → Prop)  (k5 : kw_I → Prop) (i : kw_I) : Prop :=
  w_X10_takes0 a0 (3 : Int32) T n r i w (fun v7 i7 => (v7 = 0 → Q i7) ∧ (¬ v7 = 0 → k_X10_readBoth a0 x1 T n r i7 w (fun i15 => k5 i15)))
def w_X10_readTest_5 (k_X10_readBoth : Nat → Int32 → kw_T → Nat → kw_R → kw_I → kw_L → (kw_I → Prop) → Prop) (k_X10_readPlain : Nat → Int32 → kw_T → Nat → kw_R → kw_I → kw_L → (kw_I → Prop) → Prop) (k_X10_readTest : Nat → Int32 → kw_T → Nat → kw_R → kw_I → kw_L → (kw_I → Prop) → Prop) (a0 : Nat) (x1 : Int32) (T : kw_T) (n : Nat) (r : kw_R) (w : kw_L) (Q : kw_I → Prop)  : Nat → kw_I → Prop
  | 0 => fun _ => False
  | N + 1 => s_X10_readTest_5 k_X10_readBoth k_X10_readPlain k_X10_readTest a0 x1 T n r w Q  (w_X10_readTest_5 k_X10_readBoth k_X10_readPlain k_X10_readTest a0 x1 T n r w Q  N)
def w_X10_readTest (k_X10_readBoth : Nat → Int32 → kw_T → Nat → kw_R → kw_I → kw_L → (kw_I → Prop) → Prop) (k_X10_readPlain : Nat → Int32 → kw_T → Nat → kw_R → kw_I → kw_L → (kw_I → Prop) → Prop) (k_X10_readTest : Nat → Int32 → kw_T → Nat → kw_R → kw_I → kw_L → (kw_I → Prop) → Prop) (a0 : Nat) (x1 : Int32) (T : kw_T) (n : Nat) (r : kw_R) (i : kw_I) (w : kw_L) (Q : kw_I → Prop) : Prop :=
  k_X10_readBoth a0 x1 T n r i w (fun i2 => ∃ N, w_X10_readTest_5 k_X10_readBoth k_X10_readPlain k_X10_readTest a0 x1 T n r w Q  N i2)
set_option maxHeartbeats 4000000 in
set_option maxRecDepth 100000 in
theorem qs_X10_readTest_5 {k_X10_readBoth : Nat → Int32 → kw_T → Nat → kw_R → kw_I → kw_L → (kw_I → Prop) → Prop} {k_X10_readPlain : Nat → Int32 → kw_T → Nat → kw_R → kw_I → kw_L → (kw_I → Prop) → Prop} {k_X10_readTest : Nat → Int32 → kw_T → Nat → kw_R → kw_I → kw_L → (kw_I → Prop) → Prop} {a0 : Nat} {x1 : Int32} {T : kw_T} {n : Nat} {r : kw_R} {w : kw_L} {Q : kw_I → Prop} {E : kw_E} {G : kw_G} {d : Nat} (hm : kw_m E G cX10_readTest 2 RX10 none (rm_X10_readBoth (d + 1)) "readTest") (hr_X10_readBoth : ∀ (a0 : Nat) (x1 : Int32) (T : kw_T) (n : Nat) (r : kw_R) (i : kw_I) (w : kw_L) (Q : kw_I → Prop), T a0 = (0, 10) → k_X10_readBoth a0 x1 T n r i w Q → kw_Met E.2.1 G yX10_readBoth cX10_readBoth 2 none (rm_X10_readBoth d) [kw_a a0, kw_i x1] (T, n, r, i, w) (kw_PV (fun T' n' r' i' w' => T = T' ∧ n = n' ∧ r = r' ∧ w = w' ∧ Q i'))) (hr_X10_readPlain : ∀ (a0 : Nat) (x1 : Int32) (T : kw_T) (n : Nat) (r : kw_R) (i : kw_I) (w : kw_L) (Q : kw_I → Prop), T a0 = (0, 10) → k_X10_readPlain a0 x1 T n r i w Q → kw_Met E.2.1 G yX10_readPlain cX10_readPlain 4 none (rm_X10_readBoth d) [kw_a a0, kw_i x1] (T, n, r, i, w) (kw_PV (fun T' n' r' i' w' => T = T' ∧ n = n' ∧ r = r' ∧ w = w' ∧ Q i'))) (hr_X10_readTest : ∀ (a0 : Nat) (x1 : Int32) (T : kw_T) (n : Nat) (r : kw_R) (i : kw_I) (w : kw_L) (Q : kw_I → Prop), T a0 = (0, 10) → k_X10_readTest a0 x1 T n r i w Q → kw_Met E.2.1 G yX10_readTest cX10_readTest 2 none (rm_X10_readBoth d) [kw_a a0, kw_i x1] (T, n, r, i, w) (kw_PV (fun T' n' r' i' w' => T = T' ∧ n = n' ∧ r = r' ∧ w = w' ∧ Q i'))) (h0 : T a0 = (0, 10))    {k5 : kw_I → Prop} (hk5 : ∀ (i : kw_I), k5 i → kw_K E G 2 0 0 (kw_Z E G 0 0 (kw_PV (fun T' n' r' i' w' => T = T' ∧ n = n' ∧ r = r' ∧ w = w' ∧ Q i'))) 5 [(0, kw_a a0), (1, kw_i x1)] [] T n r i w) (i : kw_I) (h : s_X10_readTest_5 k_X10_readBoth k_X10_readPlain k_X10_readTest a0 x1 T n r w Q  k5 i) : kw_K E G 2 0 0 (kw_Z E G 0 0 (kw_PV (fun T' n' r' i' w' => T = T' ∧ n = n' ∧ r = r' ∧ w = w' ∧ Q i'))) 5 [(0, kw_a a0), (1, kw_i x1)] [] T n r i w := by
  refine kk_aload_n hm.1 0 dX10_readTest_5 rfl rfl ?_
  refine kk_iconst (v := (3 : Int32)) hm.1 dX10_readTest_6 (by decide) ?_
  refine kk_callVi (cs' := 0) (sl' := 0) (st := []) hm.1 cv_X10_139 (t_X10_takes0 h0 h) dX10_readTest_7 h0 rfl rfl hm.2.2.1 (rmi_X10_readBoth d (by decide) (by decide)) ⟨Nat.le_refl _, Nat.le_refl _⟩ rfl rfl (Nat.le_of_ble_eq_true rfl) rfl ?_
  rintro v7 _ _ _ i7 _ ⟨rfl, rfl, rfl, rfl, h⟩
  refine kk_if_eq (tgt := 21) hm.1 dX10_readTest_10 (by decide) (fun c10 => ?_) (fun c10 => ?_)
  · have h := h.1 c10
    exact kk_vret hm.1 hm.2.1 dX10_readTest_21 ⟨rfl, rfl, rfl, rfl, rfl, h⟩
  · have h := h.2 c10
    refine kk_aload_n hm.1 0 dX10_readTest_13 rfl rfl ?_
    refine kk_iload_n hm.1 1 dX10_readTest_14 rfl rfl ?_
    refine kk_callVv (cs' := 0) (sl' := 0) (st := []) hm.1 cv_X10_158 (hr_X10_readBoth a0 x1 T n r i7 w _ h0 h) dX10_readTest_15 h0 rfl rfl hm.2.2.1 (rms_X10_readBoth d (by decide)) ⟨Nat.le_refl _, Nat.le_refl _⟩ rfl rfl (Nat.le_of_ble_eq_true rfl) rfl ?_
    rintro _ _ _ i15 _ ⟨rfl, rfl, rfl, rfl, h⟩
    refine kk_goto (tgt := 5) hm.1 dX10_readTest_18 (by decide) ?_
    exact hk5 i15 h
set_option maxHeartbeats 4000000 in
set_option maxRecDepth 100000 in
theorem q_X10_readTest_5 {k_X10_readBoth : Nat → Int32 → kw_T → Nat → kw_R → kw_I → kw_L → (kw_I → Prop) → Prop} {k_X10_readPlain : Nat → Int32 → kw_T → Nat → kw_R → kw_I → kw_L → (kw_I → Prop) → Prop} {k_X10_readTest : Nat → Int32 → kw_T → Nat → kw_R → kw_I → kw_L → (kw_I → Prop) → Prop} {a0 : Nat} {x1 : Int32} {T : kw_T} {n : Nat} {r : kw_R} {w : kw_L} {Q : kw_I → Prop} {E : kw_E} {G : kw_G} {d : Nat} (hm : kw_m E G cX10_readTest 2 RX10 none (rm_X10_readBoth (d + 1)) "readTest") (hr_X10_readBoth : ∀ (a0 : Nat) (x1 : Int32) (T : kw_T) (n : Nat) (r : kw_R) (i : kw_I) (w : kw_L) (Q : kw_I → Prop), T a0 = (0, 10) → k_X10_readBoth a0 x1 T n r i w Q → kw_Met E.2.1 G yX10_readBoth cX10_readBoth 2 none (rm_X10_readBoth d) [kw_a a0, kw_i x1] (T, n, r, i, w) (kw_PV (fun T' n' r' i' w' => T = T' ∧ n = n' ∧ r = r' ∧ w = w' ∧ Q i'))) (hr_X10_readPlain : ∀ (a0 : Nat) (x1 : Int32) (T : kw_T) (n : Nat) (r : kw_R) (i : kw_I) (w : kw_L) (Q : kw_I → Prop), T a0 = (0, 10) → k_X10_readPlain a0 x1 T n r i w Q → kw_Met E.2.1 G yX10_readPlain cX10_readPlain 4 none (rm_X10_readBoth d) [kw_a a0, kw_i x1] (T, n, r, i, w) (kw_PV (fun T' n' r' i' w' => T = T' ∧ n = n' ∧ r = r' ∧ w = w' ∧ Q i'))) (hr_X10_readTest : ∀ (a0 : Nat) (x1 : Int32) (T : kw_T) (n : Nat) (r : kw_R) (i : kw_I) (w : kw_L) (Q : kw_I → Prop), T a0 = (0, 10) → k_X10_readTest a0 x1 T n r i w Q → kw_Met E.2.1 G yX10_readTest cX10_readTest 2 none (rm_X10_readBoth d) [kw_a a0, kw_i x1] (T, n, r, i, w) (kw_PV (fun T' n' r' i' w' => T = T' ∧ n = n' ∧ r = r' ∧ w = w' ∧ Q i'))) (h0 : T a0 = (0, 10))    : ∀ (N : Nat) (i : kw_I), w_X10_readTest_5 k_X10_readBoth k_X10_readPlain k_X10_readTest a0 x1 T n r w Q  N i → kw_K E G 2 0 0 (kw_Z E G 0 0 (kw_PV (fun T' n' r' i' w' => T = T' ∧ n = n' ∧ r = r' ∧ w = w' ∧ Q i'))) 5 [(0, kw_a a0), (1, kw_i x1)] [] T n r i w := by
  intro N
  induction N with
  | zero => intro i h; exact h.elim
  | succ N ih => intro i h; exact qs_X10_readTest_5 hm hr_X10_readBoth hr_X10_readPlain hr_X10_readTest h0  ih i h
set_option maxHeartbeats 4000000 in
set_option maxRecDepth 100000 in
theorem t_X10_readTest {l : Launch} {G : kw_G} {d : Nat} {k_X10_readBoth : Nat → Int32 → kw_T → Nat → kw_R → kw_I → kw_L → (kw_I → Prop) → Prop} {k_X10_readPlain : Nat → Int32 → kw_T → Nat → kw_R → kw_I → kw_L → (kw_I → Prop) → Prop} {k_X10_readTest : Nat → Int32 → kw_T → Nat → kw_R → kw_I → kw_L → (kw_I → Prop) → Prop} {a0 : Nat} {x1 : Int32} {T : kw_T} {n : Nat} {r : kw_R} {i : kw_I} {w : kw_L} {Q : kw_I → Prop} (hr_X10_readBoth : ∀ (a0 : Nat) (x1 : Int32) (T : kw_T) (n : Nat) (r : kw_R) (i : kw_I) (w : kw_L) (Q : kw_I → Prop), T a0 = (0, 10) → k_X10_readBoth a0 x1 T n r i w Q → kw_Met l G yX10_readBoth cX10_readBoth 2 none (rm_X10_readBoth d) [kw_a a0, kw_i x1] (T, n, r, i, w) (kw_PV (fun T' n' r' i' w' => T = T' ∧ n = n' ∧ r = r' ∧ w = w' ∧ Q i'))) (hr_X10_readPlain : ∀ (a0 : Nat) (x1 : Int32) (T : kw_T) (n : Nat) (r : kw_R) (i : kw_I) (w : kw_L) (Q : kw_I → Prop), T a0 = (0, 10) → k_X10_readPlain a0 x1 T n r i w Q → kw_Met l G yX10_readPlain cX10_readPlain 4 none (rm_X10_readBoth d) [kw_a a0, kw_i x1] (T, n, r, i, w) (kw_PV (fun T' n' r' i' w' => T = T' ∧ n = n' ∧ r = r' ∧ w = w' ∧ Q i'))) (hr_X10_readTest : ∀ (a0 : Nat) (x1 : Int32) (T : kw_T) (n : Nat) (r : kw_R) (i : kw_I) (w : kw_L) (Q : kw_I → Prop), T a0 = (0, 10) → k_X10_readTest a0 x1 T n r i w Q → kw_Met l G yX10_readTest cX10_readTest 2 none (rm_X10_readBoth d) [kw_a a0, kw_i x1] (T, n, r, i, w) (kw_PV (fun T' n' r' i' w' => T = T' ∧ n = n' ∧ r = r' ∧ w = w' ∧ Q i'))) (h0 : T a0 = (0, 10)) (h : w_X10_readTest k_X10_readBoth k_X10_readPlain k_X10_readTest a0 x1 T n r i w Q) : kw_Met l G yX10_readTest cX10_readTest 2 none (rm_X10_readBoth (d + 1)) [kw_a a0, kw_i x1] (T, n, r, i, w) (kw_PV (fun T' n' r' i' w' => T = T' ∧ n = n' ∧ r = r' ∧ w = w' ∧ Q i')) := by
  refine kw_Met.of (by decide) (Nat.le_of_ble_eq_true rfl) fun E hl hRm hE hT hnm => ?_
  have hm : kw_m E G cX10_readTest 2 RX10 none (rm_X10_readBoth (d + 1)) "readTest" := ⟨hE, hT, hRm, hnm⟩
  subst hl
  show kw_K E G 2 0 0 (kw_Z E G 0 0 (kw_PV (fun T' n' r' i' w' => T = T' ∧ n = n' ∧ r = r' ∧ w = w' ∧ Q i'))) 0 [(0, kw_a a0), (1, kw_i x1)] [] T n r i w
  refine kk_aload_n hm.1 0 dX10_readTest_0 rfl rfl ?_
  refine kk_iload_n hm.1 1 dX10_readTest_1 rfl rfl ?_
  refine kk_callVv (cs' := 0) (sl' := 0) (st := []) hm.1 cv_X10_158 (hr_X10_readBoth a0 x1 T n r i w _ h0 h) dX10_readTest_2 h0 rfl rfl hm.2.2.1 (rms_X10_readBoth d (by decide)) ⟨Nat.le_refl _, Nat.le_refl _⟩ rfl rfl (Nat.le_of_ble_eq_true rfl) rfl ?_
  rintro _ _ _ i2 _ ⟨rfl, rfl, rfl, rfl, h⟩
  obtain ⟨N, h⟩ := h
  exact q_X10_readTest_5 hm hr_X10_readBoth hr_X10_readPlain hr_X10_readTest h0   N i2 h
def g_X10_readBoth : Nat → (Nat → Int32 → kw_T → Nat → kw_R → kw_I → kw_L → (kw_I → Prop) → Prop) × (Nat → Int32 → kw_T → Nat → kw_R → kw_I → kw_L → (kw_I → Prop) → Prop) × (Nat → Int32 → kw_T → Nat → kw_R → kw_I → kw_L → (kw_I → Prop) → Prop)
  | 0 => (fun _ _ _ _ _ _ _ _ => False, fun _ _ _ _ _ _ _ _ => False, fun _ _ _ _ _ _ _ _ => False)
  | d + 1 => (w_X10_readBoth (g_X10_readBoth d).1 (g_X10_readBoth d).2.1 (g_X10_readBoth d).2.2, w_X10_readPlain (g_X10_readBoth d).1 (g_X10_readBoth d).2.1 (g_X10_readBoth d).2.2, w_X10_readTest (g_X10_readBoth d).1 (g_X10_readBoth d).2.1 (g_X10_readBoth d).2.2)
set_option maxHeartbeats 4000000 in
set_option maxRecDepth 100000 in
theorem tg_X10_readBoth (l : Launch) (G : kw_G) : ∀ d : Nat, (∀ (a0 : Nat) (x1 : Int32) (T : kw_T) (n : Nat) (r : kw_R) (i : kw_I) (w : kw_L) (Q : kw_I → Prop), T a0 = (0, 10) → (g_X10_readBoth d).1 a0 x1 T n r i w Q → kw_Met l G yX10_readBoth cX10_readBoth 2 none (rm_X10_readBoth d) [kw_a a0, kw_i x1] (T, n, r, i, w) (kw_PV (fun T' n' r' i' w' => T = T' ∧ n = n' ∧ r = r' ∧ w = w' ∧ Q i'))) ∧ (∀ (a0 : Nat) (x1 : Int32) (T : kw_T) (n : Nat) (r : kw_R) (i : kw_I) (w : kw_L) (Q : kw_I → Prop), T a0 = (0, 10) → (g_X10_readBoth d).2.1 a0 x1 T n r i w Q → kw_Met l G yX10_readPlain cX10_readPlain 4 none (rm_X10_readBoth d) [kw_a a0, kw_i x1] (T, n, r, i, w) (kw_PV (fun T' n' r' i' w' => T = T' ∧ n = n' ∧ r = r' ∧ w = w' ∧ Q i'))) ∧ (∀ (a0 : Nat) (x1 : Int32) (T : kw_T) (n : Nat) (r : kw_R) (i : kw_I) (w : kw_L) (Q : kw_I → Prop), T a0 = (0, 10) → (g_X10_readBoth d).2.2 a0 x1 T n r i w Q → kw_Met l G yX10_readTest cX10_readTest 2 none (rm_X10_readBoth d) [kw_a a0, kw_i x1] (T, n, r, i, w) (kw_PV (fun T' n' r' i' w' => T = T' ∧ n = n' ∧ r = r' ∧ w = w' ∧ Q i')))
  | 0 => ⟨fun a0 x1 T n r i w Q h0 h => h.elim, fun a0 x1 T n r i w Q h0 h => h.elim, fun a0 x1 T n r i w Q h0 h => h.elim⟩
  | d + 1 => have ih := tg_X10_readBoth l G d
    ⟨fun a0 x1 T n r i w Q h0 h => t_X10_readBoth ih.1 ih.2.1 ih.2.2 h0 h, fun a0 x1 T n r i w Q h0 h => t_X10_readPlain ih.1 ih.2.1 ih.2.2 h0 h, fun a0 x1 T n r i w Q h0 h => t_X10_readTest ih.1 ih.2.1 ih.2.2 h0 h⟩
def w_X10_readClause_17 (a0 : Nat) (T : kw_T) (n : Nat) (r : kw_R) (w : kw_L) (Q : kw_I → Prop)  (i : kw_I) : Prop :=
  w_X10_takes0 a0 (2 : Int32) T n r i w (fun v19 i19 => (v19 = 0 → Q i19) ∧ (¬ v19 = 0 → ∃ dd, dd ≤ 60 ∧ (g_X10_readBoth dd).2.2 a0 (0 : Int32) T n r i19 w (fun i27 => Q i27)))
def w_X10_readClause  (a0 : Nat) (T : kw_T) (n : Nat) (r : kw_R) (i : kw_I) (w : kw_L) (Q : kw_I → Prop) : Prop :=
  w_X10_must a0 (1 : Int32) T n r i w (fun i2 => w_X10_fine a0 T n r i2 w (fun v6 => (v6 = 0 → w_X10_readClause_17 a0 T n r w Q  i2) ∧ (¬ v6 = 0 → ∃ dd, dd ≤ 60 ∧ (g_X10_readPart dd).2.1 a0 (0 : Int32) T n r i2 w (fun i14 => w_X10_readClause_17 a0 T n r w Q  i14))))
abbrev rm_X10_readClause : Room := { frames := 126, cells := 0, slots := 0, locals := 6165 }
set_option maxHeartbeats 4000000 in
set_option maxRecDepth 100000 in
theorem q_X10_readClause_17 {a0 : Nat} {T : kw_T} {n : Nat} {r : kw_R} {w : kw_L} {Q : kw_I → Prop} {E : kw_E} {G : kw_G} (hm : kw_m E G cX10_readClause 1 RX10 none rm_X10_readClause "readClause")  (h0 : T a0 = (0, 10))    (i : kw_I) (h : w_X10_readClause_17 a0 T n r w Q  i) : kw_K E G 1 0 0 (kw_Z E G 0 0 (kw_PV (fun T' n' r' i' w' => T = T' ∧ n = n' ∧ r = r' ∧ w = w' ∧ Q i'))) 17 [(0, kw_a a0)] [] T n r i w := by
  refine kk_aload_n hm.1 0 dX10_readClause_17 rfl rfl ?_
  refine kk_iconst (v := (2 : Int32)) hm.1 dX10_readClause_18 (by decide) ?_
  refine kk_callVi (cs' := 0) (sl' := 0) (st := []) hm.1 cv_X10_139 (t_X10_takes0 h0 h) dX10_readClause_19 h0 rfl rfl hm.2.2.1 ⟨by decide, by decide⟩ ⟨by decide, by decide⟩ rfl rfl (Nat.le_of_ble_eq_true rfl) rfl ?_
  rintro v19 _ _ _ i19 _ ⟨rfl, rfl, rfl, rfl, h⟩
  refine kk_if_eq (tgt := 30) hm.1 dX10_readClause_22 (by decide) (fun c22 => ?_) (fun c22 => ?_)
  · have h := h.1 c22
    exact kk_vret hm.1 hm.2.1 dX10_readClause_30 ⟨rfl, rfl, rfl, rfl, rfl, h⟩
  · have h := h.2 c22
    refine kk_aload_n hm.1 0 dX10_readClause_25 rfl rfl ?_
    refine kk_iconst (v := (0 : Int32)) hm.1 dX10_readClause_26 (by decide) ?_
    obtain ⟨dd, hd, h⟩ := h
    refine kk_callVv (cs' := 0) (sl' := 0) (st := []) hm.1 cv_X10_155 ((tg_X10_readBoth E.2.1 G dd).2.2 a0 (0 : Int32) T n r i19 w _ h0 h) dX10_readClause_27 h0 rfl rfl hm.2.2.1 (rmo_X10_readBoth hd (by decide) (by decide)) ⟨Nat.le_refl _, Nat.le_refl _⟩ rfl rfl (Nat.le_of_ble_eq_true rfl) rfl ?_
    rintro _ _ _ i27 _ ⟨rfl, rfl, rfl, rfl, h⟩
    exact kk_vret hm.1 hm.2.1 dX10_readClause_30 ⟨rfl, rfl, rfl, rfl, rfl, h⟩
set_option maxHeartbeats 4000000 in
set_option maxRecDepth 100000 in
theorem t_X10_readClause {l : Launch} {G : kw_G} {a0 : Nat} {T : kw_T} {n : Nat} {r : kw_R} {i : kw_I} {w : kw_L} {Q : kw_I → Prop} (h0 : T a0 = (0, 10)) (h : w_X10_readClause a0 T n r i w Q) : kw_Met l G yX10_readClause cX10_readClause 1 none rm_X10_readClause [kw_a a0] (T, n, r, i, w) (kw_PV (fun T' n' r' i' w' => T = T' ∧ n = n' ∧ r = r' ∧ w = w' ∧ Q i')) := by
  refine kw_Met.of (by decide) (Nat.le_of_ble_eq_true rfl) fun E hl hRm hE hT hnm => ?_
  have hm : kw_m E G cX10_readClause 1 RX10 none rm_X10_readClause "readClause" := ⟨hE, hT, hRm, hnm⟩
  subst hl
  show kw_K E G 1 0 0 (kw_Z E G 0 0 (kw_PV (fun T' n' r' i' w' => T = T' ∧ n = n' ∧ r = r' ∧ w = w' ∧ Q i'))) 0 [(0, kw_a a0)] [] T n r i w
  refine kk_aload_n hm.1 0 dX10_readClause_0 rfl rfl ?_
  refine kk_iconst (v := (1 : Int32)) hm.1 dX10_readClause_1 (by decide) ?_
  refine kk_callVv (cs' := 0) (sl' := 0) (st := []) hm.1 cv_X10_148 (t_X10_must h0 h) dX10_readClause_2 h0 rfl rfl hm.2.2.1 ⟨by decide, by decide⟩ ⟨by decide, by decide⟩ rfl rfl (Nat.le_of_ble_eq_true rfl) rfl ?_
  rintro _ _ _ i2 _ ⟨rfl, rfl, rfl, rfl, h⟩
  refine kk_aload_n hm.1 0 dX10_readClause_5 rfl rfl ?_
  refine kk_callVi (cs' := 0) (sl' := 0) (st := []) hm.1 cv_X10_132 (t_X10_fine h0 h) dX10_readClause_6 h0 rfl rfl hm.2.2.1 ⟨by decide, by decide⟩ ⟨by decide, by decide⟩ rfl rfl (Nat.le_of_ble_eq_true rfl) rfl ?_
  rintro v6 _ _ _ _ _ ⟨rfl, rfl, rfl, rfl, rfl, h⟩
  refine kk_if_eq (tgt := 17) hm.1 dX10_readClause_9 (by decide) (fun c9 => ?_) (fun c9 => ?_)
  · have h := h.1 c9
    exact q_X10_readClause_17 hm  h0   i2 h
  · have h := h.2 c9
    refine kk_aload_n hm.1 0 dX10_readClause_12 rfl rfl ?_
    refine kk_iconst (v := (0 : Int32)) hm.1 dX10_readClause_13 (by decide) ?_
    obtain ⟨dd, hd, h⟩ := h
    refine kk_callVv (cs' := 0) (sl' := 0) (st := []) hm.1 cv_X10_152 ((tg_X10_readPart E.2.1 G dd).2.1 a0 (0 : Int32) T n r i2 w _ h0 h) dX10_readClause_14 h0 rfl rfl hm.2.2.1 (rmo_X10_readPart hd (by decide) (by decide)) ⟨Nat.le_refl _, Nat.le_refl _⟩ rfl rfl (Nat.le_of_ble_eq_true rfl) rfl ?_
    rintro _ _ _ i14 _ ⟨rfl, rfl, rfl, rfl, h⟩
    exact q_X10_readClause_17 hm  h0   i14 h
def w_X10_reads_67 (a0 : Nat) (T : kw_T) (n : Nat) (r : kw_R) (w : kw_L) (Q : Int32 → kw_I → Prop) (k34 : Int32 → kw_I → Prop) (x1 : Int32) (i : kw_I) : Prop :=
  k34 ((x1 + (1 : Int32))) i
def w_X10_reads_56 (a0 : Nat) (T : kw_T) (n : Nat) (r : kw_R) (w : kw_L) (Q : Int32 → kw_I → Prop) (k34 : Int32 → kw_I → Prop) (x1 : Int32) (i : kw_I) : Prop :=
  w_X10_fine a0 T n r i w (fun v57 => (v57 = 0 → w_X10_reads_67 a0 T n r w Q k34 x1 i) ∧ (¬ v57 = 0 → w_X10_readClause a0 T n r i w (fun i64 => w_X10_reads_67 a0 T n r w Q k34 x1 i64)))
def w_X10_reads_95 (a0 : Nat) (T : kw_T) (n : Nat) (r : kw_R) (w : kw_L) (Q : Int32 → kw_I → Prop)  (i : kw_I) : Prop :=
  ∀ i100 : kw_I, i100 = kw_st i a0 10 (i a0 17) → (w_X10_fine a0 T n r i100 w (fun v104 => kw_b v104 ∧ (Q v104 i100)))
def s_X10_reads_34 (a0 : Nat) (T : kw_T) (n : Nat) (r : kw_R) (w : kw_L) (Q : Int32 → kw_I → Prop)  (k34 : Int32 → kw_I → Prop) (x1 : Int32) (i : kw_I) : Prop :=
  w_X10_sign (59 : Int32) T n r i w (fun v37 => w_X10_takes0 a0 v37 T n r i w (fun v40 i40 => (v40 = 0 → w_X10_fine a0 T n r i40 w (fun v74 => (v74 = 0 → w_X10_reads_95 a0 T n r w Q  i40) ∧ (¬ v74 = 0 → ((i40 a0 14) ≤ (i40 a0 15) → w_X10_reads_95 a0 T n r w Q  i40) ∧ (¬ (i40 a0 14) ≤ (i40 a0 15) → w_X10_faults a0 T n r i40 w (fun i92 => w_X10_reads_95 a0 T n r w Q  i92))))) ∧ (¬ v40 = 0 → (¬ x1 = (12 : Int32) → w_X10_reads_56 a0 T n r w Q k34 x1 i40) ∧ (x1 = (12 : Int32) → w_X10_faults a0 T n r i40 w (fun i53 => w_X10_reads_56 a0 T n r w Q k34 x1 i53)))))
def w_X10_reads_34 (a0 : Nat) (T : kw_T) (n : Nat) (r : kw_R) (w : kw_L) (Q : Int32 → kw_I → Prop)  : Nat → Int32 → kw_I → Prop
  | 0 => fun _ _ => False
  | N + 1 => s_X10_reads_34 a0 T n r w Q  (w_X10_reads_34 a0 T n r w Q  N)
def w_X10_reads  (a0 : Nat) (T : kw_T) (n : Nat) (r : kw_R) (i : kw_I) (w : kw_L) (Q : Int32 → kw_I → Prop) : Prop :=
  w_X10_splits a0 (i a0 9) T n r i w (fun i5 => ∀ i10 : kw_I, i10 = kw_st i5 a0 9 (0 : Int32) → (∀ i15 : kw_I, i15 = kw_st i10 a0 15 (0 : Int32) → (∀ i20 : kw_I, i20 = kw_st i15 a0 16 (0 : Int32) → (∀ i25 : kw_I, i25 = kw_st i20 a0 17 (-1 : Int32) → (w_X10_readClause a0 T n r i25 w (fun i29 => ∃ N, w_X10_reads_34 a0 T n r w Q  N ((1 : Int32)) i29))))))
abbrev rm_X10_reads : Room := { frames := 127, cells := 0, slots := 0, locals := 6185 }
set_option maxHeartbeats 4000000 in
set_option maxRecDepth 100000 in
theorem q_X10_reads_67 {a0 : Nat} {T : kw_T} {n : Nat} {r : kw_R} {w : kw_L} {Q : Int32 → kw_I → Prop} {E : kw_E} {G : kw_G} (hm : kw_m E G cX10_reads 2 RX10 (some .boolean) rm_X10_reads "reads")  (h0 : T a0 = (0, 10))  {k34 : Int32 → kw_I → Prop} (hk34 : ∀ (x1 : Int32) (i : kw_I), k34 x1 i → kw_K E G 2 0 0 (kw_Z E G 0 0 (kw_PI (fun v T' n' r' i' w' => T = T' ∧ n = n' ∧ r = r' ∧ w = w' ∧ Q v i'))) 34 [(0, kw_a a0), (1, kw_i x1)] [] T n r i w) (x1 : Int32) (i : kw_I) (h : w_X10_reads_67 a0 T n r w Q k34 x1 i) : kw_K E G 2 0 0 (kw_Z E G 0 0 (kw_PI (fun v T' n' r' i' w' => T = T' ∧ n = n' ∧ r = r' ∧ w = w' ∧ Q v i'))) 67 [(0, kw_a a0), (1, kw_i x1)] [] T n r i w := by
  refine kk_iinc (v := (x1 + (1 : Int32))) (L' := [(1, kw_i (x1 + (1 : Int32))), (0, kw_a a0)]) hm.1 1 dX10_reads_67 rfl rfl (by decide) rfl ?_
  refine kk_goto (tgt := 34) hm.1 dX10_reads_70 (by decide) ?_
  refine kk_loc (L' := [(0, kw_a a0), (1, kw_i (x1 + (1 : Int32)))]) [1, 0] rfl ?_
  exact hk34 ((x1 + (1 : Int32))) i h
set_option maxHeartbeats 4000000 in
set_option maxRecDepth 100000 in
theorem q_X10_reads_56 {a0 : Nat} {T : kw_T} {n : Nat} {r : kw_R} {w : kw_L} {Q : Int32 → kw_I → Prop} {E : kw_E} {G : kw_G} (hm : kw_m E G cX10_reads 2 RX10 (some .boolean) rm_X10_reads "reads")  (h0 : T a0 = (0, 10))  {k34 : Int32 → kw_I → Prop} (hk34 : ∀ (x1 : Int32) (i : kw_I), k34 x1 i → kw_K E G 2 0 0 (kw_Z E G 0 0 (kw_PI (fun v T' n' r' i' w' => T = T' ∧ n = n' ∧ r = r' ∧ w = w' ∧ Q v i'))) 34 [(0, kw_a a0), (1, kw_i x1)] [] T n r i w) (x1 : Int32) (i : kw_I) (h : w_X10_reads_56 a0 T n r w Q k34 x1 i) : kw_K E G 2 0 0 (kw_Z E G 0 0 (kw_PI (fun v T' n' r' i' w' => T = T' ∧ n = n' ∧ r = r' ∧ w = w' ∧ Q v i'))) 56 [(0, kw_a a0), (1, kw_i x1)] [] T n r i w := by
  refine kk_aload_n hm.1 0 dX10_reads_56 rfl rfl ?_
  refine kk_callVi (cs' := 0) (sl' := 0) (st := []) hm.1 cv_X10_132 (t_X10_fine h0 h) dX10_reads_57 h0 rfl rfl hm.2.2.1 ⟨by decide, by decide⟩ ⟨by decide, by decide⟩ rfl rfl (Nat.le_of_ble_eq_true rfl) rfl ?_
  rintro v57 _ _ _ _ _ ⟨rfl, rfl, rfl, rfl, rfl, h⟩
  refine kk_if_eq (tgt := 67) hm.1 dX10_reads_60 (by decide) (fun c60 => ?_) (fun c60 => ?_)
  · have h := h.1 c60
    exact q_X10_reads_67 hm  h0  hk34 x1 i h
  · have h := h.2 c60
    refine kk_aload_n hm.1 0 dX10_reads_63 rfl rfl ?_
    refine kk_callVv (cs' := 0) (sl' := 0) (st := []) hm.1 cv_X10_180 (t_X10_readClause h0 h) dX10_reads_64 h0 rfl rfl hm.2.2.1 ⟨by decide, by decide⟩ ⟨by decide, by decide⟩ rfl rfl (Nat.le_of_ble_eq_true rfl) rfl ?_
    rintro _ _ _ i64 _ ⟨rfl, rfl, rfl, rfl, h⟩
    exact q_X10_reads_67 hm  h0  hk34 x1 i64 h
set_option maxHeartbeats 4000000 in
set_option maxRecDepth 100000 in
theorem q_X10_reads_95 {a0 : Nat} {T : kw_T} {n : Nat} {r : kw_R} {w : kw_L} {Q : Int32 → kw_I → Prop} {E : kw_E} {G : kw_G} (hm : kw_m E G cX10_reads 2 RX10 (some .boolean) rm_X10_reads "reads")  (h0 : T a0 = (0, 10))    (i : kw_I) (h : w_X10_reads_95 a0 T n r w Q  i) : kw_K E G 2 0 0 (kw_Z E G 0 0 (kw_PI (fun v T' n' r' i' w' => T = T' ∧ n = n' ∧ r = r' ∧ w = w' ∧ Q v i'))) 95 [(0, kw_a a0)] [] T n r i w := by
  refine kk_aload_n hm.1 0 dX10_reads_95 rfl rfl ?_
  refine kk_aload_n hm.1 0 dX10_reads_96 rfl rfl ?_
  refine kk_getI hm.1 ff_X10_129 dX10_reads_97 h0 ?_
  refine kn_putI hm.1 fp_X10_37 dX10_reads_100 h0 (fun i100 e100 => ?_)
  have h := h i100 e100
  refine kk_aload_n hm.1 0 dX10_reads_103 rfl rfl ?_
  refine kk_callVi (cs' := 0) (sl' := 0) (st := []) hm.1 cv_X10_132 (t_X10_fine h0 h) dX10_reads_104 h0 rfl rfl hm.2.2.1 ⟨by decide, by decide⟩ ⟨by decide, by decide⟩ rfl rfl (Nat.le_of_ble_eq_true rfl) rfl ?_
  rintro v104 _ _ _ _ _ ⟨rfl, rfl, rfl, rfl, rfl, h⟩
  obtain ⟨b107, h⟩ := h
  exact kk_zret hm.1 hm.2.1 dX10_reads_107 b107 ⟨_, rfl, rfl, rfl, rfl, rfl, h⟩
set_option maxHeartbeats 4000000 in
set_option maxRecDepth 100000 in
theorem qs_X10_reads_34 {a0 : Nat} {T : kw_T} {n : Nat} {r : kw_R} {w : kw_L} {Q : Int32 → kw_I → Prop} {E : kw_E} {G : kw_G} (hm : kw_m E G cX10_reads 2 RX10 (some .boolean) rm_X10_reads "reads")  (h0 : T a0 = (0, 10))    {k34 : Int32 → kw_I → Prop} (hk34 : ∀ (x1 : Int32) (i : kw_I), k34 x1 i → kw_K E G 2 0 0 (kw_Z E G 0 0 (kw_PI (fun v T' n' r' i' w' => T = T' ∧ n = n' ∧ r = r' ∧ w = w' ∧ Q v i'))) 34 [(0, kw_a a0), (1, kw_i x1)] [] T n r i w) (x1 : Int32) (i : kw_I) (h : s_X10_reads_34 a0 T n r w Q  k34 x1 i) : kw_K E G 2 0 0 (kw_Z E G 0 0 (kw_PI (fun v T' n' r' i' w' => T = T' ∧ n = n' ∧ r = r' ∧ w = w' ∧ Q v i'))) 34 [(0, kw_a a0), (1, kw_i x1)] [] T n r i w := by
  refine kk_aload_n hm.1 0 dX10_reads_34 rfl rfl ?_
  refine kk_bipush (v := (59 : Int32)) hm.1 dX10_reads_35 (by decide) ?_
  refine kk_callSi (cs' := 0) (sl' := 0) (st := [kw_a a0]) hm.1 cs_X10_164 (t_X10_sign h) dX10_reads_37 rfl hm.2.2.1 ⟨by decide, by decide⟩ ⟨by decide, by decide⟩ rfl rfl (Nat.le_of_ble_eq_true rfl) rfl ?_
  rintro v37 _ _ _ _ _ ⟨rfl, rfl, rfl, rfl, rfl, h⟩
  refine kk_callVi (cs' := 0) (sl' := 0) (st := []) hm.1 cv_X10_139 (t_X10_takes0 h0 h) dX10_reads_40 h0 rfl rfl hm.2.2.1 ⟨by decide, by decide⟩ ⟨by decide, by decide⟩ rfl rfl (Nat.le_of_ble_eq_true rfl) rfl ?_
  rintro v40 _ _ _ i40 _ ⟨rfl, rfl, rfl, rfl, h⟩
  refine kk_if_eq (tgt := 73) hm.1 dX10_reads_43 (by decide) (fun c43 => ?_) (fun c43 => ?_)
  · have h := h.1 c43
    refine kk_aload_n hm.1 0 dX10_reads_73 rfl rfl ?_
    refine kk_callVi (cs' := 0) (sl' := 0) (st := []) hm.1 cv_X10_132 (t_X10_fine h0 h) dX10_reads_74 h0 rfl rfl hm.2.2.1 ⟨by decide, by decide⟩ ⟨by decide, by decide⟩ rfl rfl (Nat.le_of_ble_eq_true rfl) rfl ?_
    rintro v74 _ _ _ _ _ ⟨rfl, rfl, rfl, rfl, rfl, h⟩
    refine kk_if_eq (tgt := 95) hm.1 dX10_reads_77 (by decide) (fun c77 => ?_) (fun c77 => ?_)
    · have h := h.1 c77
      refine kk_loc (L' := [(0, kw_a a0)]) [0] rfl ?_
      exact q_X10_reads_95 hm  h0   i40 h
    · have h := h.2 c77
      refine kk_aload_n hm.1 0 dX10_reads_80 rfl rfl ?_
      refine kk_getI hm.1 ff_X10_136 dX10_reads_81 h0 ?_
      refine kk_aload_n hm.1 0 dX10_reads_84 rfl rfl ?_
      refine kk_getI hm.1 ff_X10_116 dX10_reads_85 h0 ?_
      refine kk_icmp_ge (tgt := 95) hm.1 dX10_reads_88 (by decide) (fun c88 => ?_) (fun c88 => ?_)
      · have h := h.1 c88
        refine kk_loc (L' := [(0, kw_a a0)]) [0] rfl ?_
        exact q_X10_reads_95 hm  h0   i40 h
      · have h := h.2 c88
        refine kk_aload_n hm.1 0 dX10_reads_91 rfl rfl ?_
        refine kk_callVv (cs' := 0) (sl' := 0) (st := []) hm.1 cv_X10_142 (t_X10_faults h0 h) dX10_reads_92 h0 rfl rfl hm.2.2.1 ⟨by decide, by decide⟩ ⟨by decide, by decide⟩ rfl rfl (Nat.le_of_ble_eq_true rfl) rfl ?_
        rintro _ _ _ i92 _ ⟨rfl, rfl, rfl, rfl, h⟩
        refine kk_loc (L' := [(0, kw_a a0)]) [0] rfl ?_
        exact q_X10_reads_95 hm  h0   i92 h
  · have h := h.2 c43
    refine kk_iload_n hm.1 1 dX10_reads_46 rfl rfl ?_
    refine kk_bipush (v := (12 : Int32)) hm.1 dX10_reads_47 (by decide) ?_
    refine kk_icmp_ne (tgt := 56) hm.1 dX10_reads_49 (by decide) (fun c49 => ?_) (fun c49 => ?_)
    · have h := h.1 c49
      exact q_X10_reads_56 hm  h0  hk34 x1 i40 h
    · have h := h.2 c49
      refine kk_aload_n hm.1 0 dX10_reads_52 rfl rfl ?_
      refine kk_callVv (cs' := 0) (sl' := 0) (st := []) hm.1 cv_X10_142 (t_X10_faults h0 h) dX10_reads_53 h0 rfl rfl hm.2.2.1 ⟨by decide, by decide⟩ ⟨by decide, by decide⟩ rfl rfl (Nat.le_of_ble_eq_true rfl) rfl ?_
      rintro _ _ _ i53 _ ⟨rfl, rfl, rfl, rfl, h⟩
      exact q_X10_reads_56 hm  h0  hk34 x1 i53 h
set_option maxHeartbeats 4000000 in
set_option maxRecDepth 100000 in
theorem q_X10_reads_34 {a0 : Nat} {T : kw_T} {n : Nat} {r : kw_R} {w : kw_L} {Q : Int32 → kw_I → Prop} {E : kw_E} {G : kw_G} (hm : kw_m E G cX10_reads 2 RX10 (some .boolean) rm_X10_reads "reads")  (h0 : T a0 = (0, 10))    : ∀ (N : Nat) (x1 : Int32) (i : kw_I), w_X10_reads_34 a0 T n r w Q  N x1 i → kw_K E G 2 0 0 (kw_Z E G 0 0 (kw_PI (fun v T' n' r' i' w' => T = T' ∧ n = n' ∧ r = r' ∧ w = w' ∧ Q v i'))) 34 [(0, kw_a a0), (1, kw_i x1)] [] T n r i w := by
  intro N
  induction N with
  | zero => intro x1 i h; exact h.elim
  | succ N ih => intro x1 i h; exact qs_X10_reads_34 hm  h0  ih x1 i h
set_option maxHeartbeats 4000000 in
set_option maxRecDepth 100000 in
theorem t_X10_reads {l : Launch} {G : kw_G} {a0 : Nat} {T : kw_T} {n : Nat} {r : kw_R} {i : kw_I} {w : kw_L} {Q : Int32 → kw_I → Prop} (h0 : T a0 = (0, 10)) (h : w_X10_reads a0 T n r i w Q) : kw_Met l G yX10_reads cX10_reads 2 (some .boolean) rm_X10_reads [kw_a a0] (T, n, r, i, w) (kw_PI (fun v T' n' r' i' w' => T = T' ∧ n = n' ∧ r = r' ∧ w = w' ∧ Q v i')) := by
  refine kw_Met.of (by decide) (Nat.le_of_ble_eq_true rfl) fun E hl hRm hE hT hnm => ?_
  have hm : kw_m E G cX10_reads 2 RX10 (some .boolean) rm_X10_reads "reads" := ⟨hE, hT, hRm, hnm⟩
  subst hl
  show kw_K E G 2 0 0 (kw_Z E G 0 0 (kw_PI (fun v T' n' r' i' w' => T = T' ∧ n = n' ∧ r = r' ∧ w = w' ∧ Q v i'))) 0 [(0, kw_a a0)] [] T n r i w
  refine kk_aload_n hm.1 0 dX10_reads_0 rfl rfl ?_
  refine kk_aload_n hm.1 0 dX10_reads_1 rfl rfl ?_
  refine kk_getI hm.1 ff_X10_110 dX10_reads_2 h0 ?_
  refine kk_callVv (cs' := 0) (sl' := 0) (st := []) hm.1 cv_X10_177 (t_X10_splits h0 h) dX10_reads_5 h0 rfl rfl hm.2.2.1 ⟨by decide, by decide⟩ ⟨by decide, by decide⟩ rfl rfl (Nat.le_of_ble_eq_true rfl) rfl ?_
  rintro _ _ _ i5 _ ⟨rfl, rfl, rfl, rfl, h⟩
  refine kk_aload_n hm.1 0 dX10_reads_8 rfl rfl ?_
  refine kk_iconst (v := (0 : Int32)) hm.1 dX10_reads_9 (by decide) ?_
  refine kn_putI hm.1 fp_X10_110 dX10_reads_10 h0 (fun i10 e10 => ?_)
  have h := h i10 e10
  refine kk_aload_n hm.1 0 dX10_reads_13 rfl rfl ?_
  refine kk_iconst (v := (0 : Int32)) hm.1 dX10_reads_14 (by decide) ?_
  refine kn_putI hm.1 fp_X10_136 dX10_reads_15 h0 (fun i15 e15 => ?_)
  have h := h i15 e15
  refine kk_aload_n hm.1 0 dX10_reads_18 rfl rfl ?_
  refine kk_iconst (v := (0 : Int32)) hm.1 dX10_reads_19 (by decide) ?_
  refine kn_putI hm.1 fp_X10_145 dX10_reads_20 h0 (fun i20 e20 => ?_)
  have h := h i20 e20
  refine kk_aload_n hm.1 0 dX10_reads_23 rfl rfl ?_
  refine kk_iconst (v := (-1 : Int32)) hm.1 dX10_reads_24 (by decide) ?_
  refine kn_putI hm.1 fp_X10_129 dX10_reads_25 h0 (fun i25 e25 => ?_)
  have h := h i25 e25
  refine kk_aload_n hm.1 0 dX10_reads_28 rfl rfl ?_
  refine kk_callVv (cs' := 0) (sl' := 0) (st := []) hm.1 cv_X10_180 (t_X10_readClause h0 h) dX10_reads_29 h0 rfl rfl hm.2.2.1 ⟨by decide, by decide⟩ ⟨by decide, by decide⟩ rfl rfl (Nat.le_of_ble_eq_true rfl) rfl ?_
  rintro _ _ _ i29 _ ⟨rfl, rfl, rfl, rfl, h⟩
  refine kk_iconst (v := (1 : Int32)) hm.1 dX10_reads_32 (by decide) ?_
  refine kk_istore_n (L' := [(1, kw_i (1 : Int32)), (0, kw_a a0)]) hm.1 dX10_reads_33 rfl (by decide) rfl ?_
  refine kk_loc (L' := [(0, kw_a a0), (1, kw_i (1 : Int32))]) [1, 0] rfl ?_
  obtain ⟨N, h⟩ := h
  exact q_X10_reads_34 hm  h0   N ((1 : Int32)) i29 h
def s_X10_law_64 (a0 : Nat) (T : kw_T) (n : Nat) (r : kw_R) (w : kw_L) (Q : Int32 → kw_I → Prop)  (k64 : Int32 → Int32 → kw_I → Prop) (x1 : Int32) (x2 : Int32) (i : kw_I) : Prop :=
  ((i a0 14) ≤ x2 → kw_in T 1 (r a0 2) (179 : Int32) ∧ (kw_in T 1 (r a0 2) (179 : Int32) ∧ (∀ i133 : kw_I, i133 = kw_st i (r a0 2) ((179 : Int32)).toNatClampNeg ((i (r a0 2) ((179 : Int32)).toNatClampNeg) + (1 : Int32)) → (w_X10_good a0 x1 T n r i133 w (fun v136 i136 => Q v136 i136))))) ∧ (¬ (i a0 14) ≤ x2 → kw_in T 1 (r a0 11) x2 ∧ (kw_in T 1 (r a0 2) (((187 : Int32) + ((400 : Int32) * x1)) + x2) ∧ (∀ i93 : kw_I, i93 = kw_st i (r a0 2) ((((187 : Int32) + ((400 : Int32) * x1)) + x2)).toNatClampNeg (i (r a0 11) (x2).toNatClampNeg) → (kw_in T 1 (r a0 12) x2 ∧ (kw_in T 1 (r a0 2) (((2587 : Int32) + ((400 : Int32) * x1)) + x2) ∧ (∀ i115 : kw_I, i115 = kw_st i93 (r a0 2) ((((2587 : Int32) + ((400 : Int32) * x1)) + x2)).toNatClampNeg (i93 (r a0 12) (x2).toNatClampNeg) → (k64 x1 ((x2 + (1 : Int32))) i115)))))))
def w_X10_law_64 (a0 : Nat) (T : kw_T) (n : Nat) (r : kw_R) (w : kw_L) (Q : Int32 → kw_I → Prop)  : Nat → Int32 → Int32 → kw_I → Prop
  | 0 => fun _ _ _ => False
  | N + 1 => s_X10_law_64 a0 T n r w Q  (w_X10_law_64 a0 T n r w Q  N)
def w_X10_law  (a0 : Nat) (T : kw_T) (n : Nat) (r : kw_R) (i : kw_I) (w : kw_L) (Q : Int32 → kw_I → Prop) : Prop :=
  kw_in T 1 (r a0 2) (179 : Int32) ∧ ((¬ (i (r a0 2) ((179 : Int32)).toNatClampNeg) = (6 : Int32) → w_X10_reads a0 T n r i w (fun v26 i26 => (¬ v26 = 0 → kw_in T 1 (r a0 2) (179 : Int32) ∧ (kw_in T 1 (r a0 2) ((181 : Int32) + (i26 (r a0 2) ((179 : Int32)).toNatClampNeg)) ∧ (∀ i61 : kw_I, i61 = kw_st i26 (r a0 2) (((181 : Int32) + (i26 (r a0 2) ((179 : Int32)).toNatClampNeg))).toNatClampNeg (i26 a0 14) → (∃ N, w_X10_law_64 a0 T n r w Q  N ((i26 (r a0 2) ((179 : Int32)).toNatClampNeg)) ((0 : Int32)) i61)))) ∧ (v26 = 0 → w_X10_refuses a0 (-6 : Int32) T n r i26 w (fun v35 i35 => Q v35 i35)))) ∧ ((i (r a0 2) ((179 : Int32)).toNatClampNeg) = (6 : Int32) → ∀ i15 : kw_I, i15 = kw_st i a0 9 (0 : Int32) → (w_X10_refuses a0 (-5 : Int32) T n r i15 w (fun v21 i21 => Q v21 i21))))
abbrev rm_X10_law : Room := { frames := 128, cells := 0, slots := 0, locals := 6206 }
set_option maxHeartbeats 4000000 in
set_option maxRecDepth 100000 in
theorem qs_X10_law_64 {a0 : Nat} {T : kw_T} {n : Nat} {r : kw_R} {w : kw_L} {Q : Int32 → kw_I → Prop} {E : kw_E} {G : kw_G} (hm : kw_m E G cX10_law 3 RX10 (some .int) rm_X10_law "law")  (h0 : T a0 = (0, 10))    {k64 : Int32 → Int32 → kw_I → Prop} (hk64 : ∀ (x1 : Int32) (x2 : Int32) (i : kw_I), k64 x1 x2 i → kw_K E G 3 0 0 (kw_Z E G 0 0 (kw_PI (fun v T' n' r' i' w' => T = T' ∧ n = n' ∧ r = r' ∧ w = w' ∧ Q v i'))) 64 [(0, kw_a a0), (1, kw_i x1), (2, kw_i x2)] [] T n r i w) (x1 : Int32) (x2 : Int32) (i : kw_I) (h : s_X10_law_64 a0 T n r w Q  k64 x1 x2 i) : kw_K E G 3 0 0 (kw_Z E G 0 0 (kw_PI (fun v T' n' r' i' w' => T = T' ∧ n = n' ∧ r = r' ∧ w = w' ∧ Q v i'))) 64 [(0, kw_a a0), (1, kw_i x1), (2, kw_i x2)] [] T n r i w := by
  refine kk_iload_n hm.1 2 dX10_law_64 rfl rfl ?_
  refine kk_aload_n hm.1 0 dX10_law_65 rfl rfl ?_
  refine kk_getI hm.1 ff_X10_116 dX10_law_66 h0 ?_
  refine kk_icmp_ge (tgt := 122) hm.1 dX10_law_69 (by decide) (fun c69 => ?_) (fun c69 => ?_)
  · have h := h.1 c69
    refine kk_aload_n hm.1 0 dX10_law_122 rfl rfl ?_
    refine kk_getR hm.1 ff_X10_17 dX10_law_123 h0 ?_
    refine kk_sipush (v := (179 : Int32)) hm.1 dX10_law_126 (by decide) ?_
    refine kk_dup2 hm.1 dX10_law_129 rfl rfl ?_
    obtain ⟨o130, h⟩ := h
    refine kk_iaload hm.1 dX10_law_130 o130 ?_
    refine kk_iconst (v := (1 : Int32)) hm.1 dX10_law_131 (by decide) ?_
    refine kk_iadd hm.1 dX10_law_132 ?_
    obtain ⟨o133, h⟩ := h
    refine kn_iastore hm.1 dX10_law_133 o133 (fun i133 e133 => ?_)
    have h := h i133 e133
    refine kk_aload_n hm.1 0 dX10_law_134 rfl rfl ?_
    refine kk_iload_n hm.1 1 dX10_law_135 rfl rfl ?_
    refine kk_callVi (cs' := 0) (sl' := 0) (st := []) hm.1 cv_X10_81 (t_X10_good h0 h) dX10_law_136 h0 rfl rfl hm.2.2.1 ⟨by decide, by decide⟩ ⟨by decide, by decide⟩ rfl rfl (Nat.le_of_ble_eq_true rfl) rfl ?_
    rintro v136 _ _ _ i136 _ ⟨rfl, rfl, rfl, rfl, h⟩
    exact kk_iret hm.1 hm.2.1 dX10_law_139 ⟨_, rfl, rfl, rfl, rfl, rfl, h⟩
  · have h := h.2 c69
    refine kk_aload_n hm.1 0 dX10_law_72 rfl rfl ?_
    refine kk_getR hm.1 ff_X10_17 dX10_law_73 h0 ?_
    refine kk_sipush (v := (187 : Int32)) hm.1 dX10_law_76 (by decide) ?_
    refine kk_sipush (v := (400 : Int32)) hm.1 dX10_law_79 (by decide) ?_
    refine kk_iload_n hm.1 1 dX10_law_82 rfl rfl ?_
    refine kk_imul hm.1 dX10_law_83 ?_
    refine kk_iadd hm.1 dX10_law_84 ?_
    refine kk_iload_n hm.1 2 dX10_law_85 rfl rfl ?_
    refine kk_iadd hm.1 dX10_law_86 ?_
    refine kk_aload_n hm.1 0 dX10_law_87 rfl rfl ?_
    refine kk_getR hm.1 ff_X10_40 dX10_law_88 h0 ?_
    refine kk_iload_n hm.1 2 dX10_law_91 rfl rfl ?_
    obtain ⟨o92, h⟩ := h
    refine kk_iaload hm.1 dX10_law_92 o92 ?_
    obtain ⟨o93, h⟩ := h
    refine kn_iastore hm.1 dX10_law_93 o93 (fun i93 e93 => ?_)
    have h := h i93 e93
    refine kk_aload_n hm.1 0 dX10_law_94 rfl rfl ?_
    refine kk_getR hm.1 ff_X10_17 dX10_law_95 h0 ?_
    refine kk_sipush (v := (2587 : Int32)) hm.1 dX10_law_98 (by decide) ?_
    refine kk_sipush (v := (400 : Int32)) hm.1 dX10_law_101 (by decide) ?_
    refine kk_iload_n hm.1 1 dX10_law_104 rfl rfl ?_
    refine kk_imul hm.1 dX10_law_105 ?_
    refine kk_iadd hm.1 dX10_law_106 ?_
    refine kk_iload_n hm.1 2 dX10_law_107 rfl rfl ?_
    refine kk_iadd hm.1 dX10_law_108 ?_
    refine kk_aload_n hm.1 0 dX10_law_109 rfl rfl ?_
    refine kk_getR hm.1 ff_X10_43 dX10_law_110 h0 ?_
    refine kk_iload_n hm.1 2 dX10_law_113 rfl rfl ?_
    obtain ⟨o114, h⟩ := h
    refine kk_iaload hm.1 dX10_law_114 o114 ?_
    obtain ⟨o115, h⟩ := h
    refine kn_iastore hm.1 dX10_law_115 o115 (fun i115 e115 => ?_)
    have h := h i115 e115
    refine kk_iinc (v := (x2 + (1 : Int32))) (L' := [(2, kw_i (x2 + (1 : Int32))), (0, kw_a a0), (1, kw_i x1)]) hm.1 2 dX10_law_116 rfl rfl (by decide) rfl ?_
    refine kk_goto (tgt := 64) hm.1 dX10_law_119 (by decide) ?_
    refine kk_loc (L' := [(0, kw_a a0), (1, kw_i x1), (2, kw_i (x2 + (1 : Int32)))]) [1, 2, 0] rfl ?_
    exact hk64 x1 ((x2 + (1 : Int32))) i115 h
set_option maxHeartbeats 4000000 in
set_option maxRecDepth 100000 in
theorem q_X10_law_64 {a0 : Nat} {T : kw_T} {n : Nat} {r : kw_R} {w : kw_L} {Q : Int32 → kw_I → Prop} {E : kw_E} {G : kw_G} (hm : kw_m E G cX10_law 3 RX10 (some .int) rm_X10_law "law")  (h0 : T a0 = (0, 10))    : ∀ (N : Nat) (x1 : Int32) (x2 : Int32) (i : kw_I), w_X10_law_64 a0 T n r w Q  N x1 x2 i → kw_K E G 3 0 0 (kw_Z E G 0 0 (kw_PI (fun v T' n' r' i' w' => T = T' ∧ n = n' ∧ r = r' ∧ w = w' ∧ Q v i'))) 64 [(0, kw_a a0), (1, kw_i x1), (2, kw_i x2)] [] T n r i w := by
  intro N
  induction N with
  | zero => intro x1 x2 i h; exact h.elim
  | succ N ih => intro x1 x2 i h; exact qs_X10_law_64 hm  h0  ih x1 x2 i h
set_option maxHeartbeats 4000000 in
set_option maxRecDepth 100000 in
theorem t_X10_law {l : Launch} {G : kw_G} {a0 : Nat} {T : kw_T} {n : Nat} {r : kw_R} {i : kw_I} {w : kw_L} {Q : Int32 → kw_I → Prop} (h0 : T a0 = (0, 10)) (h : w_X10_law a0 T n r i w Q) : kw_Met l G yX10_law cX10_law 3 (some .int) rm_X10_law [kw_a a0] (T, n, r, i, w) (kw_PI (fun v T' n' r' i' w' => T = T' ∧ n = n' ∧ r = r' ∧ w = w' ∧ Q v i')) := by
  refine kw_Met.of (by decide) (Nat.le_of_ble_eq_true rfl) fun E hl hRm hE hT hnm => ?_
  have hm : kw_m E G cX10_law 3 RX10 (some .int) rm_X10_law "law" := ⟨hE, hT, hRm, hnm⟩
  subst hl
  show kw_K E G 3 0 0 (kw_Z E G 0 0 (kw_PI (fun v T' n' r' i' w' => T = T' ∧ n = n' ∧ r = r' ∧ w = w' ∧ Q v i'))) 0 [(0, kw_a a0)] [] T n r i w
  refine kk_aload_n hm.1 0 dX10_law_0 rfl rfl ?_
  refine kk_getR hm.1 ff_X10_17 dX10_law_1 h0 ?_
  refine kk_sipush (v := (179 : Int32)) hm.1 dX10_law_4 (by decide) ?_
  obtain ⟨o7, h⟩ := h
  refine kk_iaload hm.1 dX10_law_7 o7 ?_
  refine kk_bipush (v := (6 : Int32)) hm.1 dX10_law_8 (by decide) ?_
  refine kk_icmp_ne (tgt := 25) hm.1 dX10_law_10 (by decide) (fun c10 => ?_) (fun c10 => ?_)
  · have h := h.1 c10
    refine kk_aload_n hm.1 0 dX10_law_25 rfl rfl ?_
    refine kk_callVi (cs' := 0) (sl' := 0) (st := []) hm.1 cv_X10_183 (t_X10_reads h0 h) dX10_law_26 h0 rfl rfl hm.2.2.1 ⟨by decide, by decide⟩ ⟨by decide, by decide⟩ rfl rfl (Nat.le_of_ble_eq_true rfl) rfl ?_
    rintro v26 _ _ _ i26 _ ⟨rfl, rfl, rfl, rfl, h⟩
    refine kk_if_ne (tgt := 39) hm.1 dX10_law_29 (by decide) (fun c29 => ?_) (fun c29 => ?_)
    · have h := h.1 c29
      refine kk_aload_n hm.1 0 dX10_law_39 rfl rfl ?_
      refine kk_getR hm.1 ff_X10_17 dX10_law_40 h0 ?_
      refine kk_sipush (v := (179 : Int32)) hm.1 dX10_law_43 (by decide) ?_
      obtain ⟨o46, h⟩ := h
      refine kk_iaload hm.1 dX10_law_46 o46 ?_
      refine kk_istore_n (L' := [(1, kw_i (i26 (r a0 2) ((179 : Int32)).toNatClampNeg)), (0, kw_a a0)]) hm.1 dX10_law_47 rfl (by decide) rfl ?_
      refine kk_aload_n hm.1 1 dX10_law_48 rfl rfl ?_
      refine kk_getR hm.1 ff_X10_17 dX10_law_49 h0 ?_
      refine kk_sipush (v := (181 : Int32)) hm.1 dX10_law_52 (by decide) ?_
      refine kk_iload_n hm.1 0 dX10_law_55 rfl rfl ?_
      refine kk_iadd hm.1 dX10_law_56 ?_
      refine kk_aload_n hm.1 1 dX10_law_57 rfl rfl ?_
      refine kk_getI hm.1 ff_X10_116 dX10_law_58 h0 ?_
      obtain ⟨o61, h⟩ := h
      refine kn_iastore hm.1 dX10_law_61 o61 (fun i61 e61 => ?_)
      have h := h i61 e61
      refine kk_iconst (v := (0 : Int32)) hm.1 dX10_law_62 (by decide) ?_
      refine kk_istore_n (L' := [(2, kw_i (0 : Int32)), (1, kw_i (i26 (r a0 2) ((179 : Int32)).toNatClampNeg)), (0, kw_a a0)]) hm.1 dX10_law_63 rfl (by decide) rfl ?_
      refine kk_loc (L' := [(0, kw_a a0), (1, kw_i (i26 (r a0 2) ((179 : Int32)).toNatClampNeg)), (2, kw_i (0 : Int32))]) [2, 1, 0] rfl ?_
      obtain ⟨N, h⟩ := h
      exact q_X10_law_64 hm  h0   N ((i26 (r a0 2) ((179 : Int32)).toNatClampNeg)) ((0 : Int32)) i61 h
    · have h := h.2 c29
      refine kk_aload_n hm.1 0 dX10_law_32 rfl rfl ?_
      refine kk_bipush (v := (-6 : Int32)) hm.1 dX10_law_33 (by decide) ?_
      refine kk_callVi (cs' := 0) (sl' := 0) (st := []) hm.1 cv_X10_77 (t_X10_refuses h0 h) dX10_law_35 h0 rfl rfl hm.2.2.1 ⟨by decide, by decide⟩ ⟨by decide, by decide⟩ rfl rfl (Nat.le_of_ble_eq_true rfl) rfl ?_
      rintro v35 _ _ _ i35 _ ⟨rfl, rfl, rfl, rfl, h⟩
      exact kk_iret hm.1 hm.2.1 dX10_law_38 ⟨_, rfl, rfl, rfl, rfl, rfl, h⟩
  · have h := h.2 c10
    refine kk_aload_n hm.1 0 dX10_law_13 rfl rfl ?_
    refine kk_iconst (v := (0 : Int32)) hm.1 dX10_law_14 (by decide) ?_
    refine kn_putI hm.1 fp_X10_110 dX10_law_15 h0 (fun i15 e15 => ?_)
    have h := h i15 e15
    refine kk_aload_n hm.1 0 dX10_law_18 rfl rfl ?_
    refine kk_bipush (v := (-5 : Int32)) hm.1 dX10_law_19 (by decide) ?_
    refine kk_callVi (cs' := 0) (sl' := 0) (st := []) hm.1 cv_X10_77 (t_X10_refuses h0 h) dX10_law_21 h0 rfl rfl hm.2.2.1 ⟨by decide, by decide⟩ ⟨by decide, by decide⟩ rfl rfl (Nat.le_of_ble_eq_true rfl) rfl ?_
    rintro v21 _ _ _ i21 _ ⟨rfl, rfl, rfl, rfl, h⟩
    exact kk_iret hm.1 hm.2.1 dX10_law_24 ⟨_, rfl, rfl, rfl, rfl, rfl, h⟩
def w_X10_fault  (a0 : Nat) (T : kw_T) (n : Nat) (r : kw_R) (i : kw_I) (w : kw_L) (Q : Int32 → Prop) : Prop :=
  Q (i a0 10)
abbrev rm_X10_fault : Room := { frames := 1, cells := 0, slots := 0, locals := 60 }
set_option maxHeartbeats 4000000 in
set_option maxRecDepth 100000 in
theorem t_X10_fault {l : Launch} {G : kw_G} {a0 : Nat} {T : kw_T} {n : Nat} {r : kw_R} {i : kw_I} {w : kw_L} {Q : Int32 → Prop} (h0 : T a0 = (0, 10)) (h : w_X10_fault a0 T n r i w Q) : kw_Met l G yX10_fault cX10_fault 1 (some .int) rm_X10_fault [kw_a a0] (T, n, r, i, w) (kw_PI (fun v T' n' r' i' w' => T = T' ∧ n = n' ∧ r = r' ∧ i = i' ∧ w = w' ∧ Q v)) := by
  refine kw_Met.of (by decide) (Nat.le_of_ble_eq_true rfl) fun E hl hRm hE hT hnm => ?_
  have hm : kw_m E G cX10_fault 1 RX10 (some .int) rm_X10_fault "fault" := ⟨hE, hT, hRm, hnm⟩
  subst hl
  show kw_K E G 1 0 0 (kw_Z E G 0 0 (kw_PI (fun v T' n' r' i' w' => T = T' ∧ n = n' ∧ r = r' ∧ i = i' ∧ w = w' ∧ Q v))) 0 [(0, kw_a a0)] [] T n r i w
  refine kk_aload_n hm.1 0 dX10_fault_0 rfl rfl ?_
  refine kk_getI hm.1 ff_X10_37 dX10_fault_1 h0 ?_
  exact kk_iret hm.1 hm.2.1 dX10_fault_4 ⟨_, rfl, rfl, rfl, rfl, rfl, rfl, h⟩
def w_X10_force  (a0 : Nat) (x1 : Int32) (T : kw_T) (n : Nat) (r : kw_R) (i : kw_I) (w : kw_L) (Q : Int32 → kw_I → Prop) : Prop :=
  kw_in T 1 (r a0 2) (179 : Int32) ∧ (w_X10_lies x1 (-1 : Int32) ((i (r a0 2) ((179 : Int32)).toNatClampNeg) - (1 : Int32)) T n r i w (fun v12 => (¬ v12 = 0 → kw_in T 1 (r a0 2) (180 : Int32) ∧ (kw_in T 1 (r a0 2) (180 : Int32) ∧ (∀ i42 : kw_I, i42 = kw_st i (r a0 2) ((180 : Int32)).toNatClampNeg x1 → (w_X10_good a0 (i (r a0 2) ((180 : Int32)).toNatClampNeg) T n r i42 w (fun v45 i45 => Q v45 i45))))) ∧ (v12 = 0 → w_X10_refuses a0 (-2 : Int32) T n r i w (fun v21 i21 => Q v21 i21))))
abbrev rm_X10_force : Room := { frames := 2, cells := 0, slots := 0, locals := 82 }
set_option maxHeartbeats 4000000 in
set_option maxRecDepth 100000 in
theorem t_X10_force {l : Launch} {G : kw_G} {a0 : Nat} {x1 : Int32} {T : kw_T} {n : Nat} {r : kw_R} {i : kw_I} {w : kw_L} {Q : Int32 → kw_I → Prop} (h0 : T a0 = (0, 10)) (h : w_X10_force a0 x1 T n r i w Q) : kw_Met l G yX10_force cX10_force 3 (some .int) rm_X10_force [kw_a a0, kw_i x1] (T, n, r, i, w) (kw_PI (fun v T' n' r' i' w' => T = T' ∧ n = n' ∧ r = r' ∧ w = w' ∧ Q v i')) := by
  refine kw_Met.of (by decide) (Nat.le_of_ble_eq_true rfl) fun E hl hRm hE hT hnm => ?_
  have hm : kw_m E G cX10_force 3 RX10 (some .int) rm_X10_force "force" := ⟨hE, hT, hRm, hnm⟩
  subst hl
  show kw_K E G 3 0 0 (kw_Z E G 0 0 (kw_PI (fun v T' n' r' i' w' => T = T' ∧ n = n' ∧ r = r' ∧ w = w' ∧ Q v i'))) 0 [(0, kw_a a0), (1, kw_i x1)] [] T n r i w
  refine kk_iload_n hm.1 1 dX10_force_0 rfl rfl ?_
  refine kk_iconst (v := (-1 : Int32)) hm.1 dX10_force_1 (by decide) ?_
  refine kk_aload_n hm.1 0 dX10_force_2 rfl rfl ?_
  refine kk_getR hm.1 ff_X10_17 dX10_force_3 h0 ?_
  refine kk_sipush (v := (179 : Int32)) hm.1 dX10_force_6 (by decide) ?_
  obtain ⟨o9, h⟩ := h
  refine kk_iaload hm.1 dX10_force_9 o9 ?_
  refine kk_iconst (v := (1 : Int32)) hm.1 dX10_force_10 (by decide) ?_
  refine kk_isub hm.1 dX10_force_11 ?_
  refine kk_callSi (cs' := 0) (sl' := 0) (st := []) hm.1 cs_X10_73 (t_X10_lies h) dX10_force_12 rfl hm.2.2.1 ⟨by decide, by decide⟩ ⟨by decide, by decide⟩ rfl rfl (Nat.le_of_ble_eq_true rfl) rfl ?_
  rintro v12 _ _ _ _ _ ⟨rfl, rfl, rfl, rfl, rfl, h⟩
  refine kk_if_ne (tgt := 25) hm.1 dX10_force_15 (by decide) (fun c15 => ?_) (fun c15 => ?_)
  · have h := h.1 c15
    refine kk_aload_n hm.1 0 dX10_force_25 rfl rfl ?_
    refine kk_getR hm.1 ff_X10_17 dX10_force_26 h0 ?_
    refine kk_sipush (v := (180 : Int32)) hm.1 dX10_force_29 (by decide) ?_
    obtain ⟨o32, h⟩ := h
    refine kk_iaload hm.1 dX10_force_32 o32 ?_
    refine kk_istore_n (L' := [(2, kw_i (i (r a0 2) ((180 : Int32)).toNatClampNeg)), (0, kw_a a0), (1, kw_i x1)]) hm.1 dX10_force_33 rfl (by decide) rfl ?_
    refine kk_aload_n hm.1 1 dX10_force_34 rfl rfl ?_
    refine kk_getR hm.1 ff_X10_17 dX10_force_35 h0 ?_
    refine kk_sipush (v := (180 : Int32)) hm.1 dX10_force_38 (by decide) ?_
    refine kk_iload_n hm.1 2 dX10_force_41 rfl rfl ?_
    obtain ⟨o42, h⟩ := h
    refine kn_iastore hm.1 dX10_force_42 o42 (fun i42 e42 => ?_)
    have h := h i42 e42
    refine kk_aload_n hm.1 1 dX10_force_43 rfl rfl ?_
    refine kk_iload_n hm.1 0 dX10_force_44 rfl rfl ?_
    refine kk_callVi (cs' := 0) (sl' := 0) (st := []) hm.1 cv_X10_81 (t_X10_good h0 h) dX10_force_45 h0 rfl rfl hm.2.2.1 ⟨by decide, by decide⟩ ⟨by decide, by decide⟩ rfl rfl (Nat.le_of_ble_eq_true rfl) rfl ?_
    rintro v45 _ _ _ i45 _ ⟨rfl, rfl, rfl, rfl, h⟩
    exact kk_iret hm.1 hm.2.1 dX10_force_48 ⟨_, rfl, rfl, rfl, rfl, rfl, h⟩
  · have h := h.2 c15
    refine kk_aload_n hm.1 0 dX10_force_18 rfl rfl ?_
    refine kk_bipush (v := (-2 : Int32)) hm.1 dX10_force_19 (by decide) ?_
    refine kk_callVi (cs' := 0) (sl' := 0) (st := []) hm.1 cv_X10_77 (t_X10_refuses h0 h) dX10_force_21 h0 rfl rfl hm.2.2.1 ⟨by decide, by decide⟩ ⟨by decide, by decide⟩ rfl rfl (Nat.le_of_ble_eq_true rfl) rfl ?_
    rintro v21 _ _ _ i21 _ ⟨rfl, rfl, rfl, rfl, h⟩
    exact kk_iret hm.1 hm.2.1 dX10_force_24 ⟨_, rfl, rfl, rfl, rfl, rfl, h⟩
def w_X10_codeAt  (a0 : Nat) (x1 : Int32) (T : kw_T) (n : Nat) (r : kw_R) (i : kw_I) (w : kw_L) (Q : Int32 → Prop) : Prop :=
  ((i a0 19) ≤ x1 → Q (0 : Int32)) ∧ (¬ (i a0 19) ≤ x1 → kw_in T 1 (r a0 2) ((187 : Int32) + x1) ∧ (Q (i (r a0 2) (((187 : Int32) + x1)).toNatClampNeg)))
abbrev rm_X10_codeAt : Room := { frames := 1, cells := 0, slots := 0, locals := 60 }
set_option maxHeartbeats 4000000 in
set_option maxRecDepth 100000 in
theorem t_X10_codeAt {l : Launch} {G : kw_G} {a0 : Nat} {x1 : Int32} {T : kw_T} {n : Nat} {r : kw_R} {i : kw_I} {w : kw_L} {Q : Int32 → Prop} (h0 : T a0 = (0, 10)) (h : w_X10_codeAt a0 x1 T n r i w Q) : kw_Met l G yX10_codeAt cX10_codeAt 2 (some .int) rm_X10_codeAt [kw_a a0, kw_i x1] (T, n, r, i, w) (kw_PI (fun v T' n' r' i' w' => T = T' ∧ n = n' ∧ r = r' ∧ i = i' ∧ w = w' ∧ Q v)) := by
  refine kw_Met.of (by decide) (Nat.le_of_ble_eq_true rfl) fun E hl hRm hE hT hnm => ?_
  have hm : kw_m E G cX10_codeAt 2 RX10 (some .int) rm_X10_codeAt "codeAt" := ⟨hE, hT, hRm, hnm⟩
  subst hl
  show kw_K E G 2 0 0 (kw_Z E G 0 0 (kw_PI (fun v T' n' r' i' w' => T = T' ∧ n = n' ∧ r = r' ∧ i = i' ∧ w = w' ∧ Q v))) 0 [(0, kw_a a0), (1, kw_i x1)] [] T n r i w
  refine kk_iload_n hm.1 1 dX10_codeAt_0 rfl rfl ?_
  refine kk_aload_n hm.1 0 dX10_codeAt_1 rfl rfl ?_
  refine kk_getI hm.1 ff_X10_186 dX10_codeAt_2 h0 ?_
  refine kk_icmp_ge (tgt := 21) hm.1 dX10_codeAt_5 (by decide) (fun c5 => ?_) (fun c5 => ?_)
  · have h := h.1 c5
    refine kk_iconst (v := (0 : Int32)) hm.1 dX10_codeAt_21 (by decide) ?_
    exact kk_iret hm.1 hm.2.1 dX10_codeAt_22 ⟨_, rfl, rfl, rfl, rfl, rfl, rfl, h⟩
  · have h := h.2 c5
    refine kk_aload_n hm.1 0 dX10_codeAt_8 rfl rfl ?_
    refine kk_getR hm.1 ff_X10_17 dX10_codeAt_9 h0 ?_
    refine kk_sipush (v := (187 : Int32)) hm.1 dX10_codeAt_12 (by decide) ?_
    refine kk_iload_n hm.1 1 dX10_codeAt_15 rfl rfl ?_
    refine kk_iadd hm.1 dX10_codeAt_16 ?_
    obtain ⟨o17, h⟩ := h
    refine kk_iaload hm.1 dX10_codeAt_17 o17 ?_
    refine kk_goto (tgt := 22) hm.1 dX10_codeAt_18 (by decide) ?_
    exact kk_iret hm.1 hm.2.1 dX10_codeAt_22 ⟨_, rfl, rfl, rfl, rfl, rfl, rfl, h⟩
def w_X10_passes0_17 (a0 : Nat) (x1 : Int32) (T : kw_T) (n : Nat) (r : kw_R) (w : kw_L) (Q : Int32 → kw_I → Prop)  (s0 : Int32) (i : kw_I) : Prop :=
  (s0 = 0 → kw_b s0 ∧ (Q s0 i)) ∧ (¬ s0 = 0 → ∀ i29 : kw_I, i29 = kw_st i a0 18 ((i a0 18) + (1 : Int32)) → (kw_b s0 ∧ (Q s0 i29)))
def w_X10_passes0  (a0 : Nat) (x1 : Int32) (T : kw_T) (n : Nat) (r : kw_R) (i : kw_I) (w : kw_L) (Q : Int32 → kw_I → Prop) : Prop :=
  w_X10_codeAt a0 (i a0 18) T n r i w (fun v5 => (¬ v5 = x1 → w_X10_passes0_17 a0 x1 T n r w Q  ((0 : Int32)) i) ∧ (v5 = x1 → w_X10_passes0_17 a0 x1 T n r w Q  ((1 : Int32)) i))
abbrev rm_X10_passes0 : Room := { frames := 2, cells := 0, slots := 0, locals := 81 }
set_option maxHeartbeats 4000000 in
set_option maxRecDepth 100000 in
theorem q_X10_passes0_17 {a0 : Nat} {x1 : Int32} {T : kw_T} {n : Nat} {r : kw_R} {w : kw_L} {Q : Int32 → kw_I → Prop} {E : kw_E} {G : kw_G} (hm : kw_m E G cX10_passes0 3 RX10 (some .boolean) rm_X10_passes0 "passes0")  (h0 : T a0 = (0, 10))    (s0 : Int32) (i : kw_I) (h : w_X10_passes0_17 a0 x1 T n r w Q  s0 i) : kw_K E G 3 0 0 (kw_Z E G 0 0 (kw_PI (fun v T' n' r' i' w' => T = T' ∧ n = n' ∧ r = r' ∧ w = w' ∧ Q v i'))) 17 [(0, kw_a a0), (1, kw_i x1)] [kw_i s0] T n r i w := by
  refine kk_istore_n (L' := [(2, kw_i s0), (0, kw_a a0), (1, kw_i x1)]) hm.1 dX10_passes0_17 rfl (by decide) rfl ?_
  refine kk_iload_n hm.1 0 dX10_passes0_18 rfl rfl ?_
  refine kk_if_eq (tgt := 32) hm.1 dX10_passes0_19 (by decide) (fun c19 => ?_) (fun c19 => ?_)
  · have h := h.1 c19
    refine kk_iload_n hm.1 0 dX10_passes0_32 rfl rfl ?_
    obtain ⟨b33, h⟩ := h
    exact kk_zret hm.1 hm.2.1 dX10_passes0_33 b33 ⟨_, rfl, rfl, rfl, rfl, rfl, h⟩
  · have h := h.2 c19
    refine kk_aload_n hm.1 1 dX10_passes0_22 rfl rfl ?_
    refine kk_dup hm.1 dX10_passes0_23 rfl ?_
    refine kk_getI hm.1 ff_X10_189 dX10_passes0_24 h0 ?_
    refine kk_iconst (v := (1 : Int32)) hm.1 dX10_passes0_27 (by decide) ?_
    refine kk_iadd hm.1 dX10_passes0_28 ?_
    refine kn_putI hm.1 fp_X10_189 dX10_passes0_29 h0 (fun i29 e29 => ?_)
    have h := h i29 e29
    refine kk_iload_n hm.1 0 dX10_passes0_32 rfl rfl ?_
    obtain ⟨b33, h⟩ := h
    exact kk_zret hm.1 hm.2.1 dX10_passes0_33 b33 ⟨_, rfl, rfl, rfl, rfl, rfl, h⟩
set_option maxHeartbeats 4000000 in
set_option maxRecDepth 100000 in
theorem t_X10_passes0 {l : Launch} {G : kw_G} {a0 : Nat} {x1 : Int32} {T : kw_T} {n : Nat} {r : kw_R} {i : kw_I} {w : kw_L} {Q : Int32 → kw_I → Prop} (h0 : T a0 = (0, 10)) (h : w_X10_passes0 a0 x1 T n r i w Q) : kw_Met l G yX10_passes0 cX10_passes0 3 (some .boolean) rm_X10_passes0 [kw_a a0, kw_i x1] (T, n, r, i, w) (kw_PI (fun v T' n' r' i' w' => T = T' ∧ n = n' ∧ r = r' ∧ w = w' ∧ Q v i')) := by
  refine kw_Met.of (by decide) (Nat.le_of_ble_eq_true rfl) fun E hl hRm hE hT hnm => ?_
  have hm : kw_m E G cX10_passes0 3 RX10 (some .boolean) rm_X10_passes0 "passes0" := ⟨hE, hT, hRm, hnm⟩
  subst hl
  show kw_K E G 3 0 0 (kw_Z E G 0 0 (kw_PI (fun v T' n' r' i' w' => T = T' ∧ n = n' ∧ r = r' ∧ w = w' ∧ Q v i'))) 0 [(0, kw_a a0), (1, kw_i x1)] [] T n r i w
  refine kk_aload_n hm.1 0 dX10_passes0_0 rfl rfl ?_
  refine kk_aload_n hm.1 0 dX10_passes0_1 rfl rfl ?_
  refine kk_getI hm.1 ff_X10_189 dX10_passes0_2 h0 ?_
  refine kk_callVi (cs' := 0) (sl' := 0) (st := []) hm.1 cv_X10_192 (t_X10_codeAt h0 h) dX10_passes0_5 h0 rfl rfl hm.2.2.1 ⟨by decide, by decide⟩ ⟨by decide, by decide⟩ rfl rfl (Nat.le_of_ble_eq_true rfl) rfl ?_
  rintro v5 _ _ _ _ _ ⟨rfl, rfl, rfl, rfl, rfl, h⟩
  refine kk_iload_n hm.1 1 dX10_passes0_8 rfl rfl ?_
  refine kk_icmp_ne (tgt := 16) hm.1 dX10_passes0_9 (by decide) (fun c9 => ?_) (fun c9 => ?_)
  · have h := h.1 c9
    refine kk_iconst (v := (0 : Int32)) hm.1 dX10_passes0_16 (by decide) ?_
    exact q_X10_passes0_17 hm  h0   ((0 : Int32)) i h
  · have h := h.2 c9
    refine kk_iconst (v := (1 : Int32)) hm.1 dX10_passes0_12 (by decide) ?_
    refine kk_goto (tgt := 17) hm.1 dX10_passes0_13 (by decide) ?_
    exact q_X10_passes0_17 hm  h0   ((1 : Int32)) i h
