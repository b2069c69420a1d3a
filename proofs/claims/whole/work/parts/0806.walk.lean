abbrev rm_X4_readPlain (d : Nat) : Room := { frames := 71 + d, cells := 0, slots := 0, locals := 3466 + 50 * d }
theorem rms_X4_readPlain (d : Nat) {nL' : Nat} (h : nL' ≤ 31) : (rm_X4_readPlain d).frames + 1 ≤ (rm_X4_readPlain (d + 1)).frames ∧ 8 + (nL' + 11) + (rm_X4_readPlain d).locals ≤ (rm_X4_readPlain (d + 1)).locals := ⟨by show 71 + d + 1 ≤ 71 + (d + 1); omega, by show 8 + (nL' + 11) + (3466 + 50 * d) ≤ 3466 + 50 * (d + 1); omega⟩
theorem rmi_X4_readPlain (d : Nat) {nL' : Nat} {rm : Room} (h1 : rm.frames + 1 ≤ 71) (h2 : 8 + (nL' + 11) + rm.locals ≤ 3466) : rm.frames + 1 ≤ (rm_X4_readPlain (d + 1)).frames ∧ 8 + (nL' + 11) + rm.locals ≤ (rm_X4_readPlain (d + 1)).locals := ⟨by show _ ≤ 71 + (d + 1); omega, by show _ ≤ 3466 + 50 * (d + 1); omega⟩
theorem rmo_X4_readPlain {d : Nat} (hd : d ≤ 60) {nL' : Nat} {rm : Room} (h1 : 132 ≤ rm.frames) (h2 : 8 + (nL' + 11) + 6466 ≤ rm.locals) : (rm_X4_readPlain d).frames + 1 ≤ rm.frames ∧ 8 + (nL' + 11) + (rm_X4_readPlain d).locals ≤ rm.locals := ⟨by show 71 + d + 1 ≤ _; omega, by show 8 + (nL' + 11) + (3466 + 50 * d) ≤ _; omega⟩
def w_X4_readPlain_29 (k_X4_readPlain : Nat → Int32 → kw_T → Nat → kw_R → kw_I → kw_L → (kw_I → Prop) → Prop) (k_X4_readTest : Nat → Int32 → kw_T → Nat → kw_R → kw_I → kw_L → (kw_I → Prop) → Prop) (a0 : Nat) (x1 : Int32) (T : kw_T) (n : Nat) (r : kw_R) (w : kw_L) (Q : kw_I → Prop) (k4 : Int32 → Int32 → kw_I → Prop) (x3 : Int32) (s0 : Int32) (i : kw_I) : Prop :=
  k4 s0 ((x3 + (1 : Int32))) i
def w_X4_readPlain_108 (k_X4_readPlain : Nat → Int32 → kw_T → Nat → kw_R → kw_I → kw_L → (kw_I → Prop) → Prop) (k_X4_readTest : Nat → Int32 → kw_T → Nat → kw_R → kw_I → kw_L → (kw_I → Prop) → Prop) (a0 : Nat) (x1 : Int32) (T : kw_T) (n : Nat) (r : kw_R) (w : kw_L) (Q : kw_I → Prop)  (x2 : Int32) (i : kw_I) : Prop :=
  (x2 = 0 → Q i) ∧ (¬ x2 = 0 → w_X4_emit a0 (9 : Int32) (0 : Int32) T n r i w (fun i116 => Q i116))
def w_X4_readPlain_97 (k_X4_readPlain : Nat → Int32 → kw_T → Nat → kw_R → kw_I → kw_L → (kw_I → Prop) → Prop) (k_X4_readTest : Nat → Int32 → kw_T → Nat → kw_R → kw_I → kw_L → (kw_I → Prop) → Prop) (a0 : Nat) (x1 : Int32) (T : kw_T) (n : Nat) (r : kw_R) (w : kw_L) (Q : kw_I → Prop)  (x2 : Int32) (x3 : Int32) (i : kw_I) : Prop :=
  ∃ dd, dd ≤ 60 ∧ (g_X4_readPart dd).2 a0 x1 T n r i w (fun i99 => w_X4_emit a0 x3 (0 : Int32) T n r i99 w (fun i105 => w_X4_readPlain_108 k_X4_readPlain k_X4_readTest a0 x1 T n r w Q  x2 i105))
def w_X4_readPlain_71 (k_X4_readPlain : Nat → Int32 → kw_T → Nat → kw_R → kw_I → kw_L → (kw_I → Prop) → Prop) (k_X4_readTest : Nat → Int32 → kw_T → Nat → kw_R → kw_I → kw_L → (kw_I → Prop) → Prop) (a0 : Nat) (x1 : Int32) (T : kw_T) (n : Nat) (r : kw_R) (w : kw_L) (Q : kw_I → Prop)  (x2 : Int32) (i : kw_I) : Prop :=
  ∃ dd, dd ≤ 60 ∧ (g_X4_readPart dd).2 a0 x1 T n r i w (fun i73 => w_X4_comparison a0 T n r i73 w (fun v77 => (¬ v77 = (-1 : Int32) → w_X4_step a0 T n r i73 w (fun i94 => w_X4_readPlain_97 k_X4_readPlain k_X4_readTest a0 x1 T n r w Q  x2 v77 i94)) ∧ (v77 = (-1 : Int32) → w_X4_stick a0 T n r i73 w (fun i87 => w_X4_readPlain_97 k_X4_readPlain k_X4_readTest a0 x1 T n r w Q  x2 v77 i87))))
def w_X4_readPlain_36 (k_X4_readPlain : Nat → Int32 → kw_T → Nat → kw_R → kw_I → kw_L → (kw_I → Prop) → Prop) (k_X4_readTest : Nat → Int32 → kw_T → Nat → kw_R → kw_I → kw_L → (kw_I → Prop) → Prop) (a0 : Nat) (x1 : Int32) (T : kw_T) (n : Nat) (r : kw_R) (w : kw_L) (Q : kw_I → Prop)  (x2 : Int32) (i : kw_I) : Prop :=
  (¬ (i a0 6) = (40 : Int32) → w_X4_readPlain_71 k_X4_readPlain k_X4_readTest a0 x1 T n r w Q  x2 i) ∧ ((i a0 6) = (40 : Int32) → ((8 : Int32) ≤ x1 → w_X4_readPlain_71 k_X4_readPlain k_X4_readTest a0 x1 T n r w Q  x2 i) ∧ (¬ (8 : Int32) ≤ x1 → w_X4_step a0 T n r i w (fun i52 => k_X4_readTest a0 (x1 + (1 : Int32)) T n r i52 w (fun i59 => w_X4_takeSign a0 (41 : Int32) T n r i59 w (fun i65 => w_X4_readPlain_108 k_X4_readPlain k_X4_readTest a0 x1 T n r w Q  x2 i65)))))
def s_X4_readPlain_4 (k_X4_readPlain : Nat → Int32 → kw_T → Nat → kw_R → kw_I → kw_L → (kw_I → Prop) → Prop) (k_X4_readTest : Nat → Int32 → kw_T → Nat → kw_R → kw_I → kw_L → (kw_I → Prop) → Prop) (a0 : Nat) (x1 : Int32) (T : kw_T) (n : Nat) (r : kw_R) (w : kw_L) (Q : kw_I → Prop)  (k4 : Int32 → Int32 → kw_I → Prop) (x2 : Int32) (x3 : Int32) (i : kw_I) : Prop :=
  ((400 : Int32) ≤ x3 → w_X4_readPlain_36 k_X4_readPlain k_X4_readTest a0 x1 T n r w Q  x2 i) ∧ (¬ (400 : Int32) ≤ x3 → w_X4_takeWord a0 (kw_SB + 11) T n r i w (fun v14 i14 => (v14 = 0 → w_X4_readPlain_36 k_X4_readPlain k_X4_readTest a0 x1 T n r w Q  x2 i14) ∧ (¬ v14 = 0 → (¬ x2 = 0 → w_X4_readPlain_29 k_X4_readPlain k_X4_readTest a0 x1 T n r w Q k4 x3 ((0 : Int32)) i14) ∧ (x2 = 0 → w_X4_readPlain_29 k_X4_readPlain k_X4_readTest a0 x1 T n r w Q k4 x3 ((1 : Int32)) i14))))
def w_X4_readPlain_4 (k_X4_readPlain : Nat → Int32 → kw_T → Nat → kw_R → kw_I → kw_L → (kw_I → Prop) → Prop) (k_X4_readTest : Nat → Int32 → kw_T → Nat → kw_R → kw_I → kw_L → (kw_I → Prop) → Prop) (a0 : Nat) (x1 : Int32) (T : kw_T) (n : Nat) (r : kw_R) (w : kw_L) (Q : kw_I → Prop)  : Nat → Int32 → Int32 → kw_I → Prop
  | 0 => fun _ _ _ => False
  | N + 1 => s_X4_readPlain_4 k_X4_readPlain k_X4_readTest a0 x1 T n r w Q  (w_X4_readPlain_4 k_X4_readPlain k_X4_readTest a0 x1 T n r w Q  N)
def w_X4_readPlain (k_X4_readPlain : Nat → Int32 → kw_T → Nat → kw_R → kw_I → kw_L → (kw_I → Prop) → Prop) (k_X4_readTest : Nat → Int32 → kw_T → Nat → kw_R → kw_I → kw_L → (kw_I → Prop) → Prop) (a0 : Nat) (x1 : Int32) (T : kw_T) (n : Nat) (r : kw_R) (i : kw_I) (w : kw_L) (Q : kw_I → Prop) : Prop :=
  ∃ N, w_X4_readPlain_4 k_X4_readPlain k_X4_readTest a0 x1 T n r w Q  N ((0 : Int32)) ((0 : Int32)) i
set_option maxHeartbeats 4000000 in
set_option maxRecDepth 100000 in
theorem q_X4_readPlain_29 {k_X4_readPlain : Nat → Int32 → kw_T → Nat → kw_R → kw_I → kw_L → (kw_I → Prop) → Prop} {k_X4_readTest : Nat → Int32 → kw_T → Nat → kw_R → kw_I → kw_L → (kw_I → Prop) → Prop} {a0 : Nat} {x1 : Int32} {T : kw_T} {n : Nat} {r : kw_R} {w : kw_L} {Q : kw_I → Prop} {E : kw_E} {G : kw_G} {d : Nat} (hm : kw_m E G cX4_readPlain 4 RX4 none (rm_X4_readPlain (d + 1)) "readPlain") (hr_X4_readPlain : ∀ (a0 : Nat) (x1 : Int32) (T : kw_T) (n : Nat) (r : kw_R) (i : kw_I) (w : kw_L) (Q : kw_I → Prop), T a0 = (0, 4) → k_X4_readPlain a0 x1 T n r i w Q → kw_Met E.2.1 G yX4_readPlain cX4_readPlain 4 none (rm_X4_readPlain d) [kw_a a0, kw_i x1] (T, n, r, i, w) (kw_PV (fun T' n' r' i' w' => T = T' ∧ n = n' ∧ r = r' ∧ w = w' ∧ Q i'))) (hr_X4_readTest : ∀ (a0 : Nat) (x1 : Int32) (T : kw_T) (n : Nat) (r : kw_R) (i : kw_I) (w : kw_L) (Q : kw_I → Prop), T a0 = (0, 4) → k_X4_readTest a0 x1 T n r i w Q → kw_Met E.2.1 G yX4_readTest cX4_readTest 5 none (rm_X4_readPlain d) [kw_a a0, kw_i x1] (T, n, r, i, w) (kw_PV (fun T' n' r' i' w' => T = T' ∧ n = n' ∧ r = r' ∧ w = w' ∧ Q i'))) (h0 : T a0 = (0, 4))  {k4 : Int32 → Int32 → kw_I → Prop} (hk4 : ∀ (x2 : Int32) (x3 : Int32) (i : kw_I), k4 x2 x3 i → kw_K E G 4 0 0 (kw_Z E G 0 0 (kw_PV (fun T' n' r' i' w' => T = T' ∧ n = n' ∧ r = r' ∧ w = w' ∧ Q i'))) 4 [(0, kw_a a0), (1, kw_i x1), (2, kw_i x2), (3, kw_i x3)] [] T n r i w) (x3 : Int32) (s0 : Int32) (i : kw_I) (h : w_X4_readPlain_29 k_X4_readPlain k_X4_readTest a0 x1 T n r w Q k4 x3 s0 i) : kw_K E G 4 0 0 (kw_Z E G 0 0 (kw_PV (fun T' n' r' i' w' => T = T' ∧ n = n' ∧ r = r' ∧ w = w' ∧ Q i'))) 29 [(0, kw_a a0), (1, kw_i x1), (3, kw_i x3)] [kw_i s0] T n r i w := by
  refine kk_istore_n (L' := [(2, kw_i s0), (0, kw_a a0), (1, kw_i x1), (3, kw_i x3)]) hm.1 dX4_readPlain_29 rfl (by decide) rfl ?_
  refine kk_iinc (v := (x3 + (1 : Int32))) (L' := [(3, kw_i (x3 + (1 : Int32))), (2, kw_i s0), (0, kw_a a0), (1, kw_i x1)]) hm.1 3 dX4_readPlain_30 rfl rfl (by decide) rfl ?_
  refine kk_goto (tgt := 4) hm.1 dX4_readPlain_33 (by decide) ?_
  refine kk_loc (L' := [(0, kw_a a0), (1, kw_i x1), (2, kw_i s0), (3, kw_i (x3 + (1 : Int32)))]) [2, 3, 1, 0] rfl ?_
  exact hk4 s0 ((x3 + (1 : Int32))) i h
set_option maxHeartbeats 4000000 in
set_option maxRecDepth 100000 in
theorem q_X4_readPlain_108 {k_X4_readPlain : Nat → Int32 → kw_T → Nat → kw_R → kw_I → kw_L → (kw_I → Prop) → Prop} {k_X4_readTest : Nat → Int32 → kw_T → Nat → kw_R → kw_I → kw_L → (kw_I → Prop) → Prop} {a0 : Nat} {x1 : Int32} {T : kw_T} {n : Nat} {r : kw_R} {w : kw_L} {Q : kw_I → Prop} {E : kw_E} {G : kw_G} {d : Nat} (hm : kw_m E G cX4_readPlain 4 RX4 none (rm_X4_readPlain (d + 1)) "readPlain") (hr_X4_readPlain : ∀ (a0 : Nat) (x1 : Int32) (T : kw_T) (n : Nat) (r : kw_R) (i : kw_I) (w : kw_L) (Q : kw_I → Prop), T a0 = (0, 4) → k_X4_readPlain a0 x1 T n r i w Q → kw_Met E.2.1 G yX4_readPlain cX4_readPlain 4 none (rm_X4_readPlain d) [kw_a a0, kw_i x1] (T, n, r, i, w) (kw_PV (fun T' n' r' i' w' => T = T' ∧ n = n' ∧ r = r' ∧ w = w' ∧ Q i'))) (hr_X4_readTest : ∀ (a0 : Nat) (x1 : Int32) (T : kw_T) (n : Nat) (r : kw_R) (i : kw_I) (w : kw_L) (Q : kw_I → Prop), T a0 = (0, 4) → k_X4_readTest a0 x1 T n r i w Q → kw_Met E.2.1 G yX4_readTest cX4_readTest 5 none (rm_X4_readPlain d) [kw_a a0, kw_i x1] (T, n, r, i, w) (kw_PV (fun T' n' r' i' w' => T = T' ∧ n = n' ∧ r = r' ∧ w = w' ∧ Q i'))) (h0 : T a0 = (0, 4))    (x2 : Int32) (i : kw_I) (h : w_X4_readPlain_108 k_X4_readPlain k_X4_readTest a0 x1 T n r w Q  x2 i) : kw_K E G 4 0 0 (kw_Z E G 0 0 (kw_PV (fun T' n' r' i' w' => T = T' ∧ n = n' ∧ r = r' ∧ w = w' ∧ Q i'))) 108 [(0, kw_a a0), (1, kw_i x1), (2, kw_i x2)] [] T n r i w := by
  refine kk_iload_n hm.1 2 dX4_readPlain_108 rfl rfl ?_
  refine kk_if_eq (tgt := 119) hm.1 dX4_readPlain_109 (by decide) (fun c109 => ?_) (fun c109 => ?_)
  · have h := h.1 c109
    exact kk_vret hm.1 hm.2.1 dX4_readPlain_119 ⟨rfl, rfl, rfl, rfl, rfl, h⟩
  · have h := h.2 c109
    refine kk_aload_n hm.1 0 dX4_readPlain_112 rfl rfl ?_
    refine kk_bipush (v := (9 : Int32)) hm.1 dX4_readPlain_113 (by decide) ?_
    refine kk_iconst (v := (0 : Int32)) hm.1 dX4_readPlain_115 (by decide) ?_
    refine kk_callVv (cs' := 0) (sl' := 0) (st := []) hm.1 cv_X4_89 (t_X4_emit h0 h) dX4_readPlain_116 h0 rfl rfl hm.2.2.1 (rmi_X4_readPlain d (by decide) (by decide)) ⟨Nat.le_refl _, Nat.le_refl _⟩ rfl rfl (Nat.le_of_ble_eq_true rfl) rfl ?_
    rintro _ _ _ i116 _ ⟨rfl, rfl, rfl, rfl, h⟩
    exact kk_vret hm.1 hm.2.1 dX4_readPlain_119 ⟨rfl, rfl, rfl, rfl, rfl, h⟩
set_option maxHeartbeats 4000000 in
set_option maxRecDepth 100000 in
theorem q_X4_readPlain_97 {k_X4_readPlain : Nat → Int32 → kw_T → Nat → kw_R → kw_I → kw_L → (kw_I → Prop) → Prop} {k_X4_readTest : Nat → Int32 → kw_T → Nat → kw_R → kw_I → kw_L → (kw_I → Prop) → Prop} {a0 : Nat} {x1 : Int32} {T : kw_T} {n : Nat} {r : kw_R} {w : kw_L} {Q : kw_I → Prop} {E : kw_E} {G : kw_G} {d : Nat} (hm : kw_m E G cX4_readPlain 4 RX4 none (rm_X4_readPlain (d + 1)) "readPlain") (hr_X4_readPlain : ∀ (a0 : Nat) (x1 : Int32) (T : kw_T) (n : Nat) (r : kw_R) (i : kw_I) (w : kw_L) (Q : kw_I → Prop), T a0 = (0, 4) → k_X4_readPlain a0 x1 T n r i w Q → kw_Met E.2.1 G yX4_readPlain cX4_readPlain 4 none (rm_X4_readPlain d) [kw_a a0, kw_i x1] (T, n, r, i, w) (kw_PV (fun T' n' r' i' w' => T = T' ∧ n = n' ∧ r = r' ∧ w = w' ∧ Q i'))) (hr_X4_readTest : ∀ (a0 : Nat) (x1 : Int32) (T : kw_T) (n : Nat) (r : kw_R) (i : kw_I) (w : kw_L) (Q : kw_I → Prop), T a0 = (0, 4) → k_X4_readTest a0 x1 T n r i w Q → kw_Met E.2.1 G yX4_readTest cX4_readTest 5 none (rm_X4_readPlain d) [kw_a a0, kw_i x1] (T, n, r, i, w) (kw_PV (fun T' n' r' i' w' => T = T' ∧ n = n' ∧ r = r' ∧ w = w' ∧ Q i'))) (h0 : T a0 = (0, 4))    (x2 : Int32) (x3 : Int32) (i : kw_I) (h : w_X4_readPlain_97 k_X4_readPlain k_X4_readTest a0 x1 T n r w Q  x2 x3 i) : kw_K E G 4 0 0 (kw_Z E G 0 0 (kw_PV (fun T' n' r' i' w' => T = T' ∧ n = n' ∧ r = r' ∧ w = w' ∧ Q i'))) 97 [(0, kw_a a0), (1, kw_i x1), (2, kw_i x2), (3, kw_i x3)] [] T n r i w := by
  refine kk_aload_n hm.1 0 dX4_readPlain_97 rfl rfl ?_
  refine kk_iload_n hm.1 1 dX4_readPlain_98 rfl rfl ?_
  obtain ⟨dd, hd, h⟩ := h
  refine kk_callVv (cs' := 0) (sl' := 0) (st := []) hm.1 cv_X4_61 ((tg_X4_readPart E.2.1 G dd).2 a0 x1 T n r i w _ h0 h) dX4_readPlain_99 h0 rfl rfl hm.2.2.1 (rmo_X4_readPart hd (by show 71 ≤ 71 + (d + 1); omega) (by show 3466 ≤ 3466 + 50 * (d + 1); omega)) ⟨Nat.le_refl _, Nat.le_refl _⟩ rfl rfl (Nat.le_of_ble_eq_true rfl) rfl ?_
  rintro _ _ _ i99 _ ⟨rfl, rfl, rfl, rfl, h⟩
  refine kk_aload_n hm.1 0 dX4_readPlain_102 rfl rfl ?_
  refine kk_iload_n hm.1 3 dX4_readPlain_103 rfl rfl ?_
  refine kk_iconst (v := (0 : Int32)) hm.1 dX4_readPlain_104 (by decide) ?_
  refine kk_callVv (cs' := 0) (sl' := 0) (st := []) hm.1 cv_X4_89 (t_X4_emit h0 h) dX4_readPlain_105 h0 rfl rfl hm.2.2.1 (rmi_X4_readPlain d (by decide) (by decide)) ⟨Nat.le_refl _, Nat.le_refl _⟩ rfl rfl (Nat.le_of_ble_eq_true rfl) rfl ?_
  rintro _ _ _ i105 _ ⟨rfl, rfl, rfl, rfl, h⟩
  refine kk_loc (L' := [(0, kw_a a0), (1, kw_i x1), (2, kw_i x2)]) [0, 1, 2] rfl ?_
  exact q_X4_readPlain_108 hm hr_X4_readPlain hr_X4_readTest h0   x2 i105 h
set_option maxHeartbeats 4000000 in
set_option maxRecDepth 100000 in
theorem q_X4_readPlain_71 {k_X4_readPlain : Nat → Int32 → kw_T → Nat → kw_R → kw_I → kw_L → (kw_I → Prop) → Prop} {k_X4_readTest : Nat → Int32 → kw_T → Nat → kw_R → kw_I → kw_L → (kw_I → Prop) → Prop} {a0 : Nat} {x1 : Int32} {T : kw_T} {n : Nat} {r : kw_R} {w : kw_L} {Q : kw_I → Prop} {E : kw_E} {G : kw_G} {d : Nat} (hm : kw_m E G cX4_readPlain 4 RX4 none (rm_X4_readPlain (d + 1)) "readPlain") (hr_X4_readPlain : ∀ (a0 : Nat) (x1 : Int32) (T : kw_T) (n : Nat) (r : kw_R) (i : kw_I) (w : kw_L) (Q : kw_I → Prop), T a0 = (0, 4) → k_X4_readPlain a0 x1 T n r i w Q → kw_Met E.2.1 G yX4_readPlain cX4_readPlain 4 none (rm_X4_readPlain d) [kw_a a0, kw_i x1] (T, n, r, i, w) (kw_PV (fun T' n' r' i' w' => T = T' ∧ n = n' ∧ r = r' ∧ w = w' ∧ Q i'))) (hr_X4_readTest : ∀ (a0 : Nat) (x1 : Int32) (T : kw_T) (n : Nat) (r : kw_R) (i : kw_I) (w : kw_L) (Q : kw_I → Prop), T a0 = (0, 4) → k_X4_readTest a0 x1 T n r i w Q → kw_Met E.2.1 G yX4_readTest cX4_readTest 5 none (rm_X4_readPlain d) [kw_a a0, kw_i x1] (T, n, r, i, w) (kw_PV (fun T' n' r' i' w' => T = T' ∧ n = n' ∧ r = r' ∧ w = w' ∧ Q i'))) (h0 : T a0 = (0, 4))    (x2 : Int32) (i : kw_I) (h : w_X4_readPlain_71 k_X4_readPlain k_X4_readTest a0 x1 T n r w Q  x2 i) : kw_K E G 4 0 0 (kw_Z E G 0 0 (kw_PV (fun T' n' r' i' w' => T = T' ∧ n = n' ∧ r = r' ∧ w = w' ∧ Q i'))) 71 [(0, kw_a a0), (1, kw_i x1), (2, kw_i x2)] [] T n r i w := by
  refine kk_aload_n hm.1 0 dX4_readPlain_71 rfl rfl ?_
  refine kk_iload_n hm.1 1 dX4_readPlain_72 rfl rfl ?_
  obtain ⟨dd, hd, h⟩ := h
  refine kk_callVv (cs' := 0) (sl' := 0) (st := []) hm.1 cv_X4_61 ((tg_X4_readPart E.2.1 G dd).2 a0 x1 T n r i w _ h0 h) dX4_readPlain_73 h0 rfl rfl hm.2.2.1 (rmo_X4_readPart hd (by show 71 ≤ 71 + (d + 1); omega) (by show 3466 ≤ 3466 + 50 * (d + 1); omega)) ⟨Nat.le_refl _, Nat.le_refl _⟩ rfl rfl (Nat.le_of_ble_eq_true rfl) rfl ?_
  rintro _ _ _ i73 _ ⟨rfl, rfl, rfl, rfl, h⟩
  refine kk_aload_n hm.1 0 dX4_readPlain_76 rfl rfl ?_
  refine kk_callVi (cs' := 0) (sl' := 0) (st := []) hm.1 cv_X4_103 (t_X4_comparison h0 h) dX4_readPlain_77 h0 rfl rfl hm.2.2.1 (rmi_X4_readPlain d (by decide) (by decide)) ⟨Nat.le_refl _, Nat.le_refl _⟩ rfl rfl (Nat.le_of_ble_eq_true rfl) rfl ?_
  rintro v77 _ _ _ _ _ ⟨rfl, rfl, rfl, rfl, rfl, h⟩
  refine kk_istore_n (L' := [(3, kw_i v77), (0, kw_a a0), (1, kw_i x1), (2, kw_i x2)]) hm.1 dX4_readPlain_80 rfl (by decide) rfl ?_
  refine kk_iload_n hm.1 0 dX4_readPlain_81 rfl rfl ?_
  refine kk_iconst (v := (-1 : Int32)) hm.1 dX4_readPlain_82 (by decide) ?_
  refine kk_icmp_ne (tgt := 93) hm.1 dX4_readPlain_83 (by decide) (fun c83 => ?_) (fun c83 => ?_)
  · have h := h.1 c83
    refine kk_aload_n hm.1 1 dX4_readPlain_93 rfl rfl ?_
    refine kk_callVv (cs' := 0) (sl' := 0) (st := []) hm.1 cv_X4_49 (t_X4_step h0 h) dX4_readPlain_94 h0 rfl rfl hm.2.2.1 (rmi_X4_readPlain d (by decide) (by decide)) ⟨Nat.le_refl _, Nat.le_refl _⟩ rfl rfl (Nat.le_of_ble_eq_true rfl) rfl ?_
    rintro _ _ _ i94 _ ⟨rfl, rfl, rfl, rfl, h⟩
    refine kk_loc (L' := [(0, kw_a a0), (1, kw_i x1), (2, kw_i x2), (3, kw_i v77)]) [1, 2, 3, 0] rfl ?_
    exact q_X4_readPlain_97 hm hr_X4_readPlain hr_X4_readTest h0   x2 v77 i94 h
  · have h := h.2 c83
    refine kk_aload_n hm.1 1 dX4_readPlain_86 rfl rfl ?_
    refine kk_callVv (cs' := 0) (sl' := 0) (st := []) hm.1 cv_X4_58 (t_X4_stick h0 h) dX4_readPlain_87 h0 rfl rfl hm.2.2.1 (rmi_X4_readPlain d (by decide) (by decide)) ⟨Nat.le_refl _, Nat.le_refl _⟩ rfl rfl (Nat.le_of_ble_eq_true rfl) rfl ?_
    rintro _ _ _ i87 _ ⟨rfl, rfl, rfl, rfl, h⟩
    refine kk_goto (tgt := 97) hm.1 dX4_readPlain_90 (by decide) ?_
    refine kk_loc (L' := [(0, kw_a a0), (1, kw_i x1), (2, kw_i x2), (3, kw_i v77)]) [1, 2, 3, 0] rfl ?_
    exact q_X4_readPlain_97 hm hr_X4_readPlain hr_X4_readTest h0   x2 v77 i87 h
set_option maxHeartbeats 4000000 in
set_option maxRecDepth 100000 in
theorem q_X4_readPlain_36 {k_X4_readPlain : Nat → Int32 → kw_T → Nat → kw_R → kw_I → kw_L → (kw_I → Prop) → Prop} {k_X4_readTest : Nat → Int32 → kw_T → Nat → kw_R → kw_I → kw_L → (kw_I → Prop) → Prop} {a0 : Nat} {x1 : Int32} {T : kw_T} {n : Nat} {r : kw_R} {w : kw_L} {Q : kw_I → Prop} {E : kw_E} {G : kw_G} {d : Nat} (hm : kw_m E G cX4_readPlain 4 RX4 none (rm_X4_readPlain (d + 1)) "readPlain") (hr_X4_readPlain : ∀ (a0 : Nat) (x1 : Int32) (T : kw_T) (n : Nat) (r : kw_R) (i : kw_I) (w : kw_L) (Q : kw_I → Prop), T a0 = (0, 4) → k_X4_readPlain a0 x1 T n r i w Q → kw_Met E.2.1 G yX4_readPlain cX4_readPlain 4 none (rm_X4_readPlain d) [kw_a a0, kw_i x1] (T, n, r, i, w) (kw_PV (fun T' n' r' i' w' => T = T' ∧ n = n' ∧ r = r' ∧ w = w' ∧ Q i'))) (hr_X4_readTest : ∀ (a0 : Nat) (x1 : Int32) (T : kw_T) (n : Nat) (r : kw_R) (i : kw_I) (w : kw_L) (Q : kw_I → Prop), T a0 = (0, 4) → k_X4_readTest a0 x1 T n r i w Q → kw_Met E.2.1 G yX4_readTest cX4_readTest 5 none (rm_X4_readPlain d) [kw_a a0, kw_i x1] (T, n, r, i, w) (kw_PV (fun T' n' r' i' w' => T = T' ∧ n = n' ∧ r = r' ∧ w = w' ∧ Q i'))) (h0 : T a0 = (0, 4))    (x2 : Int32) (i : kw_I) (h : w_X4_readPlain_36 k_X4_readPlain k_X4_readTest a0 x1 T n r w Q  x2 i) : kw_K E G 4 0 0 (kw_Z E G 0 0 (kw_PV (fun T' n' r' i' w' => T = T' ∧ n = n' ∧ r = r' ∧ w = w' ∧ Q i'))) 36 [(0, kw_a a0), (1, kw_i x1), (2, kw_i x2)] [] T n r i w := by
  refine kk_aload_n hm.1 0 dX4_readPlain_36 rfl rfl ?_
  refine kk_getI hm.1 ff_X4_31 dX4_readPlain_37 h0 ?_
  refine kk_bipush (v := (40 : Int32)) hm.1 dX4_readPlain_40 (by decide) ?_
  refine kk_icmp_ne (tgt := 71) hm.1 dX4_readPlain_42 (by decide) (fun c42 => ?_) (fun c42 => ?_)
  · have h := h.1 c42
    exact q_X4_readPlain_71 hm hr_X4_readPlain hr_X4_readTest h0   x2 i h
  · have h := h.2 c42
    refine kk_iload_n hm.1 1 dX4_readPlain_45 rfl rfl ?_
    refine kk_bipush (v := (8 : Int32)) hm.1 dX4_readPlain_46 (by decide) ?_
    refine kk_icmp_ge (tgt := 71) hm.1 dX4_readPlain_48 (by decide) (fun c48 => ?_) (fun c48 => ?_)
    · have h := h.1 c48
      exact q_X4_readPlain_71 hm hr_X4_readPlain hr_X4_readTest h0   x2 i h
    · have h := h.2 c48
      refine kk_aload_n hm.1 0 dX4_readPlain_51 rfl rfl ?_
      refine kk_callVv (cs' := 0) (sl' := 0) (st := []) hm.1 cv_X4_49 (t_X4_step h0 h) dX4_readPlain_52 h0 rfl rfl hm.2.2.1 (rmi_X4_readPlain d (by decide) (by decide)) ⟨Nat.le_refl _, Nat.le_refl _⟩ rfl rfl (Nat.le_of_ble_eq_true rfl) rfl ?_
      rintro _ _ _ i52 _ ⟨rfl, rfl, rfl, rfl, h⟩
      refine kk_aload_n hm.1 0 dX4_readPlain_55 rfl rfl ?_
      refine kk_iload_n hm.1 1 dX4_readPlain_56 rfl rfl ?_
      refine kk_iconst (v := (1 : Int32)) hm.1 dX4_readPlain_57 (by decide) ?_
      refine kk_iadd hm.1 dX4_readPlain_58 ?_
      refine kk_callVv (cs' := 0) (sl' := 0) (st := []) hm.1 cv_X4_67 (hr_X4_readTest a0 (x1 + (1 : Int32)) T n r i52 w _ h0 h) dX4_readPlain_59 h0 rfl rfl hm.2.2.1 (rms_X4_readPlain d (by decide)) ⟨Nat.le_refl _, Nat.le_refl _⟩ rfl rfl (Nat.le_of_ble_eq_true rfl) rfl ?_
      rintro _ _ _ i59 _ ⟨rfl, rfl, rfl, rfl, h⟩
      refine kk_aload_n hm.1 0 dX4_readPlain_62 rfl rfl ?_
      refine kk_bipush (v := (41 : Int32)) hm.1 dX4_readPlain_63 (by decide) ?_
      refine kk_callVv (cs' := 0) (sl' := 0) (st := []) hm.1 cv_X4_81 (t_X4_takeSign h0 h) dX4_readPlain_65 h0 rfl rfl hm.2.2.1 (rmi_X4_readPlain d (by decide) (by decide)) ⟨Nat.le_refl _, Nat.le_refl _⟩ rfl rfl (Nat.le_of_ble_eq_true rfl) rfl ?_
      rintro _ _ _ i65 _ ⟨rfl, rfl, rfl, rfl, h⟩
      refine kk_goto (tgt := 108) hm.1 dX4_readPlain_68 (by decide) ?_
      exact q_X4_readPlain_108 hm hr_X4_readPlain hr_X4_readTest h0   x2 i65 h
set_option maxHeartbeats 4000000 in
set_option maxRecDepth 100000 in
theorem qs_X4_readPlain_4 {k_X4_readPlain : Nat → Int32 → kw_T → Nat → kw_R → kw_I → kw_L → (kw_I → Prop) → Prop} {k_X4_readTest : Nat → Int32 → kw_T → Nat → kw_R → kw_I → kw_L → (kw_I → Prop) → Prop} {a0 : Nat} {x1 : Int32} {T : kw_T} {n : Nat} {r : kw_R} {w : kw_L} {Q : kw_I → Prop} {E : kw_E} {G : kw_G} {d : Nat} (hm : kw_m E G cX4_readPlain 4 RX4 none (rm_X4_readPlain (d + 1)) "readPlain") (hr_X4_readPlain : ∀ (a0 : Nat) (x1 : Int32) (T : kw_T) (n : Nat) (r : kw_R) (i : kw_I) (w : kw_L) (Q : kw_I → Prop), T a0 = (0, 4) → k_X4_readPlain a0 x1 T n r i w Q → kw_Met E.2.1 G yX4_readPlain cX4_readPlain 4 none (rm_X4_readPlain d) [kw_a a0, kw_i x1] (T, n, r, i, w) (kw_PV (fun T' n' r' i' w' => T = T' ∧ n = n' ∧ r = r' ∧ w = w' ∧ Q i'))) (hr_X4_readTest : ∀ (a0 : Nat) (x1 : Int32) (T : kw_T) (n : Nat) (r : kw_R) (i : kw_I) (w : kw_L) (Q : kw_I → Prop), T a0 = (0, 4) → k_X4_readTest a0 x1 T n r i w Q → kw_Met E.2.1 G yX4_readTest cX4_readTest 5 none (rm_X4_readPlain d) [kw_a a0, kw_i x1] (T, n, r, i, w) (kw_PV (fun T' n' r' i' w' => T = T' ∧ n = n' ∧ r = r' ∧ w = w' ∧ Q i'))) (h0 : T a0 = (0, 4))    {k4 : Int32 → Int32 → kw_I → Prop} (hk4 : ∀ (x2 : Int32) (x3 : Int32) (i : kw_I), k4 x2 x3 i → kw_K E G 4 0 0 (kw_Z E G 0 0 (kw_PV (fun T' n' r' i' w' => T = T' ∧ n = n' ∧ r = r' ∧ w = w' ∧ Q i'))) 4 [(0, kw_a a0), (1, kw_i x1), (2, kw_i x2), (3, kw_i x3)] [] T n r i w) (x2 : Int32) (x3 : Int32) (i : kw_I) (h : s_X4_readPlain_4 k_X4_readPlain k_X4_readTest a0 x1 T n r w Q  k4 x2 x3 i) : kw_K E G 4 0 0 (kw_Z E G 0 0 (kw_PV (fun T' n' r' i' w' => T = T' ∧ n = n' ∧ r = r' ∧ w = w' ∧ Q i'))) 4 [(0, kw_a a0), (1, kw_i x1), (2, kw_i x2), (3, kw_i x3)] [] T n r i w := by
  refine kk_iload_n hm.1 3 dX4_readPlain_4 rfl rfl ?_
  refine kk_sipush (v := (400 : Int32)) hm.1 dX4_readPlain_5 (by decide) ?_
  refine kk_icmp_ge (tgt := 36) hm.1 dX4_readPlain_8 (by decide) (fun c8 => ?_) (fun c8 => ?_)
  · have h := h.1 c8
    refine kk_loc (L' := [(0, kw_a a0), (1, kw_i x1), (2, kw_i x2)]) [0, 1, 2] rfl ?_
    exact q_X4_readPlain_36 hm hr_X4_readPlain hr_X4_readTest h0   x2 i h
  · have h := h.2 c8
    refine kk_aload_n hm.1 0 dX4_readPlain_11 rfl rfl ?_
    refine kk_ldcS (j := 11) hm.1 dX4_readPlain_12 (by decide) rfl ?_
    refine kk_callVi (cs' := 0) (sl' := 0) (st := []) hm.1 cv_X4_54 (t_X4_takeWord h0 h) dX4_readPlain_14 h0 rfl rfl hm.2.2.1 (rmi_X4_readPlain d (by decide) (by decide)) ⟨Nat.le_refl _, Nat.le_refl _⟩ rfl rfl (Nat.le_of_ble_eq_true rfl) rfl ?_
    rintro v14 _ _ _ i14 _ ⟨rfl, rfl, rfl, rfl, h⟩
    refine kk_if_eq (tgt := 36) hm.1 dX4_readPlain_17 (by decide) (fun c17 => ?_) (fun c17 => ?_)
    · have h := h.1 c17
      refine kk_loc (L' := [(0, kw_a a0), (1, kw_i x1), (2, kw_i x2)]) [0, 1, 2] rfl ?_
      exact q_X4_readPlain_36 hm hr_X4_readPlain hr_X4_readTest h0   x2 i14 h
    · have h := h.2 c17
      refine kk_iload_n hm.1 2 dX4_readPlain_20 rfl rfl ?_
      refine kk_if_ne (tgt := 28) hm.1 dX4_readPlain_21 (by decide) (fun c21 => ?_) (fun c21 => ?_)
      · have h := h.1 c21
        refine kk_iconst (v := (0 : Int32)) hm.1 dX4_readPlain_28 (by decide) ?_
        refine kk_loc (L' := [(0, kw_a a0), (1, kw_i x1), (3, kw_i x3)]) [0, 1, 3] rfl ?_
        exact q_X4_readPlain_29 hm hr_X4_readPlain hr_X4_readTest h0  hk4 x3 ((0 : Int32)) i14 h
      · have h := h.2 c21
        refine kk_iconst (v := (1 : Int32)) hm.1 dX4_readPlain_24 (by decide) ?_
        refine kk_goto (tgt := 29) hm.1 dX4_readPlain_25 (by decide) ?_
        refine kk_loc (L' := [(0, kw_a a0), (1, kw_i x1), (3, kw_i x3)]) [0, 1, 3] rfl ?_
        exact q_X4_readPlain_29 hm hr_X4_readPlain hr_X4_readTest h0  hk4 x3 ((1 : Int32)) i14 h
set_option maxHeartbeats 4000000 in
set_option maxRecDepth 100000 in
theorem q_X4_readPlain_4 {k_X4_readPlain : Nat → Int32 → kw_T → Nat → kw_R → kw_I → kw_L → (kw_I → Prop) → Prop} {k_X4_readTest : Nat → Int32 → kw_T → Nat → kw_R → kw_I → kw_L → (kw_I → Prop) → Prop} {a0 : Nat} {x1 : Int32} {T : kw_T} {n : Nat} {r : kw_R} {w : kw_L} {Q : kw_I → Prop} {E : kw_E} {G : kw_G} {d : Nat} (hm : kw_m E G cX4_readPlain 4 RX4 none (rm_X4_readPlain (d + 1)) "readPlain") (hr_X4_readPlain : ∀ (a0 : Nat) (x1 : Int32) (T : kw_T) (n : Nat) (r : kw_R) (i : kw_I) (w : kw_L) (Q : kw_I → Prop), T a0 = (0, 4) → k_X4_readPlain a0 x1 T n r i w Q → kw_Met E.2.1 G yX4_readPlain cX4_readPlain 4 none (rm_X4_readPlain d) [kw_a a0, kw_i x1] (T, n, r, i, w) (kw_PV (fun T' n' r' i' w' => T = T' ∧ n = n' ∧ r = r' ∧ w = w' ∧ Q i'))) (hr_X4_readTest : ∀ (a0 : Nat) (x1 : Int32) (T : kw_T) (n : Nat) (r : kw_R) (i : kw_I) (w : kw_L) (Q : kw_I → Prop), T a0 = (0, 4) → k_X4_readTest a0 x1 T n r i w Q → kw_Met E.2.1 G yX4_readTest cX4_readTest 5 none (rm_X4_readPlain d) [kw_a a0, kw_i x1] (T, n, r, i, w) (kw_PV (fun T' n' r' i' w' => T = T' ∧ n = n' ∧ r = r' ∧ w = w' ∧ Q i'))) (h0 : T a0 = (0, 4))    : ∀ (N : Nat) (x2 : Int32) (x3 : Int32) (i : kw_I), w_X4_readPlain_4 k_X4_readPlain k_X4_readTest a0 x1 T n r w Q  N x2 x3 i → kw_K E G 4 0 0 (kw_Z E G 0 0 (kw_PV (fun T' n' r' i' w' => T = T' ∧ n = n' ∧ r = r' ∧ w = w' ∧ Q i'))) 4 [(0, kw_a a0), (1, kw_i x1), (2, kw_i x2), (3, kw_i x3)] [] T n r i w := by
  intro N
  induction N with
  | zero => intro x2 x3 i h; exact h.elim
  | succ N ih => intro x2 x3 i h; exact qs_X4_readPlain_4 hm hr_X4_readPlain hr_X4_readTest h0  ih x2 x3 i h
set_option maxHeartbeats 4000000 in
set_option maxRecDepth 100000 in
theorem t_X4_readPlain {l : Launch} {G : kw_G} {d : Nat} {k_X4_readPlain : Nat → Int32 → kw_T → Nat → kw_R → kw_I → kw_L → (kw_I → Prop) → Prop} {k_X4_readTest : Nat → Int32 → kw_T → Nat → kw_R → kw_I → kw_L → (kw_I → Prop) → Prop} {a0 : Nat} {x1 : Int32} {T : kw_T} {n : Nat} {r : kw_R} {i : kw_I} {w : kw_L} {Q : kw_I → Prop} (hr_X4_readPlain : ∀ (a0 : Nat) (x1 : Int32) (T : kw_T) (n : Nat) (r : kw_R) (i : kw_I) (w : kw_L) (Q : kw_I → Prop), T a0 = (0, 4) → k_X4_readPlain a0 x1 T n r i w Q → kw_Met l G yX4_readPlain cX4_readPlain 4 none (rm_X4_readPlain d) [kw_a a0, kw_i x1] (T, n, r, i, w) (kw_PV (fun T' n' r' i' w' => T = T' ∧ n = n' ∧ r = r' ∧ w = w' ∧ Q i'))) (hr_X4_readTest : ∀ (a0 : Nat) (x1 : Int32) (T : kw_T) (n : Nat) (r : kw_R) (i : kw_I) (w : kw_L) (Q : kw_I → Prop), T a0 = (0, 4) → k_X4_readTest a0 x1 T n r i w Q → kw_Met l G yX4_readTest cX4_readTest 5 none (rm_X4_readPlain d) [kw_a a0, kw_i x1] (T, n, r, i, w) (kw_PV (fun T' n' r' i' w' => T = T' ∧ n = n' ∧ r = r' ∧ w = w' ∧ Q i'))) (h0 : T a0 = (0, 4)) (h : w_X4_readPlain k_X4_readPlain k_X4_readTest a0 x1 T n r i w Q) : kw_Met l G yX4_readPlain cX4_readPlain 4 none (rm_X4_readPlain (d + 1)) [kw_a a0, kw_i x1] (T, n, r, i, w) (kw_PV (fun T' n' r' i' w' => T = T' ∧ n = n' ∧ r = r' ∧ w = w' ∧ Q i')) := by
  refine kw_Met.of (by decide) (Nat.le_of_ble_eq_true rfl) fun E hl hRm hE hT hnm => ?_
  have hm : kw_m E G cX4_readPlain 4 RX4 none (rm_X4_readPlain (d + 1)) "readPlain" := ⟨hE, hT, hRm, hnm⟩
  subst hl
  show kw_K E G 4 0 0 (kw_Z E G 0 0 (kw_PV (fun T' n' r' i' w' => T = T' ∧ n = n' ∧ r = r' ∧ w = w' ∧ Q i'))) 0 [(0, kw_a a0), (1, kw_i x1)] [] T n r i w
  refine kk_iconst (v := (0 : Int32)) hm.1 dX4_readPlain_0 (by decide) ?_
  refine kk_istore_n (L' := [(2, kw_i (0 : Int32)), (0, kw_a a0), (1, kw_i x1)]) hm.1 dX4_readPlain_1 rfl (by decide) rfl ?_
  refine kk_iconst (v := (0 : Int32)) hm.1 dX4_readPlain_2 (by decide) ?_
  refine kk_istore_n (L' := [(3, kw_i (0 : Int32)), (2, kw_i (0 : Int32)), (0, kw_a a0), (1, kw_i x1)]) hm.1 dX4_readPlain_3 rfl (by decide) rfl ?_
  refine kk_loc (L' := [(0, kw_a a0), (1, kw_i x1), (2, kw_i (0 : Int32)), (3, kw_i (0 : Int32))]) [2, 3, 1, 0] rfl ?_
  obtain ⟨N, h⟩ := h
  exact q_X4_readPlain_4 hm hr_X4_readPlain hr_X4_readTest h0   N ((0 : Int32)) ((0 : Int32)) i h
def w_X4_readTest_87 (k_X4_readPlain : Nat → Int32 → kw_T → Nat → kw_R → kw_I → kw_L → (kw_I → Prop) → Prop) (k_X4_readTest : Nat → Int32 → kw_T → Nat → kw_R → kw_I → kw_L → (kw_I → Prop) → Prop) (a0 : Nat) (x1 : Int32) (T : kw_T) (n : Nat) (r : kw_R) (w : kw_L) (Q : kw_I → Prop) (k9 : Int32 → Int32 → kw_I → Prop) (x2 : Int32) (x3 : Int32) (i : kw_I) : Prop :=
  k9 x2 ((x3 + (1 : Int32))) i
def w_X4_readTest_93 (k_X4_readPlain : Nat → Int32 → kw_T → Nat → kw_R → kw_I → kw_L → (kw_I → Prop) → Prop) (k_X4_readTest : Nat → Int32 → kw_T → Nat → kw_R → kw_I → kw_L → (kw_I → Prop) → Prop) (a0 : Nat) (x1 : Int32) (T : kw_T) (n : Nat) (r : kw_R) (w : kw_L) (Q : kw_I → Prop)  (x2 : Int32) (i : kw_I) : Prop :=
  w_X4_skipToHere a0 x2 T n r i w (fun i95 => Q i95)
def s_X4_readTest_9 (k_X4_readPlain : Nat → Int32 → kw_T → Nat → kw_R → kw_I → kw_L → (kw_I → Prop) → Prop) (k_X4_readTest : Nat → Int32 → kw_T → Nat → kw_R → kw_I → kw_L → (kw_I → Prop) → Prop) (a0 : Nat) (x1 : Int32) (T : kw_T) (n : Nat) (r : kw_R) (w : kw_L) (Q : kw_I → Prop)  (k9 : Int32 → Int32 → kw_I → Prop) (x2 : Int32) (x3 : Int32) (i : kw_I) : Prop :=
  ((400 : Int32) ≤ x3 → w_X4_readTest_93 k_X4_readPlain k_X4_readTest a0 x1 T n r w Q  x2 i) ∧ (¬ (400 : Int32) ≤ x3 → w_X4_takeWord a0 (kw_SB + 12) T n r i w (fun v19 i19 => (v19 = 0 → w_X4_isWord a0 (kw_SB + 13) T n r i19 w (fun v55 => (v55 = 0 → w_X4_readTest_93 k_X4_readPlain k_X4_readTest a0 x1 T n r w Q  x2 i19) ∧ (¬ v55 = 0 → w_X4_step a0 T n r i19 w (fun i62 => w_X4_skipToHere a0 x2 T n r i62 w (fun i67 => w_X4_emit a0 (11 : Int32) (0 : Int32) T n r i67 w (fun i79 => k_X4_readPlain a0 x1 T n r i79 w (fun i84 => w_X4_readTest_87 k_X4_readPlain k_X4_readTest a0 x1 T n r w Q k9 ((i67 a0 7)) x3 i84))))))) ∧ (¬ v19 = 0 → w_X4_emit a0 (10 : Int32) (0 : Int32) T n r i19 w (fun i35 => k_X4_readPlain a0 x1 T n r i35 w (fun i40 => w_X4_skipToHere a0 (i19 a0 7) T n r i40 w (fun i46 => w_X4_readTest_87 k_X4_readPlain k_X4_readTest a0 x1 T n r w Q k9 x2 x3 i46))))))
def w_X4_readTest_9 (k_X4_readPlain : Nat → Int32 → kw_T → Nat → kw_R → kw_I → kw_L → (kw_I → Prop) → Prop) (k_X4_readTest : Nat → Int32 → kw_T → Nat → kw_R → kw_I → kw_L → (kw_I → Prop) → Prop) (a0 : Nat) (x1 : Int32) (T : kw_T) (n : Nat) (r : kw_R) (w : kw_L) (Q : kw_I → Prop)  : Nat → Int32 → Int32 → kw_I → Prop
  | 0 => fun _ _ _ => False
  | N + 1 => s_X4_readTest_9 k_X4_readPlain k_X4_readTest a0 x1 T n r w Q  (w_X4_readTest_9 k_X4_readPlain k_X4_readTest a0 x1 T n r w Q  N)
def w_X4_readTest (k_X4_readPlain : Nat → Int32 → kw_T → Nat → kw_R → kw_I → kw_L → (kw_I → Prop) → Prop) (k_X4_readTest : Nat → Int32 → kw_T → Nat → kw_R → kw_I → kw_L → (kw_I → Prop) → Prop) (a0 : Nat) (x1 : Int32) (T : kw_T) (n : Nat) (r : kw_R) (i : kw_I) (w : kw_L) (Q : kw_I → Prop) : Prop :=
  k_X4_readPlain a0 x1 T n r i w (fun i4 => ∃ N, w_X4_readTest_9 k_X4_readPlain k_X4_readTest a0 x1 T n r w Q  N ((-1 : Int32)) ((0 : Int32)) i4)
set_option maxHeartbeats 4000000 in
set_option maxRecDepth 100000 in
theorem q_X4_readTest_87 {k_X4_readPlain : Nat → Int32 → kw_T → Nat → kw_R → kw_I → kw_L → (kw_I → Prop) → Prop} {k_X4_readTest : Nat → Int32 → kw_T → Nat → kw_R → kw_I → kw_L → (kw_I → Prop) → Prop} {a0 : Nat} {x1 : Int32} {T : kw_T} {n : Nat} {r : kw_R} {w : kw_L} {Q : kw_I → Prop} {E : kw_E} {G : kw_G} {d : Nat} (hm : kw_m E G cX4_readTest 5 RX4 none (rm_X4_readPlain (d + 1)) "readTest") (hr_X4_readPlain : ∀ (a0 : Nat) (x1 : Int32) (T : kw_T) (n : Nat) (r : kw_R) (i : kw_I) (w : kw_L) (Q : kw_I → Prop), T a0 = (0, 4) → k_X4_readPlain a0 x1 T n r i w Q → kw_Met E.2.1 G yX4_readPlain cX4_readPlain 4 none (rm_X4_readPlain d) [kw_a a0, kw_i x1] (T, n, r, i, w) (kw_PV (fun T' n' r' i' w' => T = T' ∧ n = n' ∧ r = r' ∧ w = w' ∧ Q i'))) (hr_X4_readTest : ∀ (a0 : Nat) (x1 : Int32) (T : kw_T) (n : Nat) (r : kw_R) (i : kw_I) (w : kw_L) (Q : kw_I → Prop), T a0 = (0, 4) → k_X4_readTest a0 x1 T n r i w Q → kw_Met E.2.1 G yX4_readTest cX4_readTest 5 none (rm_X4_readPlain d) [kw_a a0, kw_i x1] (T, n, r, i, w) (kw_PV (fun T' n' r' i' w' => T = T' ∧ n = n' ∧ r = r' ∧ w = w' ∧ Q i'))) (h0 : T a0 = (0, 4))  {k9 : Int32 → Int32 → kw_I → Prop} (hk9 : ∀ (x2 : Int32) (x3 : Int32) (i : kw_I), k9 x2 x3 i → kw_K E G 5 0 0 (kw_Z E G 0 0 (kw_PV (fun T' n' r' i' w' => T = T' ∧ n = n' ∧ r = r' ∧ w = w' ∧ Q i'))) 9 [(0, kw_a a0), (1, kw_i x1), (2, kw_i x2), (3, kw_i x3)] [] T n r i w) (x2 : Int32) (x3 : Int32) (i : kw_I) (h : w_X4_readTest_87 k_X4_readPlain k_X4_readTest a0 x1 T n r w Q k9 x2 x3 i) : kw_K E G 5 0 0 (kw_Z E G 0 0 (kw_PV (fun T' n' r' i' w' => T = T' ∧ n = n' ∧ r = r' ∧ w = w' ∧ Q i'))) 87 [(0, kw_a a0), (1, kw_i x1), (2, kw_i x2), (3, kw_i x3)] [] T n r i w := by
  refine kk_iinc (v := (x3 + (1 : Int32))) (L' := [(3, kw_i (x3 + (1 : Int32))), (0, kw_a a0), (1, kw_i x1), (2, kw_i x2)]) hm.1 3 dX4_readTest_87 rfl rfl (by decide) rfl ?_
  refine kk_goto (tgt := 9) hm.1 dX4_readTest_90 (by decide) ?_
  refine kk_loc (L' := [(0, kw_a a0), (1, kw_i x1), (2, kw_i x2), (3, kw_i (x3 + (1 : Int32)))]) [1, 2, 3, 0] rfl ?_
  exact hk9 x2 ((x3 + (1 : Int32))) i h
set_option maxHeartbeats 4000000 in
set_option maxRecDepth 100000 in
theorem q_X4_readTest_93 {k_X4_readPlain : Nat → Int32 → kw_T → Nat → kw_R → kw_I → kw_L → (kw_I → Prop) → Prop} {k_X4_readTest : Nat → Int32 → kw_T → Nat → kw_R → kw_I → kw_L → (kw_I → Prop) → Prop} {a0 : Nat} {x1 : Int32} {T : kw_T} {n : Nat} {r : kw_R} {w : kw_L} {Q : kw_I → Prop} {E : kw_E} {G : kw_G} {d : Nat} (hm : kw_m E G cX4_readTest 5 RX4 none (rm_X4_readPlain (d + 1)) "readTest") (hr_X4_readPlain : ∀ (a0 : Nat) (x1 : Int32) (T : kw_T) (n : Nat) (r : kw_R) (i : kw_I) (w : kw_L) (Q : kw_I → Prop), T a0 = (0, 4) → k_X4_readPlain a0 x1 T n r i w Q → kw_Met E.2.1 G yX4_readPlain cX4_readPlain 4 none (rm_X4_readPlain d) [kw_a a0, kw_i x1] (T, n, r, i, w) (kw_PV (fun T' n' r' i' w' => T = T' ∧ n = n' ∧ r = r' ∧ w = w' ∧ Q i'))) (hr_X4_readTest : ∀ (a0 : Nat) (x1 : Int32) (T : kw_T) (n : Nat) (r : kw_R) (i : kw_I) (w : kw_L) (Q : kw_I → Prop), T a0 = (0, 4) → k_X4_readTest a0 x1 T n r i w Q → kw_Met E.2.1 G yX4_readTest cX4_readTest 5 none (rm_X4_readPlain d) [kw_a a0, kw_i x1] (T, n, r, i, w) (kw_PV (fun T' n' r' i' w' => T = T' ∧ n = n' ∧ r = r' ∧ w = w' ∧ Q i'))) (h0 : T a0 = (0, 4))    (x2 : Int32) (i : kw_I) (h : w_X4_readTest_93 k_X4_readPlain k_X4_readTest a0 x1 T n r w Q  x2 i) : kw_K E G 5 0 0 (kw_Z E G 0 0 (kw_PV (fun T' n' r' i' w' => T = T' ∧ n = n' ∧ r = r' ∧ w = w' ∧ Q i'))) 93 [(0, kw_a a0), (1, kw_i x1), (2, kw_i x2)] [] T n r i w := by
  refine kk_aload_n hm.1 0 dX4_readTest_93 rfl rfl ?_
  refine kk_iload_n hm.1 2 dX4_readTest_94 rfl rfl ?_
  refine kk_callVv (cs' := 0) (sl' := 0) (st := []) hm.1 cv_X4_93 (t_X4_skipToHere h0 h) dX4_readTest_95 h0 rfl rfl hm.2.2.1 (rmi_X4_readPlain d (by decide) (by decide)) ⟨Nat.le_refl _, Nat.le_refl _⟩ rfl rfl (Nat.le_of_ble_eq_true rfl) rfl ?_
  rintro _ _ _ i95 _ ⟨rfl, rfl, rfl, rfl, h⟩
  exact kk_vret hm.1 hm.2.1 dX4_readTest_98 ⟨rfl, rfl, rfl, rfl, rfl, h⟩
set_option maxHeartbeats 4000000 in
set_option maxRecDepth 100000 in
theorem qs_X4_readTest_9 {k_X4_readPlain : Nat → Int32 → kw_T → Nat → kw_R → kw_I → kw_L → (kw_I → Prop) → Prop} {k_X4_readTest : Nat → Int32 → kw_T → Nat → kw_R → kw_I → kw_L → (kw_I → Prop) → Prop} {a0 : Nat} {x1 : Int32} {T : kw_T} {n : Nat} {r : kw_R} {w : kw_L} {Q : kw_I → Prop} {E : kw_E} {G : kw_G} {d : Nat} (hm : kw_m E G cX4_readTest 5 RX4 none (rm_X4_readPlain (d + 1)) "readTest") (hr_X4_readPlain : ∀ (a0 : Nat) (x1 : Int32) (T : kw_T) (n : Nat) (r : kw_R) (i : kw_I) (w : kw_L) (Q : kw_I → Prop), T a0 = (0, 4) → k_X4_readPlain a0 x1 T n r i w Q → kw_Met E.2.1 G yX4_readPlain cX4_readPlain 4 none (rm_X4_readPlain d) [kw_a a0, kw_i x1] (T, n, r, i, w) (kw_PV (fun T' n' r' i' w' => T = T' ∧ n = n' ∧ r = r' ∧ w = w' ∧ Q i'))) (hr_X4_readTest : ∀ (a0 : Nat) (x1 : Int32) (T : kw_T) (n : Nat) (r : kw_R) (i : kw_I) (w : kw_L) (Q : kw_I → Prop), T a0 = (0, 4) → k_X4_readTest a0 x1 T n r i w Q → kw_Met E.2.1 G yX4_readTest cX4_readTest 5 none (rm_X4_readPlain d) [kw_a a0, kw_i x1] (T, n, r, i, w) (kw_PV (fun T' n' r' i' w' => T = T' ∧ n = n' ∧ r = r' ∧ w = w' ∧ Q i'))) (h0 : T a0 = (0, 4))    {k9 : Int32 → Int32 → kw_I → Prop} (hk9 : ∀ (x2 : Int32) (x3 : Int32) (i : kw_I), k9 x2 x3 i → kw_K E G 5 0 0 (kw_Z E G 0 0 (kw_PV (fun T' n' r' i' w' => T = T' ∧ n = n' ∧ r = r' ∧ w = w' ∧ Q i'))) 9 [(0, kw_a a0), (1, kw_i x1), (2, kw_i x2), (3, kw_i x3)] [] T n r i w) (x2 : Int32) (x3 : Int32) (i : kw_I) (h : s_X4_readTest_9 k_X4_readPlain k_X4_readTest a0 x1 T n r w Q  k9 x2 x3 i) : kw_K E G 5 0 0 (kw_Z E G 0 0 (kw_PV (fun T' n' r' i' w' => T = T' ∧ n = n' ∧ r = r' ∧ w = w' ∧ Q i'))) 9 [(0, kw_a a0), (1, kw_i x1), (2, kw_i x2), (3, kw_i x3)] [] T n r i w := by
  refine kk_iload_n hm.1 3 dX4_readTest_9 rfl rfl ?_
  refine kk_sipush (v := (400 : Int32)) hm.1 dX4_readTest_10 (by decide) ?_
  refine kk_icmp_ge (tgt := 93) hm.1 dX4_readTest_13 (by decide) (fun c13 => ?_) (fun c13 => ?_)
  · have h := h.1 c13
    refine kk_loc (L' := [(0, kw_a a0), (1, kw_i x1), (2, kw_i x2)]) [0, 1, 2] rfl ?_
    exact q_X4_readTest_93 hm hr_X4_readPlain hr_X4_readTest h0   x2 i h
  · have h := h.2 c13
    refine kk_aload_n hm.1 0 dX4_readTest_16 rfl rfl ?_
    refine kk_ldcS (j := 12) hm.1 dX4_readTest_17 (by decide) rfl ?_
    refine kk_callVi (cs' := 0) (sl' := 0) (st := []) hm.1 cv_X4_54 (t_X4_takeWord h0 h) dX4_readTest_19 h0 rfl rfl hm.2.2.1 (rmi_X4_readPlain d (by decide) (by decide)) ⟨Nat.le_refl _, Nat.le_refl _⟩ rfl rfl (Nat.le_of_ble_eq_true rfl) rfl ?_
    rintro v19 _ _ _ i19 _ ⟨rfl, rfl, rfl, rfl, h⟩
    refine kk_if_eq (tgt := 52) hm.1 dX4_readTest_22 (by decide) (fun c22 => ?_) (fun c22 => ?_)
    · have h := h.1 c22
      refine kk_aload_n hm.1 0 dX4_readTest_52 rfl rfl ?_
      refine kk_ldcS (j := 13) hm.1 dX4_readTest_53 (by decide) rfl ?_
      refine kk_callVi (cs' := 0) (sl' := 0) (st := []) hm.1 cv_X4_98 (t_X4_isWord h0 h) dX4_readTest_55 h0 rfl rfl hm.2.2.1 (rmi_X4_readPlain d (by decide) (by decide)) ⟨Nat.le_refl _, Nat.le_refl _⟩ rfl rfl (Nat.le_of_ble_eq_true rfl) rfl ?_
      rintro v55 _ _ _ _ _ ⟨rfl, rfl, rfl, rfl, rfl, h⟩
      refine kk_if_eq (tgt := 93) hm.1 dX4_readTest_58 (by decide) (fun c58 => ?_) (fun c58 => ?_)
      · have h := h.1 c58
        refine kk_loc (L' := [(0, kw_a a0), (1, kw_i x1), (2, kw_i x2)]) [0, 1, 2] rfl ?_
        exact q_X4_readTest_93 hm hr_X4_readPlain hr_X4_readTest h0   x2 i19 h
      · have h := h.2 c58
        refine kk_aload_n hm.1 0 dX4_readTest_61 rfl rfl ?_
        refine kk_callVv (cs' := 0) (sl' := 0) (st := []) hm.1 cv_X4_49 (t_X4_step h0 h) dX4_readTest_62 h0 rfl rfl hm.2.2.1 (rmi_X4_readPlain d (by decide) (by decide)) ⟨Nat.le_refl _, Nat.le_refl _⟩ rfl rfl (Nat.le_of_ble_eq_true rfl) rfl ?_
        rintro _ _ _ i62 _ ⟨rfl, rfl, rfl, rfl, h⟩
        refine kk_aload_n hm.1 0 dX4_readTest_65 rfl rfl ?_
        refine kk_iload_n hm.1 2 dX4_readTest_66 rfl rfl ?_
        refine kk_callVv (cs' := 0) (sl' := 0) (st := []) hm.1 cv_X4_93 (t_X4_skipToHere h0 h) dX4_readTest_67 h0 rfl rfl hm.2.2.1 (rmi_X4_readPlain d (by decide) (by decide)) ⟨Nat.le_refl _, Nat.le_refl _⟩ rfl rfl (Nat.le_of_ble_eq_true rfl) rfl ?_
        rintro _ _ _ i67 _ ⟨rfl, rfl, rfl, rfl, h⟩
        refine kk_aload_n hm.1 0 dX4_readTest_70 rfl rfl ?_
        refine kk_getI hm.1 ff_X4_34 dX4_readTest_71 h0 ?_
        refine kk_istore_n (L' := [(2, kw_i (i67 a0 7)), (0, kw_a a0), (1, kw_i x1), (3, kw_i x3)]) hm.1 dX4_readTest_74 rfl (by decide) rfl ?_
        refine kk_aload_n hm.1 1 dX4_readTest_75 rfl rfl ?_
        refine kk_bipush (v := (11 : Int32)) hm.1 dX4_readTest_76 (by decide) ?_
        refine kk_iconst (v := (0 : Int32)) hm.1 dX4_readTest_78 (by decide) ?_
        refine kk_callVv (cs' := 0) (sl' := 0) (st := []) hm.1 cv_X4_89 (t_X4_emit h0 h) dX4_readTest_79 h0 rfl rfl hm.2.2.1 (rmi_X4_readPlain d (by decide) (by decide)) ⟨Nat.le_refl _, Nat.le_refl _⟩ rfl rfl (Nat.le_of_ble_eq_true rfl) rfl ?_
        rintro _ _ _ i79 _ ⟨rfl, rfl, rfl, rfl, h⟩
        refine kk_aload_n hm.1 1 dX4_readTest_82 rfl rfl ?_
        refine kk_iload_n hm.1 2 dX4_readTest_83 rfl rfl ?_
        refine kk_callVv (cs' := 0) (sl' := 0) (st := []) hm.1 cv_X4_84 (hr_X4_readPlain a0 x1 T n r i79 w _ h0 h) dX4_readTest_84 h0 rfl rfl hm.2.2.1 (rms_X4_readPlain d (by decide)) ⟨Nat.le_refl _, Nat.le_refl _⟩ rfl rfl (Nat.le_of_ble_eq_true rfl) rfl ?_
        rintro _ _ _ i84 _ ⟨rfl, rfl, rfl, rfl, h⟩
        refine kk_loc (L' := [(0, kw_a a0), (1, kw_i x1), (2, kw_i (i67 a0 7)), (3, kw_i x3)]) [1, 2, 0, 3] rfl ?_
        exact q_X4_readTest_87 hm hr_X4_readPlain hr_X4_readTest h0  hk9 ((i67 a0 7)) x3 i84 h
    · have h := h.2 c22
      refine kk_aload_n hm.1 0 dX4_readTest_25 rfl rfl ?_
      refine kk_getI hm.1 ff_X4_34 dX4_readTest_26 h0 ?_
      refine kk_istore (L' := [(4, kw_i (i19 a0 7)), (0, kw_a a0), (1, kw_i x1), (2, kw_i x2), (3, kw_i x3)]) hm.1 dX4_readTest_29 (by decide) rfl ?_
      refine kk_aload_n hm.1 1 dX4_readTest_31 rfl rfl ?_
      refine kk_bipush (v := (10 : Int32)) hm.1 dX4_readTest_32 (by decide) ?_
      refine kk_iconst (v := (0 : Int32)) hm.1 dX4_readTest_34 (by decide) ?_
      refine kk_callVv (cs' := 0) (sl' := 0) (st := []) hm.1 cv_X4_89 (t_X4_emit h0 h) dX4_readTest_35 h0 rfl rfl hm.2.2.1 (rmi_X4_readPlain d (by decide) (by decide)) ⟨Nat.le_refl _, Nat.le_refl _⟩ rfl rfl (Nat.le_of_ble_eq_true rfl) rfl ?_
      rintro _ _ _ i35 _ ⟨rfl, rfl, rfl, rfl, h⟩
      refine kk_aload_n hm.1 1 dX4_readTest_38 rfl rfl ?_
      refine kk_iload_n hm.1 2 dX4_readTest_39 rfl rfl ?_
      refine kk_callVv (cs' := 0) (sl' := 0) (st := []) hm.1 cv_X4_84 (hr_X4_readPlain a0 x1 T n r i35 w _ h0 h) dX4_readTest_40 h0 rfl rfl hm.2.2.1 (rms_X4_readPlain d (by decide)) ⟨Nat.le_refl _, Nat.le_refl _⟩ rfl rfl (Nat.le_of_ble_eq_true rfl) rfl ?_
      rintro _ _ _ i40 _ ⟨rfl, rfl, rfl, rfl, h⟩
      refine kk_aload_n hm.1 1 dX4_readTest_43 rfl rfl ?_
      refine kk_iload hm.1 0 dX4_readTest_44 rfl ?_
      refine kk_callVv (cs' := 0) (sl' := 0) (st := []) hm.1 cv_X4_93 (t_X4_skipToHere h0 h) dX4_readTest_46 h0 rfl rfl hm.2.2.1 (rmi_X4_readPlain d (by decide) (by decide)) ⟨Nat.le_refl _, Nat.le_refl _⟩ rfl rfl (Nat.le_of_ble_eq_true rfl) rfl ?_
      rintro _ _ _ i46 _ ⟨rfl, rfl, rfl, rfl, h⟩
      refine kk_goto (tgt := 87) hm.1 dX4_readTest_49 (by decide) ?_
      refine kk_loc (L' := [(0, kw_a a0), (1, kw_i x1), (2, kw_i x2), (3, kw_i x3)]) [1, 2, 3, 4] rfl ?_
      exact q_X4_readTest_87 hm hr_X4_readPlain hr_X4_readTest h0  hk9 x2 x3 i46 h
set_option maxHeartbeats 4000000 in
set_option maxRecDepth 100000 in
theorem q_X4_readTest_9 {k_X4_readPlain : Nat → Int32 → kw_T → Nat → kw_R → kw_I → kw_L → (kw_I → Prop) → Prop} {k_X4_readTest : Nat → Int32 → kw_T → Nat → kw_R → kw_I → kw_L → (kw_I → Prop) → Prop} {a0 : Nat} {x1 : Int32} {T : kw_T} {n : Nat} {r : kw_R} {w : kw_L} {Q : kw_I → Prop} {E : kw_E} {G : kw_G} {d : Nat} (hm : kw_m E G cX4_readTest 5 RX4 none (rm_X4_readPlain (d + 1)) "readTest") (hr_X4_readPlain : ∀ (a0 : Nat) (x1 : Int32) (T : kw_T) (n : Nat) (r : kw_R) (i : kw_I) (w : kw_L) (Q : kw_I → Prop), T a0 = (0, 4) → k_X4_readPlain a0 x1 T n r i w Q → kw_Met E.2.1 G yX4_readPlain cX4_readPlain 4 none (rm_X4_readPlain d) [kw_a a0, kw_i x1] (T, n, r, i, w) (kw_PV (fun T' n' r' i' w' => T = T' ∧ n = n' ∧ r = r' ∧ w = w' ∧ Q i'))) (hr_X4_readTest : ∀ (a0 : Nat) (x1 : Int32) (T : kw_T) (n : Nat) (r : kw_R) (i : kw_I) (w : kw_L) (Q : kw_I → Prop), T a0 = (0, 4) → k_X4_readTest a0 x1 T n r i w Q → kw_Met E.2.1 G yX4_readTest cX4_readTest 5 none (rm_X4_readPlain d) [kw_a a0, kw_i x1] (T, n, r, i, w) (kw_PV (fun T' n' r' i' w' => T = T' ∧ n = n' ∧ r = r' ∧ w = w' ∧ Q i'))) (h0 : T a0 = (0, 4))    : ∀ (N : Nat) (x2 : Int32) (x3 : Int32) (i : kw_I), w_X4_readTest_9 k_X4_readPlain k_X4_readTest a0 x1 T n r w Q  N x2 x3 i → kw_K E G 5 0 0 (kw_Z E G 0 0 (kw_PV (fun T' n' r' i' w' => T = T' ∧ n = n' ∧ r = r' ∧ w = w' ∧ Q i'))) 9 [(0, kw_a a0), (1, kw_i x1), (2, kw_i x2), (3, kw_i x3)] [] T n r i w := by
  intro N
  induction N with
  | zero => intro x2 x3 i h; exact h.elim
  | succ N ih => intro x2 x3 i h; exact qs_X4_readTest_9 hm hr_X4_readPlain hr_X4_readTest h0  ih x2 x3 i h
set_option maxHeartbeats 4000000 in
set_option maxRecDepth 100000 in
theorem t_X4_readTest {l : Launch} {G : kw_G} {d : Nat} {k_X4_readPlain : Nat → Int32 → kw_T → Nat → kw_R → kw_I → kw_L → (kw_I → Prop) → Prop} {k_X4_readTest : Nat → Int32 → kw_T → Nat → kw_R → kw_I → kw_L → (kw_I → Prop) → Prop} {a0 : Nat} {x1 : Int32} {T : kw_T} {n : Nat} {r : kw_R} {i : kw_I} {w : kw_L} {Q : kw_I → Prop} (hr_X4_readPlain : ∀ (a0 : Nat) (x1 : Int32) (T : kw_T) (n : Nat) (r : kw_R) (i : kw_I) (w : kw_L) (Q : kw_I → Prop), T a0 = (0, 4) → k_X4_readPlain a0 x1 T n r i w Q → kw_Met l G yX4_readPlain cX4_readPlain 4 none (rm_X4_readPlain d) [kw_a a0, kw_i x1] (T, n, r, i, w) (kw_PV (fun T' n' r' i' w' => T = T' ∧ n = n' ∧ r = r' ∧ w = w' ∧ Q i'))) (hr_X4_readTest : ∀ (a0 : Nat) (x1 : Int32) (T : kw_T) (n : Nat) (r : kw_R) (i : kw_I) (w : kw_L) (Q : kw_I → Prop), T a0 = (0, 4) → k_X4_readTest a0 x1 T n r i w Q → kw_Met l G yX4_readTest cX4_readTest 5 none (rm_X4_readPlain d) [kw_a a0, kw_i x1] (T, n, r, i, w) (kw_PV (fun T' n' r' i' w' => T = T' ∧ n = n' ∧ r = r' ∧ w = w' ∧ Q i'))) (h0 : T a0 = (0, 4)) (h : w_X4_readTest k_X4_readPlain k_X4_readTest a0 x1 T n r i w Q) : kw_Met l G yX4_readTest cX4_readTest 5 none (rm_X4_readPlain (d + 1)) [kw_a a0, kw_i x1] (T, n, r, i, w) (kw_PV (fun T' n' r' i' w' => T = T' ∧ n = n' ∧ r = r' ∧ w = w' ∧ Q i')) := by
  refine kw_Met.of (by decide) (Nat.le_of_ble_eq_true rfl) fun E hl hRm hE hT hnm => ?_
  have hm : kw_m E G cX4_readTest 5 RX4 none (rm_X4_readPlain (d + 1)) "readTest" := ⟨hE, hT, hRm, hnm⟩
  subst hl
  show kw_K E G 5 0 0 (kw_Z E G 0 0 (kw_PV (fun T' n' r' i' w' => T = T' ∧ n = n' ∧ r = r' ∧ w = w' ∧ Q i'))) 0 [(0, kw_a a0), (1, kw_i x1)] [] T n r i w
  refine kk_iconst (v := (-1 : Int32)) hm.1 dX4_readTest_0 (by decide) ?_
  refine kk_istore_n (L' := [(2, kw_i (-1 : Int32)), (0, kw_a a0), (1, kw_i x1)]) hm.1 dX4_readTest_1 rfl (by decide) rfl ?_
  refine kk_aload_n hm.1 1 dX4_readTest_2 rfl rfl ?_
  refine kk_iload_n hm.1 2 dX4_readTest_3 rfl rfl ?_
  refine kk_callVv (cs' := 0) (sl' := 0) (st := []) hm.1 cv_X4_84 (hr_X4_readPlain a0 x1 T n r i w _ h0 h) dX4_readTest_4 h0 rfl rfl hm.2.2.1 (rms_X4_readPlain d (by decide)) ⟨Nat.le_refl _, Nat.le_refl _⟩ rfl rfl (Nat.le_of_ble_eq_true rfl) rfl ?_
  rintro _ _ _ i4 _ ⟨rfl, rfl, rfl, rfl, h⟩
  refine kk_iconst (v := (0 : Int32)) hm.1 dX4_readTest_7 (by decide) ?_
  refine kk_istore_n (L' := [(3, kw_i (0 : Int32)), (2, kw_i (-1 : Int32)), (0, kw_a a0), (1, kw_i x1)]) hm.1 dX4_readTest_8 rfl (by decide) rfl ?_
  refine kk_loc (L' := [(0, kw_a a0), (1, kw_i x1), (2, kw_i (-1 : Int32)), (3, kw_i (0 : Int32))]) [2, 3, 1, 0] rfl ?_
  obtain ⟨N, h⟩ := h
  exact q_X4_readTest_9 hm hr_X4_readPlain hr_X4_readTest h0   N ((-1 : Int32)) ((0 : Int32)) i4 h
def g_X4_readPlain : Nat → (Nat → Int32 → kw_T → Nat → kw_R → kw_I → kw_L → (kw_I → Prop) → Prop) × (Nat → Int32 → kw_T → Nat → kw_R → kw_I → kw_L → (kw_I → Prop) → Prop)
  | 0 => (fun _ _ _ _ _ _ _ _ => False, fun _ _ _ _ _ _ _ _ => False)
  | d + 1 => (w_X4_readPlain (g_X4_readPlain d).1 (g_X4_readPlain d).2, w_X4_readTest (g_X4_readPlain d).1 (g_X4_readPlain d).2)
set_option maxHeartbeats 4000000 in
set_option maxRecDepth 100000 in
theorem tg_X4_readPlain (l : Launch) (G : kw_G) : ∀ d : Nat, (∀ (a0 : Nat) (x1 : Int32) (T : kw_T) (n : Nat) (r : kw_R) (i : kw_I) (w : kw_L) (Q : kw_I → Prop), T a0 = (0, 4) → (g_X4_readPlain d).1 a0 x1 T n r i w Q → kw_Met l G yX4_readPlain cX4_readPlain 4 none (rm_X4_readPlain d) [kw_a a0, kw_i x1] (T, n, r, i, w) (kw_PV (fun T' n' r' i' w' => T = T' ∧ n = n' ∧ r = r' ∧ w = w' ∧ Q i'))) ∧ (∀ (a0 : Nat) (x1 : Int32) (T : kw_T) (n : Nat) (r : kw_R) (i : kw_I) (w : kw_L) (Q : kw_I → Prop), T a0 = (0, 4) → (g_X4_readPlain d).2 a0 x1 T n r i w Q → kw_Met l G yX4_readTest cX4_readTest 5 none (rm_X4_readPlain d) [kw_a a0, kw_i x1] (T, n, r, i, w) (kw_PV (fun T' n' r' i' w' => T = T' ∧ n = n' ∧ r = r' ∧ w = w' ∧ Q i')))
  | 0 => ⟨fun a0 x1 T n r i w Q h0 h => h.elim, fun a0 x1 T n r i w Q h0 h => h.elim⟩
  | d + 1 => have ih := tg_X4_readPlain l G d
    ⟨fun a0 x1 T n r i w Q h0 h => t_X4_readPlain ih.1 ih.2 h0 h, fun a0 x1 T n r i w Q h0 h => t_X4_readTest ih.1 ih.2 h0 h⟩
def w_J7_copyOf_59c91  (a0 : Nat) (x1 : Int32) (T : kw_T) (n : Nat) (r : kw_R) (i : kw_I) (w : kw_L) (Q : Nat → kw_T → Nat → kw_I → Prop) : Prop :=
  (T a0).1 = 1 ∧ ((¬ x1 = ((T a0).2.toInt32) → kw_al n 1 ∧ ((¬ x1 < 0) ∧ ((x1).toNatClampNeg ≤ 400 ∧ (∀ (T15 : kw_T) (i15 : kw_I), T15 = kw_row T n (1, (x1).toNatClampNeg) → i15 = kw_row i n (fun _ => 0) → ((T15 a0).1 = 1 ∧ (kw_cpo T15 a0 n (0 : Int32) (0 : Int32) (if x1 < ((T15 a0).2.toInt32) then x1 else ((T15 a0).2.toInt32)) ∧ (∀ i28 : kw_I, i28 = kw_cpy i15 a0 n ((0 : Int32)).toNatClampNeg ((0 : Int32)).toNatClampNeg ((if x1 < ((T15 a0).2.toInt32) then x1 else ((T15 a0).2.toInt32))).toNatClampNeg → (Q n T15 (n + 1) i28)))))))) ∧ (x1 = ((T a0).2.toInt32) → (T a0).1 = 1 ∧ (kw_al n 1 ∧ ((T a0).2 ≤ 400 ∧ (∀ (T7 : kw_T) (i7 : kw_I), T7 = kw_row T n (1, (T a0).2) → i7 = kw_row i n (i a0) → ((T7 n).1 = 1 ∧ (Q n T7 (n + 1) i7)))))))
abbrev rm_J7_copyOf_59c91 : Room := { frames := 1, cells := 1, slots := 400, locals := 60 }
set_option maxHeartbeats 4000000 in
set_option maxRecDepth 100000 in
theorem t_J7_copyOf_59c91 {l : Launch} {G : kw_G} {a0 : Nat} {x1 : Int32} {T : kw_T} {n : Nat} {r : kw_R} {i : kw_I} {w : kw_L} {Q : Nat → kw_T → Nat → kw_I → Prop} (h : w_J7_copyOf_59c91 a0 x1 T n r i w Q) : kw_Met l G yJ7_copyOf_59c91 cJ7_copyOf_59c91 3 (some (.array .int)) rm_J7_copyOf_59c91 [kw_a a0, kw_i x1] (T, n, r, i, w) (kw_PA (fun v T' n' r' i' w' => r = r' ∧ w = w' ∧ Q v T' n' i')) := by
  refine kw_Met.of (by decide) (Nat.le_of_ble_eq_true rfl) fun E hl hRm hE hT hnm => ?_
  have hm : kw_m E G cJ7_copyOf_59c91 3 RJ7 (some (.array .int)) rm_J7_copyOf_59c91 "copyOf" := ⟨hE, hT, hRm, hnm⟩
  subst hl
  show kw_K E G 3 0 0 (kw_Z E G 1 400 (kw_PA (fun v T' n' r' i' w' => r = r' ∧ w = w' ∧ Q v T' n' i'))) 0 [(0, kw_a a0), (1, kw_i x1)] [] T n r i w
  refine kk_iload_n hm.1 1 dJ7_copyOf_59c91_0 rfl rfl ?_
  refine kk_aload_n hm.1 0 dJ7_copyOf_59c91_1 rfl rfl ?_
  obtain ⟨o2, h⟩ := h
  refine kk_alen hm.1 1 (by decide) (by decide) rfl dJ7_copyOf_59c91_2 o2 ?_
  refine kk_icmp_ne (tgt := 14) hm.1 dJ7_copyOf_59c91_3 (by decide) (fun c3 => ?_) (fun c3 => ?_)
  · have h := h.1 c3
    refine kk_iload_n hm.1 1 dJ7_copyOf_59c91_14 rfl rfl ?_
    obtain ⟨o15, h⟩ := h
    obtain ⟨oa15, h⟩ := h
    obtain ⟨ob15, h⟩ := h
    refine kn_newaI (m := (x1).toNatClampNeg) hm.1 1 (by decide) (by decide) rfl wa_1 dJ7_copyOf_59c91_15 oa15 rfl (Nat.le_trans ob15 (by decide)) o15 hm.2.2.1 (by decide) (by show 0 + _ ≤ 400; omega) rfl rfl (fun T15 i15 e15 f15 => ?_)
    have h := h T15 i15 e15 f15
    refine kk_widen (cs' := 1) (sl' := 400) (by decide) (by show 0 + _ ≤ 400; omega) ?_
    refine kk_astore_n (L' := [(2, kw_a n), (0, kw_a a0), (1, kw_i x1)]) hm.1 dJ7_copyOf_59c91_17 rfl (by decide) rfl ?_
    refine kk_aload_n hm.1 1 dJ7_copyOf_59c91_18 rfl rfl ?_
    refine kk_iconst (v := (0 : Int32)) hm.1 dJ7_copyOf_59c91_19 (by decide) ?_
    refine kk_aload_n hm.1 0 dJ7_copyOf_59c91_20 rfl rfl ?_
    refine kk_iconst (v := (0 : Int32)) hm.1 dJ7_copyOf_59c91_21 (by decide) ?_
    refine kk_aload_n hm.1 1 dJ7_copyOf_59c91_22 rfl rfl ?_
    obtain ⟨o23, h⟩ := h
    refine kk_alen hm.1 1 (by decide) (by decide) rfl dJ7_copyOf_59c91_23 o23 ?_
    refine kk_iload_n hm.1 2 dJ7_copyOf_59c91_24 rfl rfl ?_
    refine kn_mmin (st := [kw_i (0 : Int32), kw_a n, kw_i (0 : Int32), kw_a a0]) hm.1 wm_J7_304 wmmin_s wo_m wmmin_c dJ7_copyOf_59c91_25 hm.2.2.1 (by decide) (Nat.le_of_ble_eq_true rfl) (by decide) (by decide) ?_
    obtain ⟨o28, h⟩ := h
    refine kn_copy (st := []) hm.1 wm_J7_150 wcp_n wcp_s wcp_i dJ7_copyOf_59c91_28 hm.2.2.1 (by decide) (by show _ + (_ + 11) ≤ _; exact Nat.le_of_ble_eq_true rfl) o28 (fun i28 e28 => ?_)
    have h := h i28 e28
    refine kk_aload_n hm.1 0 dJ7_copyOf_59c91_31 rfl rfl ?_
    exact kk_aret hm.1 hm.2.1 (by first | exact Or.inl ⟨_, rfl⟩ | exact Or.inr ⟨_, rfl⟩) dJ7_copyOf_59c91_32 ⟨_, rfl, rfl, rfl, h⟩
  · have h := h.2 c3
    refine kk_aload_n hm.1 0 dJ7_copyOf_59c91_6 rfl rfl ?_
    obtain ⟨o7, h⟩ := h
    obtain ⟨oa7, h⟩ := h
    obtain ⟨ob7, h⟩ := h
    refine kn_clone (st := []) hm.1 wm_J7_316 wcl_1 wcl_2 wcl_3 wcl_4 wcl_5 dJ7_copyOf_59c91_7 o7 oa7 hm.2.2.1 (by decide) (Nat.le_of_ble_eq_true rfl) (by decide) (by show 0 + _ ≤ 400; omega) rfl (fun T7 i7 e7 f7 => ?_)
    have h := h T7 i7 e7 f7
    refine kk_widen (cs' := 1) (sl' := 400) (by decide) (by show 0 + _ ≤ 400; omega) ?_
    obtain ⟨o10, h⟩ := h
    refine kk_castI (m := (T7 n).2) hm.1 wk_J7_317 dJ7_copyOf_59c91_10 (by rw [← o10]) ?_
    exact kk_aret hm.1 hm.2.1 (by first | exact Or.inl ⟨_, rfl⟩ | exact Or.inr ⟨_, rfl⟩) dJ7_copyOf_59c91_13 ⟨_, rfl, rfl, rfl, h⟩
def w_X4_readLaw_89 (a0 : Nat) (a1 : Nat) (x2 : Int32) (w : kw_L) (Q : Nat → kw_T → Nat → kw_R → kw_I → Prop) (k41 : Int32 → kw_T → Nat → kw_R → kw_I → Prop) (x3 : Int32) (T : kw_T) (n : Nat) (r : kw_R) (i : kw_I) : Prop :=
  T a0 = (0, 4) ∧ (kw_in T 1 (r a0 1) (x3 + (1 : Int32)) ∧ (∀ i100 : kw_I, i100 = kw_st i (r a0 1) ((x3 + (1 : Int32))).toNatClampNeg (i a0 7) → ((¬ (i100 a0 6) = (258 : Int32) → w_X4_takeSign a0 (59 : Int32) T n r i100 w (fun i146 => ((i146 a0 9) = (-1 : Int32) → k41 ((x3 + (1 : Int32))) T n r i146) ∧ (¬ (i146 a0 9) = (-1 : Int32) → Q 0 T n r i146))) ∧ ((i100 a0 6) = (258 : Int32) → kw_al n 1 ∧ (∀ (T111 : kw_T) (r111 : kw_R) (i111 : kw_I), T111 = kw_row T n (0, 1) → r111 = kw_row r n (fun _ => 0) → i111 = kw_row i100 n (fun _ => 0) → (T111 a0 = (0, 4) ∧ (w_J7_copyOf_59c91 (r111 a0 1) (x3 + (2 : Int32)) T111 (n + 1) r111 i111 w (fun v125 T125 n125 i125 => T125 a0 = (0, 4) ∧ (w_J7_copyOf_59c91 (r111 a0 0) (i125 a0 7) T125 n125 r111 i125 w (fun v136 T136 n136 i136 => T136 n = (0, 1) ∧ (w_X1_init n (x3 + (1 : Int32)) v125 v136 T136 n136 r111 i136 w (fun r139 i139 => Q n T136 n136 r139 i139))))))))))))
def w_X4_readLaw_70 (a0 : Nat) (a1 : Nat) (x2 : Int32) (w : kw_L) (Q : Nat → kw_T → Nat → kw_R → kw_I → Prop) (k41 : Int32 → kw_T → Nat → kw_R → kw_I → Prop) (x3 : Int32) (T : kw_T) (n : Nat) (r : kw_R) (i : kw_I) : Prop :=
  T a0 = (0, 4) ∧ (∃ dd, dd ≤ 60 ∧ (g_X4_readPart dd).2 a0 (0 : Int32) T n r i w (fun i72 => w_X4_takeWord a0 (kw_SB + 10) T n r i72 w (fun v78 i78 => (v78 = 0 → w_X4_readLaw_89 a0 a1 x2 w Q k41 x3 T n r i78) ∧ (¬ v78 = 0 → ∃ dd, dd ≤ 60 ∧ (g_X4_readPlain dd).2 a0 (0 : Int32) T n r i78 w (fun i86 => w_X4_readLaw_89 a0 a1 x2 w Q k41 x3 T n r i86)))))
def s_X4_readLaw_41 (a0 : Nat) (a1 : Nat) (x2 : Int32) (w : kw_L) (Q : Nat → kw_T → Nat → kw_R → kw_I → Prop)  (k41 : Int32 → kw_T → Nat → kw_R → kw_I → Prop) (x3 : Int32) (T : kw_T) (n : Nat) (r : kw_R) (i : kw_I) : Prop :=
  ((12 : Int32) ≤ x3 → T a0 = (0, 4) ∧ (w_X4_stick a0 T n r i w (fun i166 => Q 0 T n r i166))) ∧ (¬ (12 : Int32) ≤ x3 → T a0 = (0, 4) ∧ (kw_in T 1 (r a0 1) x3 ∧ (∀ i56 : kw_I, i56 = kw_st i (r a0 1) (x3).toNatClampNeg (i a0 7) → (w_X4_takeWord a0 (kw_SB + 0) T n r i56 w (fun v60 i60 => (¬ v60 = 0 → w_X4_readLaw_70 a0 a1 x2 w Q k41 x3 T n r i60) ∧ (v60 = 0 → w_X4_stick a0 T n r i60 w (fun i67 => w_X4_readLaw_70 a0 a1 x2 w Q k41 x3 T n r i67)))))))
def w_X4_readLaw_41 (a0 : Nat) (a1 : Nat) (x2 : Int32) (w : kw_L) (Q : Nat → kw_T → Nat → kw_R → kw_I → Prop)  : Nat → Int32 → kw_T → Nat → kw_R → kw_I → Prop
  | 0 => fun _ _ _ _ _ => False
  | N + 1 => s_X4_readLaw_41 a0 a1 x2 w Q  (w_X4_readLaw_41 a0 a1 x2 w Q  N)
def w_X4_readLaw  (a0 : Nat) (a1 : Nat) (x2 : Int32) (T : kw_T) (n : Nat) (r : kw_R) (i : kw_I) (w : kw_L) (Q : Nat → kw_T → Nat → kw_R → kw_I → Prop) : Prop :=
  ∀ r2 : kw_R, r2 = kw_st r a0 2 a1 → ((T a1).1 = 1 ∧ (∀ i12 : kw_I, i12 = kw_st i a0 3 (if ((T a1).2.toInt32) < x2 then ((T a1).2.toInt32) else x2) → (∀ i17 : kw_I, i17 = kw_st i12 a0 5 (0 : Int32) → (∀ i22 : kw_I, i22 = kw_st i17 a0 7 (0 : Int32) → (∀ i27 : kw_I, i27 = kw_st i22 a0 8 (0 : Int32) → (∀ i32 : kw_I, i32 = kw_st i27 a0 9 (-1 : Int32) → (w_X4_step a0 T n r2 i32 w (fun i36 => ∃ N, w_X4_readLaw_41 a0 a1 x2 w Q  N ((0 : Int32)) T n r2 i36))))))))
abbrev rm_X4_readLaw : Room := { frames := 132, cells := 3, slots := 803, locals := 6490 }
set_option maxHeartbeats 4000000 in
set_option maxRecDepth 100000 in
theorem q_X4_readLaw_89 {a0 : Nat} {a1 : Nat} {x2 : Int32} {w : kw_L} {Q : Nat → kw_T → Nat → kw_R → kw_I → Prop} {E : kw_E} {G : kw_G} (hm : kw_m E G cX4_readLaw 4 RX4 (some (.object "KeyholeWeave$Law")) rm_X4_readLaw "readLaw")   {k41 : Int32 → kw_T → Nat → kw_R → kw_I → Prop} (hk41 : ∀ (x3 : Int32) (T : kw_T) (n : Nat) (r : kw_R) (i : kw_I), k41 x3 T n r i → kw_K E G 4 0 0 (kw_Z E G 3 803 (kw_PA (fun v T' n' r' i' w' => w = w' ∧ Q v T' n' r' i'))) 41 [(0, kw_a a0), (1, kw_a a1), (2, kw_i x2), (3, kw_i x3)] [] T n r i w) (x3 : Int32) (T : kw_T) (n : Nat) (r : kw_R) (i : kw_I) (h : w_X4_readLaw_89 a0 a1 x2 w Q k41 x3 T n r i) : kw_K E G 4 0 0 (kw_Z E G 3 803 (kw_PA (fun v T' n' r' i' w' => w = w' ∧ Q v T' n' r' i'))) 89 [(0, kw_a a0), (1, kw_a a1), (2, kw_i x2), (3, kw_i x3)] [] T n r i w := by
  refine kk_aload_n hm.1 0 dX4_readLaw_89 rfl rfl ?_
  obtain ⟨o90, h⟩ := h
  refine kk_getR hm.1 ff_X4_15 dX4_readLaw_90 o90 ?_
  refine kk_iload_n hm.1 3 dX4_readLaw_93 rfl rfl ?_
  refine kk_iconst (v := (1 : Int32)) hm.1 dX4_readLaw_94 (by decide) ?_
  refine kk_iadd hm.1 dX4_readLaw_95 ?_
  refine kk_aload_n hm.1 0 dX4_readLaw_96 rfl rfl ?_
  refine kk_getI hm.1 ff_X4_34 dX4_readLaw_97 o90 ?_
  obtain ⟨o100, h⟩ := h
  refine kn_iastore hm.1 dX4_readLaw_100 o100 (fun i100 e100 => ?_)
  have h := h i100 e100
  refine kk_aload_n hm.1 0 dX4_readLaw_101 rfl rfl ?_
  refine kk_getI hm.1 ff_X4_31 dX4_readLaw_102 o90 ?_
  refine kk_sipush (v := (258 : Int32)) hm.1 dX4_readLaw_105 (by decide) ?_
  refine kk_icmp_ne (tgt := 143) hm.1 dX4_readLaw_108 (by decide) (fun c108 => ?_) (fun c108 => ?_)
  · have h := h.1 c108
    refine kk_aload_n hm.1 0 dX4_readLaw_143 rfl rfl ?_
    refine kk_bipush (v := (59 : Int32)) hm.1 dX4_readLaw_144 (by decide) ?_
    refine kk_callVv (cs' := 0) (sl' := 0) (st := []) hm.1 cv_X4_81 (t_X4_takeSign o90 h) dX4_readLaw_146 o90 rfl rfl hm.2.2.1 ⟨by decide, by decide⟩ ⟨by decide, by decide⟩ rfl rfl (Nat.le_of_ble_eq_true rfl) rfl ?_
    rintro _ _ _ i146 _ ⟨rfl, rfl, rfl, rfl, h⟩
    refine kk_aload_n hm.1 0 dX4_readLaw_149 rfl rfl ?_
    refine kk_getI hm.1 ff_X4_40 dX4_readLaw_150 o90 ?_
    refine kk_iconst (v := (-1 : Int32)) hm.1 dX4_readLaw_153 (by decide) ?_
    refine kk_icmp_eq (tgt := 159) hm.1 dX4_readLaw_154 (by decide) (fun c154 => ?_) (fun c154 => ?_)
    · have h := h.1 c154
      refine kk_iinc (v := (x3 + (1 : Int32))) (L' := [(3, kw_i (x3 + (1 : Int32))), (0, kw_a a0), (1, kw_a a1), (2, kw_i x2)]) hm.1 3 dX4_readLaw_159 rfl rfl (by decide) rfl ?_
      refine kk_goto (tgt := 41) hm.1 dX4_readLaw_162 (by decide) ?_
      refine kk_loc (L' := [(0, kw_a a0), (1, kw_a a1), (2, kw_i x2), (3, kw_i (x3 + (1 : Int32)))]) [1, 2, 3, 0] rfl ?_
      exact hk41 ((x3 + (1 : Int32))) T n r i146 h
    · have h := h.2 c154
      refine kk_null hm.1 dX4_readLaw_157 ?_
      refine kk_widen (cs' := 3) (sl' := 803) (by decide) (by decide) ?_
      exact kk_aret hm.1 hm.2.1 (by first | exact Or.inl ⟨_, rfl⟩ | exact Or.inr ⟨_, rfl⟩) dX4_readLaw_158 ⟨_, rfl, rfl, h⟩
  · have h := h.2 c108
    obtain ⟨o111, h⟩ := h
    refine kn_new hm.1 nw_X4_70 dX4_readLaw_111 o111 hm.2.2.1 (by decide) (by decide) rfl rfl (fun T111 r111 i111 e111 f111 g111 u111 => ?_)
    have h := h T111 r111 i111 e111 f111 g111
    refine kk_dup hm.1 dX4_readLaw_114 rfl ?_
    refine kk_iload_n hm.1 3 dX4_readLaw_115 rfl rfl ?_
    refine kk_iconst (v := (1 : Int32)) hm.1 dX4_readLaw_116 (by decide) ?_
    refine kk_iadd hm.1 dX4_readLaw_117 ?_
    refine kk_aload_n hm.1 0 dX4_readLaw_118 rfl rfl ?_
    obtain ⟨o119, h⟩ := h
    refine kk_getR hm.1 ff_X4_15 dX4_readLaw_119 o119 ?_
    refine kk_iload_n hm.1 3 dX4_readLaw_122 rfl rfl ?_
    refine kk_iconst (v := (2 : Int32)) hm.1 dX4_readLaw_123 (by decide) ?_
    refine kk_iadd hm.1 dX4_readLaw_124 ?_
    refine kk_callSa (cs' := 2) (sl' := 403) (st := [kw_i (x3 + (1 : Int32)), kw_a n, kw_a n]) hm.1 cs_X4_72 (t_J7_copyOf_59c91 h) dX4_readLaw_125 rfl hm.2.2.1 ⟨by decide, by decide⟩ ⟨by decide, by decide⟩ rfl rfl (Nat.le_of_ble_eq_true rfl) rfl ?_
    rintro v125 T125 n125 _ i125 _ ⟨rfl, rfl, h⟩
    refine kk_aload_n hm.1 0 dX4_readLaw_128 rfl rfl ?_
    obtain ⟨o129, h⟩ := h
    refine kk_getR hm.1 ff_X4_9 dX4_readLaw_129 o129 ?_
    refine kk_aload_n hm.1 0 dX4_readLaw_132 rfl rfl ?_
    refine kk_getI hm.1 ff_X4_34 dX4_readLaw_133 o129 ?_
    refine kk_callSa (cs' := 3) (sl' := 803) (st := [kw_a v125, kw_i (x3 + (1 : Int32)), kw_a n, kw_a n]) hm.1 cs_X4_72 (t_J7_copyOf_59c91 h) dX4_readLaw_136 rfl hm.2.2.1 ⟨by decide, by decide⟩ ⟨by decide, by decide⟩ rfl rfl (Nat.le_of_ble_eq_true rfl) rfl ?_
    rintro v136 T136 n136 _ i136 _ ⟨rfl, rfl, h⟩
    obtain ⟨o139, h⟩ := h
    refine kk_callIv (cs' := 3) (sl' := 803) (st := [kw_a n]) hm.1 ci_X4_78 (t_X1_init o139 h) dX4_readLaw_139 o139 rfl hm.2.2.1 ⟨by decide, by decide⟩ ⟨by decide, by decide⟩ rfl rfl (Nat.le_of_ble_eq_true rfl) rfl ?_
    rintro _ _ r139 i139 _ ⟨rfl, rfl, rfl, h⟩
    exact kk_aret hm.1 hm.2.1 (by first | exact Or.inl ⟨_, rfl⟩ | exact Or.inr ⟨_, rfl⟩) dX4_readLaw_142 ⟨_, rfl, rfl, h⟩
set_option maxHeartbeats 4000000 in
set_option maxRecDepth 100000 in
theorem q_X4_readLaw_70 {a0 : Nat} {a1 : Nat} {x2 : Int32} {w : kw_L} {Q : Nat → kw_T → Nat → kw_R → kw_I → Prop} {E : kw_E} {G : kw_G} (hm : kw_m E G cX4_readLaw 4 RX4 (some (.object "KeyholeWeave$Law")) rm_X4_readLaw "readLaw")   {k41 : Int32 → kw_T → Nat → kw_R → kw_I → Prop} (hk41 : ∀ (x3 : Int32) (T : kw_T) (n : Nat) (r : kw_R) (i : kw_I), k41 x3 T n r i → kw_K E G 4 0 0 (kw_Z E G 3 803 (kw_PA (fun v T' n' r' i' w' => w = w' ∧ Q v T' n' r' i'))) 41 [(0, kw_a a0), (1, kw_a a1), (2, kw_i x2), (3, kw_i x3)] [] T n r i w) (x3 : Int32) (T : kw_T) (n : Nat) (r : kw_R) (i : kw_I) (h : w_X4_readLaw_70 a0 a1 x2 w Q k41 x3 T n r i) : kw_K E G 4 0 0 (kw_Z E G 3 803 (kw_PA (fun v T' n' r' i' w' => w = w' ∧ Q v T' n' r' i'))) 70 [(0, kw_a a0), (1, kw_a a1), (2, kw_i x2), (3, kw_i x3)] [] T n r i w := by
  refine kk_aload_n hm.1 0 dX4_readLaw_70 rfl rfl ?_
  refine kk_iconst (v := (0 : Int32)) hm.1 dX4_readLaw_71 (by decide) ?_
  obtain ⟨o72, h⟩ := h
  obtain ⟨dd, hd, h⟩ := h
  refine kk_callVv (cs' := 0) (sl' := 0) (st := []) hm.1 cv_X4_61 ((tg_X4_readPart E.2.1 G dd).2 a0 (0 : Int32) T n r i w _ o72 h) dX4_readLaw_72 o72 rfl rfl hm.2.2.1 (rmo_X4_readPart hd (by decide) (by decide)) ⟨by show 0 ≤ 3; decide, by show 0 ≤ 803; decide⟩ rfl rfl (Nat.le_of_ble_eq_true rfl) rfl ?_
  rintro _ _ _ i72 _ ⟨rfl, rfl, rfl, rfl, h⟩
  refine kk_aload_n hm.1 0 dX4_readLaw_75 rfl rfl ?_
  refine kk_ldcS (j := 10) hm.1 dX4_readLaw_76 (by decide) rfl ?_
  refine kk_callVi (cs' := 0) (sl' := 0) (st := []) hm.1 cv_X4_54 (t_X4_takeWord o72 h) dX4_readLaw_78 o72 rfl rfl hm.2.2.1 ⟨by decide, by decide⟩ ⟨by decide, by decide⟩ rfl rfl (Nat.le_of_ble_eq_true rfl) rfl ?_
  rintro v78 _ _ _ i78 _ ⟨rfl, rfl, rfl, rfl, h⟩
  refine kk_if_eq (tgt := 89) hm.1 dX4_readLaw_81 (by decide) (fun c81 => ?_) (fun c81 => ?_)
  · have h := h.1 c81
    exact q_X4_readLaw_89 hm   hk41 x3 T n r i78 h
  · have h := h.2 c81
    refine kk_aload_n hm.1 0 dX4_readLaw_84 rfl rfl ?_
    refine kk_iconst (v := (0 : Int32)) hm.1 dX4_readLaw_85 (by decide) ?_
    obtain ⟨dd, hd, h⟩ := h
    refine kk_callVv (cs' := 0) (sl' := 0) (st := []) hm.1 cv_X4_67 ((tg_X4_readPlain E.2.1 G dd).2 a0 (0 : Int32) T n r i78 w _ o72 h) dX4_readLaw_86 o72 rfl rfl hm.2.2.1 (rmo_X4_readPlain hd (by decide) (by decide)) ⟨by show 0 ≤ 3; decide, by show 0 ≤ 803; decide⟩ rfl rfl (Nat.le_of_ble_eq_true rfl) rfl ?_
    rintro _ _ _ i86 _ ⟨rfl, rfl, rfl, rfl, h⟩
    exact q_X4_readLaw_89 hm   hk41 x3 T n r i86 h
set_option maxHeartbeats 4000000 in
set_option maxRecDepth 100000 in
theorem qs_X4_readLaw_41 {a0 : Nat} {a1 : Nat} {x2 : Int32} {w : kw_L} {Q : Nat → kw_T → Nat → kw_R → kw_I → Prop} {E : kw_E} {G : kw_G} (hm : kw_m E G cX4_readLaw 4 RX4 (some (.object "KeyholeWeave$Law")) rm_X4_readLaw "readLaw")     {k41 : Int32 → kw_T → Nat → kw_R → kw_I → Prop} (hk41 : ∀ (x3 : Int32) (T : kw_T) (n : Nat) (r : kw_R) (i : kw_I), k41 x3 T n r i → kw_K E G 4 0 0 (kw_Z E G 3 803 (kw_PA (fun v T' n' r' i' w' => w = w' ∧ Q v T' n' r' i'))) 41 [(0, kw_a a0), (1, kw_a a1), (2, kw_i x2), (3, kw_i x3)] [] T n r i w) (x3 : Int32) (T : kw_T) (n : Nat) (r : kw_R) (i : kw_I) (h : s_X4_readLaw_41 a0 a1 x2 w Q  k41 x3 T n r i) : kw_K E G 4 0 0 (kw_Z E G 3 803 (kw_PA (fun v T' n' r' i' w' => w = w' ∧ Q v T' n' r' i'))) 41 [(0, kw_a a0), (1, kw_a a1), (2, kw_i x2), (3, kw_i x3)] [] T n r i w := by
  refine kk_iload_n hm.1 3 dX4_readLaw_41 rfl rfl ?_
  refine kk_bipush (v := (12 : Int32)) hm.1 dX4_readLaw_42 (by decide) ?_
  refine kk_icmp_ge (tgt := 165) hm.1 dX4_readLaw_44 (by decide) (fun c44 => ?_) (fun c44 => ?_)
  · have h := h.1 c44
    refine kk_aload_n hm.1 0 dX4_readLaw_165 rfl rfl ?_
    obtain ⟨o166, h⟩ := h
    refine kk_callVv (cs' := 0) (sl' := 0) (st := []) hm.1 cv_X4_58 (t_X4_stick o166 h) dX4_readLaw_166 o166 rfl rfl hm.2.2.1 ⟨by decide, by decide⟩ ⟨by decide, by decide⟩ rfl rfl (Nat.le_of_ble_eq_true rfl) rfl ?_
    rintro _ _ _ i166 _ ⟨rfl, rfl, rfl, rfl, h⟩
    refine kk_null hm.1 dX4_readLaw_169 ?_
    refine kk_widen (cs' := 3) (sl' := 803) (by decide) (by decide) ?_
    exact kk_aret hm.1 hm.2.1 (by first | exact Or.inl ⟨_, rfl⟩ | exact Or.inr ⟨_, rfl⟩) dX4_readLaw_170 ⟨_, rfl, rfl, h⟩
  · have h := h.2 c44
    refine kk_aload_n hm.1 0 dX4_readLaw_47 rfl rfl ?_
    obtain ⟨o48, h⟩ := h
    refine kk_getR hm.1 ff_X4_15 dX4_readLaw_48 o48 ?_
    refine kk_iload_n hm.1 3 dX4_readLaw_51 rfl rfl ?_
    refine kk_aload_n hm.1 0 dX4_readLaw_52 rfl rfl ?_
    refine kk_getI hm.1 ff_X4_34 dX4_readLaw_53 o48 ?_
    obtain ⟨o56, h⟩ := h
    refine kn_iastore hm.1 dX4_readLaw_56 o56 (fun i56 e56 => ?_)
    have h := h i56 e56
    refine kk_aload_n hm.1 0 dX4_readLaw_57 rfl rfl ?_
    refine kk_ldcS (j := 0) hm.1 dX4_readLaw_58 (by decide) rfl ?_
    refine kk_callVi (cs' := 0) (sl' := 0) (st := []) hm.1 cv_X4_54 (t_X4_takeWord o48 h) dX4_readLaw_60 o48 rfl rfl hm.2.2.1 ⟨by decide, by decide⟩ ⟨by decide, by decide⟩ rfl rfl (Nat.le_of_ble_eq_true rfl) rfl ?_
    rintro v60 _ _ _ i60 _ ⟨rfl, rfl, rfl, rfl, h⟩
    refine kk_if_ne (tgt := 70) hm.1 dX4_readLaw_63 (by decide) (fun c63 => ?_) (fun c63 => ?_)
    · have h := h.1 c63
      exact q_X4_readLaw_70 hm   hk41 x3 T n r i60 h
    · have h := h.2 c63
      refine kk_aload_n hm.1 0 dX4_readLaw_66 rfl rfl ?_
      refine kk_callVv (cs' := 0) (sl' := 0) (st := []) hm.1 cv_X4_58 (t_X4_stick o48 h) dX4_readLaw_67 o48 rfl rfl hm.2.2.1 ⟨by decide, by decide⟩ ⟨by decide, by decide⟩ rfl rfl (Nat.le_of_ble_eq_true rfl) rfl ?_
      rintro _ _ _ i67 _ ⟨rfl, rfl, rfl, rfl, h⟩
      exact q_X4_readLaw_70 hm   hk41 x3 T n r i67 h
set_option maxHeartbeats 4000000 in
set_option maxRecDepth 100000 in
theorem q_X4_readLaw_41 {a0 : Nat} {a1 : Nat} {x2 : Int32} {w : kw_L} {Q : Nat → kw_T → Nat → kw_R → kw_I → Prop} {E : kw_E} {G : kw_G} (hm : kw_m E G cX4_readLaw 4 RX4 (some (.object "KeyholeWeave$Law")) rm_X4_readLaw "readLaw")     : ∀ (N : Nat) (x3 : Int32) (T : kw_T) (n : Nat) (r : kw_R) (i : kw_I), w_X4_readLaw_41 a0 a1 x2 w Q  N x3 T n r i → kw_K E G 4 0 0 (kw_Z E G 3 803 (kw_PA (fun v T' n' r' i' w' => w = w' ∧ Q v T' n' r' i'))) 41 [(0, kw_a a0), (1, kw_a a1), (2, kw_i x2), (3, kw_i x3)] [] T n r i w := by
  intro N
  induction N with
  | zero => intro x3 T n r i h; exact h.elim
  | succ N ih => intro x3 T n r i h; exact qs_X4_readLaw_41 hm    ih x3 T n r i h
set_option maxHeartbeats 4000000 in
set_option maxRecDepth 100000 in
theorem t_X4_readLaw {l : Launch} {G : kw_G} {a0 : Nat} {a1 : Nat} {x2 : Int32} {T : kw_T} {n : Nat} {r : kw_R} {i : kw_I} {w : kw_L} {Q : Nat → kw_T → Nat → kw_R → kw_I → Prop} (h0 : T a0 = (0, 4)) (h : w_X4_readLaw a0 a1 x2 T n r i w Q) : kw_Met l G yX4_readLaw cX4_readLaw 4 (some (.object "KeyholeWeave$Law")) rm_X4_readLaw [kw_a a0, kw_a a1, kw_i x2] (T, n, r, i, w) (kw_PA (fun v T' n' r' i' w' => w = w' ∧ Q v T' n' r' i')) := by
  refine kw_Met.of (by decide) (Nat.le_of_ble_eq_true rfl) fun E hl hRm hE hT hnm => ?_
  have hm : kw_m E G cX4_readLaw 4 RX4 (some (.object "KeyholeWeave$Law")) rm_X4_readLaw "readLaw" := ⟨hE, hT, hRm, hnm⟩
  subst hl
  show kw_K E G 4 0 0 (kw_Z E G 3 803 (kw_PA (fun v T' n' r' i' w' => w = w' ∧ Q v T' n' r' i'))) 0 [(0, kw_a a0), (1, kw_a a1), (2, kw_i x2)] [] T n r i w
  refine kk_aload_n hm.1 0 dX4_readLaw_0 rfl rfl ?_
  refine kk_aload_n hm.1 1 dX4_readLaw_1 rfl rfl ?_
  refine kn_putR hm.1 fp_X4_18 rfl (fun h => by cases h) dX4_readLaw_2 h0 (fun r2 e2 => ?_)
  have h := h r2 e2
  refine kk_aload_n hm.1 0 dX4_readLaw_5 rfl rfl ?_
  refine kk_iload_n hm.1 2 dX4_readLaw_6 rfl rfl ?_
  refine kk_aload_n hm.1 1 dX4_readLaw_7 rfl rfl ?_
  obtain ⟨o8, h⟩ := h
  refine kk_alen hm.1 1 (by decide) (by decide) rfl dX4_readLaw_8 o8 ?_
  refine kn_mmin (st := [kw_a a0]) hm.1 wm_X4_43 wmmin_s wo_m wmmin_c dX4_readLaw_9 hm.2.2.1 (by decide) (Nat.le_of_ble_eq_true rfl) (by decide) (by decide) ?_
  refine kn_putI hm.1 fp_X4_21 dX4_readLaw_12 h0 (fun i12 e12 => ?_)
  have h := h i12 e12
  refine kk_aload_n hm.1 0 dX4_readLaw_15 rfl rfl ?_
  refine kk_iconst (v := (0 : Int32)) hm.1 dX4_readLaw_16 (by decide) ?_
  refine kn_putI hm.1 fp_X4_28 dX4_readLaw_17 h0 (fun i17 e17 => ?_)
  have h := h i17 e17
  refine kk_aload_n hm.1 0 dX4_readLaw_20 rfl rfl ?_
  refine kk_iconst (v := (0 : Int32)) hm.1 dX4_readLaw_21 (by decide) ?_
  refine kn_putI hm.1 fp_X4_34 dX4_readLaw_22 h0 (fun i22 e22 => ?_)
  have h := h i22 e22
  refine kk_aload_n hm.1 0 dX4_readLaw_25 rfl rfl ?_
  refine kk_iconst (v := (0 : Int32)) hm.1 dX4_readLaw_26 (by decide) ?_
  refine kn_putI hm.1 fp_X4_37 dX4_readLaw_27 h0 (fun i27 e27 => ?_)
  have h := h i27 e27
  refine kk_aload_n hm.1 0 dX4_readLaw_30 rfl rfl ?_
  refine kk_iconst (v := (-1 : Int32)) hm.1 dX4_readLaw_31 (by decide) ?_
  refine kn_putI hm.1 fp_X4_40 dX4_readLaw_32 h0 (fun i32 e32 => ?_)
  have h := h i32 e32
  refine kk_aload_n hm.1 0 dX4_readLaw_35 rfl rfl ?_
  refine kk_callVv (cs' := 0) (sl' := 0) (st := []) hm.1 cv_X4_49 (t_X4_step h0 h) dX4_readLaw_36 h0 rfl rfl hm.2.2.1 ⟨by decide, by decide⟩ ⟨by decide, by decide⟩ rfl rfl (Nat.le_of_ble_eq_true rfl) rfl ?_
  rintro _ _ _ i36 _ ⟨rfl, rfl, rfl, rfl, h⟩
  refine kk_iconst (v := (0 : Int32)) hm.1 dX4_readLaw_39 (by decide) ?_
  refine kk_istore_n (L' := [(3, kw_i (0 : Int32)), (0, kw_a a0), (1, kw_a a1), (2, kw_i x2)]) hm.1 dX4_readLaw_40 rfl (by decide) rfl ?_
  refine kk_loc (L' := [(0, kw_a a0), (1, kw_a a1), (2, kw_i x2), (3, kw_i (0 : Int32))]) [1, 2, 3, 0] rfl ?_
  obtain ⟨N, h⟩ := h
  exact q_X4_readLaw_41 hm    N ((0 : Int32)) T n r2 i36 h
def w_X5_init  (a0 : Nat) (T : kw_T) (n : Nat) (r : kw_R) (i : kw_I) (w : kw_L) (Q : kw_T → Nat → kw_R → kw_I → kw_L → Prop) : Prop :=
  kw_al n 1 ∧ (∀ (T5 : kw_T) (r5 : kw_R) (i5 : kw_I), T5 = kw_row T n (0, 2) → r5 = kw_row r n (fun _ => 0) → i5 = kw_row i n (fun _ => 0) → (w_X2_init n T5 (n + 1) r5 i5 w (fun T9 n9 r9 i9 w9 => T9 a0 = (0, 5) ∧ (∀ r12 : kw_R, r12 = kw_st r9 a0 0 n → (kw_al n9 (1 + 10) ∧ (∀ (T20 : kw_T) (r20 : kw_R) (i20 : kw_I), T20 = kw_mT T9 n9 10 36 → r20 = kw_mR r12 n9 10 → i20 = kw_mI i9 n9 10 → (T20 a0 = (0, 5) ∧ (∀ r24 : kw_R, r24 = kw_st r20 a0 1 n9 → (kw_al (n9 + 11) (1 + 10) ∧ (∀ (T32 : kw_T) (r32 : kw_R) (i32 : kw_I), T32 = kw_mT T20 (n9 + 11) 10 36 → r32 = kw_mR r24 (n9 + 11) 10 → i32 = kw_mI i20 (n9 + 11) 10 → (T32 a0 = (0, 5) ∧ (∀ r36 : kw_R, r36 = kw_st r32 a0 2 (n9 + 11) → (∀ r44 : kw_R, r44 = kw_st r36 a0 3 (r36 a0 1) → (∀ i49 : kw_I, i49 = kw_st i32 a0 4 (0 : Int32) → (Q T32 ((n9 + 11) + 11) r44 i49 w9)))))))))))))))
abbrev rm_X5_init : Room := { frames := 2, cells := 28, slots := 837, locals := 80 }
set_option maxHeartbeats 4000000 in
set_option maxRecDepth 100000 in
theorem t_X5_init {l : Launch} {G : kw_G} {a0 : Nat} {T : kw_T} {n : Nat} {r : kw_R} {i : kw_I} {w : kw_L} {Q : kw_T → Nat → kw_R → kw_I → kw_L → Prop} (h0 : T a0 = (0, 5)) (h : w_X5_init a0 T n r i w Q) : kw_Met l G yX5_init cX5_init 1 none rm_X5_init [kw_a a0] (T, n, r, i, w) (kw_PV (fun T' n' r' i' w' => Q T' n' r' i' w')) := by
  refine kw_Met.of (by decide) (Nat.le_of_ble_eq_true rfl) fun E hl hRm hE hT hnm => ?_
  have hm : kw_m E G cX5_init 1 RX5 none rm_X5_init "<init>" := ⟨hE, hT, hRm, hnm⟩
  subst hl
  show kw_K E G 1 0 0 (kw_Z E G 28 837 (kw_PV (fun T' n' r' i' w' => Q T' n' r' i' w'))) 0 [(0, kw_a a0)] [] T n r i w
  refine kk_aload_n hm.1 0 dX5_init_0 rfl rfl ?_
  refine kn_objInit (st := []) hm.1 wm_X5_3 wo_1 wo_2 dX5_init_1 h0 hm.2.2.1 (by decide) (Nat.le_of_ble_eq_true rfl) ?_
  refine kk_aload_n hm.1 0 dX5_init_4 rfl rfl ?_
  obtain ⟨o5, h⟩ := h
  refine kn_new hm.1 nw_X5_9 dX5_init_5 o5 hm.2.2.1 (by decide) (by decide) rfl rfl (fun T5 r5 i5 e5 f5 g5 u5 => ?_)
  have h := h T5 r5 i5 e5 f5 g5
  refine kk_dup hm.1 dX5_init_8 rfl ?_
  refine kk_callIv (cs' := 6) (sl' := 97) (st := [kw_a n, kw_a a0]) hm.1 ci_X5_11 (t_X2_init u5 h) dX5_init_9 u5 rfl hm.2.2.1 ⟨by decide, by decide⟩ ⟨by decide, by decide⟩ rfl rfl (Nat.le_of_ble_eq_true rfl) rfl ?_
  rintro T9 n9 r9 i9 w9 h
  obtain ⟨o12, h⟩ := h
  refine kn_putR hm.1 fp_X5_12 rfl (fun h => hm.2.2.2) dX5_init_12 o12 (fun r12 e12 => ?_)
  have h := h r12 e12
  refine kk_aload_n hm.1 0 dX5_init_15 rfl rfl ?_
  refine kk_bipush (v := (10 : Int32)) hm.1 dX5_init_16 (by decide) ?_
  refine kk_bipush (v := (36 : Int32)) hm.1 dX5_init_18 (by decide) ?_
  obtain ⟨o20, h⟩ := h
  refine kn_mna (N := 10) (K := 36) (cs' := 17) (sl' := 467) (n' := n9 + 11) hm.1 wk_X5_18 wa_1 dX5_init_20 (by decide) (by decide) (by decide) (by decide) (by decide) (by decide) o20 hm.2.2.1 (by decide) (by decide) rfl rfl (by rw [Nat.add_assoc]) (fun T20 r20 i20 e20 f20 g20 => ?_)
  have h := h T20 r20 i20 e20 f20 g20
  obtain ⟨o24, h⟩ := h
  refine kn_putR hm.1 fp_X5_20 rfl (fun h => hm.2.2.2) dX5_init_24 o24 (fun r24 e24 => ?_)
  have h := h r24 e24
  refine kk_aload_n hm.1 0 dX5_init_27 rfl rfl ?_
  refine kk_bipush (v := (10 : Int32)) hm.1 dX5_init_28 (by decide) ?_
  refine kk_bipush (v := (36 : Int32)) hm.1 dX5_init_30 (by decide) ?_
  obtain ⟨o32, h⟩ := h
  refine kn_mna (N := 10) (K := 36) (cs' := 28) (sl' := 837) (n' := (n9 + 11) + 11) hm.1 wk_X5_18 wa_1 dX5_init_32 (by decide) (by decide) (by decide) (by decide) (by decide) (by decide) o32 hm.2.2.1 (by decide) (by decide) rfl rfl (by rw [Nat.add_assoc]) (fun T32 r32 i32 e32 f32 g32 => ?_)
  have h := h T32 r32 i32 e32 f32 g32
  obtain ⟨o36, h⟩ := h
  refine kn_putR hm.1 fp_X5_23 rfl (fun h => hm.2.2.2) dX5_init_36 o36 (fun r36 e36 => ?_)
  have h := h r36 e36
  refine kk_aload_n hm.1 0 dX5_init_39 rfl rfl ?_
  refine kk_aload_n hm.1 0 dX5_init_40 rfl rfl ?_
  refine kk_getR hm.1 ff_X5_20 dX5_init_41 o36 ?_
  refine kn_putR hm.1 fp_X5_26 rfl (fun h => by cases h) dX5_init_44 o36 (fun r44 e44 => ?_)
  have h := h r44 e44
  refine kk_aload_n hm.1 0 dX5_init_47 rfl rfl ?_
  refine kk_iconst (v := (0 : Int32)) hm.1 dX5_init_48 (by decide) ?_
  refine kn_putZ hm.1 fp_X5_29 dX5_init_49 o36 (Or.inl rfl) (fun i49 e49 => ?_)
  have h := h i49 e49
  exact kk_vret hm.1 hm.2.1 dX5_init_52 ⟨rfl, h⟩
def s_X5_weaveAll_30 (a0 : Nat) (a1 : Nat) (T : kw_T) (n : Nat) (Q : kw_R → kw_I → kw_L → Prop)  (k30 : Nat → Int32 → kw_R → kw_I → kw_L → Prop) (a2 : Nat) (x3 : Int32) (r : kw_R) (i : kw_I) (w : kw_L) : Prop :=
  T ((r a0 0)) = (0, 2) ∧ (((i (r a0 0) 5) ≤ x3 → Q r i w) ∧ (¬ (i (r a0 0) 5) ≤ x3 → kw_in T 5 (r a0 1) x3 ∧ (w_X2_weave (r a0 0) x3 a2 (r (r a0 1) (x3).toNatClampNeg) T n r i w (fun i53 w53 => kw_in T 5 (r a0 1) x3 ∧ (k30 ((r (r a0 1) (x3).toNatClampNeg)) ((x3 + (1 : Int32))) r i53 w53)))))
def w_X5_weaveAll_30 (a0 : Nat) (a1 : Nat) (T : kw_T) (n : Nat) (Q : kw_R → kw_I → kw_L → Prop)  : Nat → Nat → Int32 → kw_R → kw_I → kw_L → Prop
  | 0 => fun _ _ _ _ _ => False
  | N + 1 => s_X5_weaveAll_30 a0 a1 T n Q  (w_X5_weaveAll_30 a0 a1 T n Q  N)
def w_X5_weaveAll  (a0 : Nat) (a1 : Nat) (T : kw_T) (n : Nat) (r : kw_R) (i : kw_I) (w : kw_L) (Q : kw_R → kw_I → kw_L → Prop) : Prop :=
  T a1 = (0, 6) ∧ (∀ r5 : kw_R, r5 = kw_st r a0 3 (r a1 1) → (∀ i10 : kw_I, i10 = kw_st i a0 4 (0 : Int32) → (T ((r5 a0 0)) = (0, 2) ∧ (w_X2_setUp (r5 a0 0) a1 T n r5 i10 w (fun r18 i18 w18 => kw_in T 5 (r18 a0 3) (0 : Int32) ∧ (∃ N, w_X5_weaveAll_30 a0 a1 T n Q  N ((r18 (r18 a0 3) ((0 : Int32)).toNatClampNeg)) ((0 : Int32)) r18 i18 w18))))))
abbrev rm_X5_weaveAll : Room := { frames := 5, cells := 0, slots := 0, locals := 167 }
set_option maxHeartbeats 4000000 in
set_option maxRecDepth 100000 in
theorem qs_X5_weaveAll_30 {a0 : Nat} {a1 : Nat} {T : kw_T} {n : Nat} {Q : kw_R → kw_I → kw_L → Prop} {E : kw_E} {G : kw_G} (hm : kw_m E G cX5_weaveAll 4 RX5 none rm_X5_weaveAll "weaveAll")  (h0 : T a0 = (0, 5))    {k30 : Nat → Int32 → kw_R → kw_I → kw_L → Prop} (hk30 : ∀ (a2 : Nat) (x3 : Int32) (r : kw_R) (i : kw_I) (w : kw_L), k30 a2 x3 r i w → kw_K E G 4 0 0 (kw_Z E G 0 0 (kw_PV (fun T' n' r' i' w' => T = T' ∧ n = n' ∧ Q r' i' w'))) 30 [(0, kw_a a0), (1, kw_a a1), (2, kw_a a2), (3, kw_i x3)] [] T n r i w) (a2 : Nat) (x3 : Int32) (r : kw_R) (i : kw_I) (w : kw_L) (h : s_X5_weaveAll_30 a0 a1 T n Q  k30 a2 x3 r i w) : kw_K E G 4 0 0 (kw_Z E G 0 0 (kw_PV (fun T' n' r' i' w' => T = T' ∧ n = n' ∧ Q r' i' w'))) 30 [(0, kw_a a0), (1, kw_a a1), (2, kw_a a2), (3, kw_i x3)] [] T n r i w := by
  refine kk_iload_n hm.1 3 dX5_weaveAll_30 rfl rfl ?_
  refine kk_aload_n hm.1 0 dX5_weaveAll_31 rfl rfl ?_
  refine kk_getR hm.1 ff_X5_12 dX5_weaveAll_32 h0 ?_
  obtain ⟨o35, h⟩ := h
  refine kk_getI hm.1 ff_X5_42 dX5_weaveAll_35 o35 ?_
  refine kk_icmp_ge (tgt := 69) hm.1 dX5_weaveAll_38 (by decide) (fun c38 => ?_) (fun c38 => ?_)
  · have h := h.1 c38
    exact kk_vret hm.1 hm.2.1 dX5_weaveAll_69 ⟨rfl, rfl, rfl, h⟩
  · have h := h.2 c38
    refine kk_aload_n hm.1 0 dX5_weaveAll_41 rfl rfl ?_
    refine kk_getR hm.1 ff_X5_12 dX5_weaveAll_42 h0 ?_
    refine kk_iload_n hm.1 3 dX5_weaveAll_45 rfl rfl ?_
    refine kk_aload_n hm.1 2 dX5_weaveAll_46 rfl rfl ?_
    refine kk_aload_n hm.1 0 dX5_weaveAll_47 rfl rfl ?_
    refine kk_getR hm.1 ff_X5_20 dX5_weaveAll_48 h0 ?_
    refine kk_iload_n hm.1 3 dX5_weaveAll_51 rfl rfl ?_
    obtain ⟨o52, h⟩ := h
    refine kk_aaload hm.1 5 (by decide) (by decide) rfl rfl dX5_weaveAll_52 o52 ?_
    refine kk_callVv (cs' := 0) (sl' := 0) (st := []) hm.1 cv_X5_46 (t_X2_weave o35 h) dX5_weaveAll_53 o35 rfl rfl hm.2.2.1 ⟨by decide, by decide⟩ ⟨by decide, by decide⟩ rfl rfl (Nat.le_of_ble_eq_true rfl) rfl ?_
    rintro _ _ _ i53 w53 ⟨rfl, rfl, rfl, h⟩
    refine kk_aload_n hm.1 0 dX5_weaveAll_56 rfl rfl ?_
    refine kk_getR hm.1 ff_X5_20 dX5_weaveAll_57 h0 ?_
    refine kk_iload_n hm.1 3 dX5_weaveAll_60 rfl rfl ?_
    obtain ⟨o61, h⟩ := h
    refine kk_aaload hm.1 5 (by decide) (by decide) rfl rfl dX5_weaveAll_61 o61 ?_
    refine kk_astore_n (L' := [(2, kw_a (r (r a0 1) (x3).toNatClampNeg)), (0, kw_a a0), (1, kw_a a1), (3, kw_i x3)]) hm.1 dX5_weaveAll_62 rfl (by decide) rfl ?_
    refine kk_iinc (v := (x3 + (1 : Int32))) (L' := [(3, kw_i (x3 + (1 : Int32))), (2, kw_a (r (r a0 1) (x3).toNatClampNeg)), (0, kw_a a0), (1, kw_a a1)]) hm.1 3 dX5_weaveAll_63 rfl rfl (by decide) rfl ?_
    refine kk_goto (tgt := 30) hm.1 dX5_weaveAll_66 (by decide) ?_
    refine kk_loc (L' := [(0, kw_a a0), (1, kw_a a1), (2, kw_a (r (r a0 1) (x3).toNatClampNeg)), (3, kw_i (x3 + (1 : Int32)))]) [2, 3, 1, 0] rfl ?_
    exact hk30 ((r (r a0 1) (x3).toNatClampNeg)) ((x3 + (1 : Int32))) r i53 w53 h
set_option maxHeartbeats 4000000 in
set_option maxRecDepth 100000 in
theorem q_X5_weaveAll_30 {a0 : Nat} {a1 : Nat} {T : kw_T} {n : Nat} {Q : kw_R → kw_I → kw_L → Prop} {E : kw_E} {G : kw_G} (hm : kw_m E G cX5_weaveAll 4 RX5 none rm_X5_weaveAll "weaveAll")  (h0 : T a0 = (0, 5))    : ∀ (N : Nat) (a2 : Nat) (x3 : Int32) (r : kw_R) (i : kw_I) (w : kw_L), w_X5_weaveAll_30 a0 a1 T n Q  N a2 x3 r i w → kw_K E G 4 0 0 (kw_Z E G 0 0 (kw_PV (fun T' n' r' i' w' => T = T' ∧ n = n' ∧ Q r' i' w'))) 30 [(0, kw_a a0), (1, kw_a a1), (2, kw_a a2), (3, kw_i x3)] [] T n r i w := by
  intro N
  induction N with
  | zero => intro a2 x3 r i w h; exact h.elim
  | succ N ih => intro a2 x3 r i w h; exact qs_X5_weaveAll_30 hm  h0  ih a2 x3 r i w h
set_option maxHeartbeats 4000000 in
set_option maxRecDepth 100000 in
theorem t_X5_weaveAll {l : Launch} {G : kw_G} {a0 : Nat} {a1 : Nat} {T : kw_T} {n : Nat} {r : kw_R} {i : kw_I} {w : kw_L} {Q : kw_R → kw_I → kw_L → Prop} (h0 : T a0 = (0, 5)) (h : w_X5_weaveAll a0 a1 T n r i w Q) : kw_Met l G yX5_weaveAll cX5_weaveAll 4 none rm_X5_weaveAll [kw_a a0, kw_a a1] (T, n, r, i, w) (kw_PV (fun T' n' r' i' w' => T = T' ∧ n = n' ∧ Q r' i' w')) := by
  refine kw_Met.of (by decide) (Nat.le_of_ble_eq_true rfl) fun E hl hRm hE hT hnm => ?_
  have hm : kw_m E G cX5_weaveAll 4 RX5 none rm_X5_weaveAll "weaveAll" := ⟨hE, hT, hRm, hnm⟩
  subst hl
  show kw_K E G 4 0 0 (kw_Z E G 0 0 (kw_PV (fun T' n' r' i' w' => T = T' ∧ n = n' ∧ Q r' i' w'))) 0 [(0, kw_a a0), (1, kw_a a1)] [] T n r i w
  refine kk_aload_n hm.1 0 dX5_weaveAll_0 rfl rfl ?_
  refine kk_aload_n hm.1 1 dX5_weaveAll_1 rfl rfl ?_
  obtain ⟨o2, h⟩ := h
  refine kk_getR hm.1 ff_X5_33 dX5_weaveAll_2 o2 ?_
  refine kn_putR hm.1 fp_X5_26 rfl (fun h => by cases h) dX5_weaveAll_5 h0 (fun r5 e5 => ?_)
  have h := h r5 e5
  refine kk_aload_n hm.1 0 dX5_weaveAll_8 rfl rfl ?_
  refine kk_iconst (v := (0 : Int32)) hm.1 dX5_weaveAll_9 (by decide) ?_
  refine kn_putZ hm.1 fp_X5_29 dX5_weaveAll_10 h0 (Or.inl rfl) (fun i10 e10 => ?_)
  have h := h i10 e10
  refine kk_aload_n hm.1 0 dX5_weaveAll_13 rfl rfl ?_
  refine kk_getR hm.1 ff_X5_12 dX5_weaveAll_14 h0 ?_
  refine kk_aload_n hm.1 1 dX5_weaveAll_17 rfl rfl ?_
  obtain ⟨o18, h⟩ := h
  refine kk_callVv (cs' := 0) (sl' := 0) (st := []) hm.1 cv_X5_38 (t_X2_setUp o18 h) dX5_weaveAll_18 o18 rfl rfl hm.2.2.1 ⟨by decide, by decide⟩ ⟨by decide, by decide⟩ rfl rfl (Nat.le_of_ble_eq_true rfl) rfl ?_
  rintro _ _ r18 i18 w18 ⟨rfl, rfl, h⟩
  refine kk_aload_n hm.1 0 dX5_weaveAll_21 rfl rfl ?_
  refine kk_getR hm.1 ff_X5_26 dX5_weaveAll_22 h0 ?_
  refine kk_iconst (v := (0 : Int32)) hm.1 dX5_weaveAll_25 (by decide) ?_
  obtain ⟨o26, h⟩ := h
  refine kk_aaload hm.1 5 (by decide) (by decide) rfl rfl dX5_weaveAll_26 o26 ?_
  refine kk_astore_n (L' := [(2, kw_a (r18 (r18 a0 3) ((0 : Int32)).toNatClampNeg)), (0, kw_a a0), (1, kw_a a1)]) hm.1 dX5_weaveAll_27 rfl (by decide) rfl ?_
  refine kk_iconst (v := (0 : Int32)) hm.1 dX5_weaveAll_28 (by decide) ?_
  refine kk_istore_n (L' := [(3, kw_i (0 : Int32)), (2, kw_a (r18 (r18 a0 3) ((0 : Int32)).toNatClampNeg)), (0, kw_a a0), (1, kw_a a1)]) hm.1 dX5_weaveAll_29 rfl (by decide) rfl ?_
  refine kk_loc (L' := [(0, kw_a a0), (1, kw_a a1), (2, kw_a (r18 (r18 a0 3) ((0 : Int32)).toNatClampNeg)), (3, kw_i (0 : Int32))]) [2, 3, 1, 0] rfl ?_
  obtain ⟨N, h⟩ := h
  exact q_X5_weaveAll_30 hm  h0   N ((r18 (r18 a0 3) ((0 : Int32)).toNatClampNeg)) ((0 : Int32)) r18 i18 w18 h
