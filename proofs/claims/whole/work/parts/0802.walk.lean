set_option maxHeartbeats 4000000 in
set_option maxRecDepth 100000 in
def w_J6_bitCount_0f7a4  (x0 : Int32) (T : kw_T) (n : Nat) (r : kw_R) (i : kw_I) (w : kw_L) (Q : Int32 → Prop) : Prop :=
  Q ((((((((x0 - (((x0.toUInt32 >>> ((1 : Int32).toUInt32 &&& Int32.toUInt32 31)).toInt32) &&& (1431655765 : Int32))) &&& (858993459 : Int32)) + ((((x0 - (((x0.toUInt32 >>> ((1 : Int32).toUInt32 &&& Int32.toUInt32 31)).toInt32) &&& (1431655765 : Int32))).toUInt32 >>> ((2 : Int32).toUInt32 &&& Int32.toUInt32 31)).toInt32) &&& (858993459 : Int32))) + (((((x0 - (((x0.toUInt32 >>> ((1 : Int32).toUInt32 &&& Int32.toUInt32 31)).toInt32) &&& (1431655765 : Int32))) &&& (858993459 : Int32)) + ((((x0 - (((x0.toUInt32 >>> ((1 : Int32).toUInt32 &&& Int32.toUInt32 31)).toInt32) &&& (1431655765 : Int32))).toUInt32 >>> ((2 : Int32).toUInt32 &&& Int32.toUInt32 31)).toInt32) &&& (858993459 : Int32))).toUInt32 >>> ((4 : Int32).toUInt32 &&& Int32.toUInt32 31)).toInt32)) &&& (252645135 : Int32)) + (((((((x0 - (((x0.toUInt32 >>> ((1 : Int32).toUInt32 &&& Int32.toUInt32 31)).toInt32) &&& (1431655765 : Int32))) &&& (858993459 : Int32)) + ((((x0 - (((x0.toUInt32 >>> ((1 : Int32).toUInt32 &&& Int32.toUInt32 31)).toInt32) &&& (1431655765 : Int32))).toUInt32 >>> ((2 : Int32).toUInt32 &&& Int32.toUInt32 31)).toInt32) &&& (858993459 : Int32))) + (((((x0 - (((x0.toUInt32 >>> ((1 : Int32).toUInt32 &&& Int32.toUInt32 31)).toInt32) &&& (1431655765 : Int32))) &&& (858993459 : Int32)) + ((((x0 - (((x0.toUInt32 >>> ((1 : Int32).toUInt32 &&& Int32.toUInt32 31)).toInt32) &&& (1431655765 : Int32))).toUInt32 >>> ((2 : Int32).toUInt32 &&& Int32.toUInt32 31)).toInt32) &&& (858993459 : Int32))).toUInt32 >>> ((4 : Int32).toUInt32 &&& Int32.toUInt32 31)).toInt32)) &&& (252645135 : Int32)).toUInt32 >>> ((8 : Int32).toUInt32 &&& Int32.toUInt32 31)).toInt32)) + ((((((((x0 - (((x0.toUInt32 >>> ((1 : Int32).toUInt32 &&& Int32.toUInt32 31)).toInt32) &&& (1431655765 : Int32))) &&& (858993459 : Int32)) + ((((x0 - (((x0.toUInt32 >>> ((1 : Int32).toUInt32 &&& Int32.toUInt32 31)).toInt32) &&& (1431655765 : Int32))).toUInt32 >>> ((2 : Int32).toUInt32 &&& Int32.toUInt32 31)).toInt32) &&& (858993459 : Int32))) + (((((x0 - (((x0.toUInt32 >>> ((1 : Int32).toUInt32 &&& Int32.toUInt32 31)).toInt32) &&& (1431655765 : Int32))) &&& (858993459 : Int32)) + ((((x0 - (((x0.toUInt32 >>> ((1 : Int32).toUInt32 &&& Int32.toUInt32 31)).toInt32) &&& (1431655765 : Int32))).toUInt32 >>> ((2 : Int32).toUInt32 &&& Int32.toUInt32 31)).toInt32) &&& (858993459 : Int32))).toUInt32 >>> ((4 : Int32).toUInt32 &&& Int32.toUInt32 31)).toInt32)) &&& (252645135 : Int32)) + (((((((x0 - (((x0.toUInt32 >>> ((1 : Int32).toUInt32 &&& Int32.toUInt32 31)).toInt32) &&& (1431655765 : Int32))) &&& (858993459 : Int32)) + ((((x0 - (((x0.toUInt32 >>> ((1 : Int32).toUInt32 &&& Int32.toUInt32 31)).toInt32) &&& (1431655765 : Int32))).toUInt32 >>> ((2 : Int32).toUInt32 &&& Int32.toUInt32 31)).toInt32) &&& (858993459 : Int32))) + (((((x0 - (((x0.toUInt32 >>> ((1 : Int32).toUInt32 &&& Int32.toUInt32 31)).toInt32) &&& (1431655765 : Int32))) &&& (858993459 : Int32)) + ((((x0 - (((x0.toUInt32 >>> ((1 : Int32).toUInt32 &&& Int32.toUInt32 31)).toInt32) &&& (1431655765 : Int32))).toUInt32 >>> ((2 : Int32).toUInt32 &&& Int32.toUInt32 31)).toInt32) &&& (858993459 : Int32))).toUInt32 >>> ((4 : Int32).toUInt32 &&& Int32.toUInt32 31)).toInt32)) &&& (252645135 : Int32)).toUInt32 >>> ((8 : Int32).toUInt32 &&& Int32.toUInt32 31)).toInt32)).toUInt32 >>> ((16 : Int32).toUInt32 &&& Int32.toUInt32 31)).toInt32)) &&& (63 : Int32))
abbrev rm_J6_bitCount_0f7a4 : Room := { frames := 1, cells := 0, slots := 0, locals := 60 }
set_option maxHeartbeats 4000000 in
set_option maxRecDepth 100000 in
theorem t_J6_bitCount_0f7a4 {l : Launch} {G : kw_G} {x0 : Int32} {T : kw_T} {n : Nat} {r : kw_R} {i : kw_I} {w : kw_L} {Q : Int32 → Prop} (h : w_J6_bitCount_0f7a4 x0 T n r i w Q) : kw_Met l G yJ6_bitCount_0f7a4 cJ6_bitCount_0f7a4 1 (some .int) rm_J6_bitCount_0f7a4 [kw_i x0] (T, n, r, i, w) (kw_PI (fun v T' n' r' i' w' => T = T' ∧ n = n' ∧ r = r' ∧ i = i' ∧ w = w' ∧ Q v)) := by
  refine kw_Met.of (by decide) (Nat.le_of_ble_eq_true rfl) fun E hl hRm hE hT hnm => ?_
  have hm : kw_m E G cJ6_bitCount_0f7a4 1 RJ6 (some .int) rm_J6_bitCount_0f7a4 "bitCount" := ⟨hE, hT, hRm, hnm⟩
  subst hl
  show kw_K E G 1 0 0 (kw_Z E G 0 0 (kw_PI (fun v T' n' r' i' w' => T = T' ∧ n = n' ∧ r = r' ∧ i = i' ∧ w = w' ∧ Q v))) 0 [(0, kw_i x0)] [] T n r i w
  refine kk_iload_n hm.1 0 dJ6_bitCount_0f7a4_0 rfl rfl ?_
  refine kk_iload_n hm.1 0 dJ6_bitCount_0f7a4_1 rfl rfl ?_
  refine kk_iconst (v := (1 : Int32)) hm.1 dJ6_bitCount_0f7a4_2 (by decide) ?_
  refine kk_iushr hm.1 dJ6_bitCount_0f7a4_3 ?_
  refine kk_ldcw (v := (1431655765 : Int32)) hm.1 dJ6_bitCount_0f7a4_4 wc_J6_265 ?_
  refine kk_iand hm.1 dJ6_bitCount_0f7a4_7 ?_
  refine kk_isub hm.1 dJ6_bitCount_0f7a4_8 ?_
  refine kk_istore_n (L' := [(0, kw_i (x0 - (((x0.toUInt32 >>> ((1 : Int32).toUInt32 &&& Int32.toUInt32 31)).toInt32) &&& (1431655765 : Int32))))]) hm.1 dJ6_bitCount_0f7a4_9 rfl (by decide) rfl ?_
  refine kk_iload_n hm.1 0 dJ6_bitCount_0f7a4_10 rfl rfl ?_
  refine kk_ldcw (v := (858993459 : Int32)) hm.1 dJ6_bitCount_0f7a4_11 wc_J6_266 ?_
  refine kk_iand hm.1 dJ6_bitCount_0f7a4_14 ?_
  refine kk_iload_n hm.1 0 dJ6_bitCount_0f7a4_15 rfl rfl ?_
  refine kk_iconst (v := (2 : Int32)) hm.1 dJ6_bitCount_0f7a4_16 (by decide) ?_
  refine kk_iushr hm.1 dJ6_bitCount_0f7a4_17 ?_
  refine kk_ldcw (v := (858993459 : Int32)) hm.1 dJ6_bitCount_0f7a4_18 wc_J6_266 ?_
  refine kk_iand hm.1 dJ6_bitCount_0f7a4_21 ?_
  refine kk_iadd hm.1 dJ6_bitCount_0f7a4_22 ?_
  refine kk_istore_n (L' := [(0, kw_i (((x0 - (((x0.toUInt32 >>> ((1 : Int32).toUInt32 &&& Int32.toUInt32 31)).toInt32) &&& (1431655765 : Int32))) &&& (858993459 : Int32)) + ((((x0 - (((x0.toUInt32 >>> ((1 : Int32).toUInt32 &&& Int32.toUInt32 31)).toInt32) &&& (1431655765 : Int32))).toUInt32 >>> ((2 : Int32).toUInt32 &&& Int32.toUInt32 31)).toInt32) &&& (858993459 : Int32))))]) hm.1 dJ6_bitCount_0f7a4_23 rfl (by decide) rfl ?_
  refine kk_iload_n hm.1 0 dJ6_bitCount_0f7a4_24 rfl rfl ?_
  refine kk_iload_n hm.1 0 dJ6_bitCount_0f7a4_25 rfl rfl ?_
  refine kk_iconst (v := (4 : Int32)) hm.1 dJ6_bitCount_0f7a4_26 (by decide) ?_
  refine kk_iushr hm.1 dJ6_bitCount_0f7a4_27 ?_
  refine kk_iadd hm.1 dJ6_bitCount_0f7a4_28 ?_
  refine kk_ldcw (v := (252645135 : Int32)) hm.1 dJ6_bitCount_0f7a4_29 wc_J6_267 ?_
  refine kk_iand hm.1 dJ6_bitCount_0f7a4_32 ?_
  refine kk_istore_n (L' := [(0, kw_i (((((x0 - (((x0.toUInt32 >>> ((1 : Int32).toUInt32 &&& Int32.toUInt32 31)).toInt32) &&& (1431655765 : Int32))) &&& (858993459 : Int32)) + ((((x0 - (((x0.toUInt32 >>> ((1 : Int32).toUInt32 &&& Int32.toUInt32 31)).toInt32) &&& (1431655765 : Int32))).toUInt32 >>> ((2 : Int32).toUInt32 &&& Int32.toUInt32 31)).toInt32) &&& (858993459 : Int32))) + (((((x0 - (((x0.toUInt32 >>> ((1 : Int32).toUInt32 &&& Int32.toUInt32 31)).toInt32) &&& (1431655765 : Int32))) &&& (858993459 : Int32)) + ((((x0 - (((x0.toUInt32 >>> ((1 : Int32).toUInt32 &&& Int32.toUInt32 31)).toInt32) &&& (1431655765 : Int32))).toUInt32 >>> ((2 : Int32).toUInt32 &&& Int32.toUInt32 31)).toInt32) &&& (858993459 : Int32))).toUInt32 >>> ((4 : Int32).toUInt32 &&& Int32.toUInt32 31)).toInt32)) &&& (252645135 : Int32)))]) hm.1 dJ6_bitCount_0f7a4_33 rfl (by decide) rfl ?_
  refine kk_iload_n hm.1 0 dJ6_bitCount_0f7a4_34 rfl rfl ?_
  refine kk_iload_n hm.1 0 dJ6_bitCount_0f7a4_35 rfl rfl ?_
  refine kk_bipush (v := (8 : Int32)) hm.1 dJ6_bitCount_0f7a4_36 (by decide) ?_
  refine kk_iushr hm.1 dJ6_bitCount_0f7a4_38 ?_
  refine kk_iadd hm.1 dJ6_bitCount_0f7a4_39 ?_
  refine kk_istore_n (L' := [(0, kw_i ((((((x0 - (((x0.toUInt32 >>> ((1 : Int32).toUInt32 &&& Int32.toUInt32 31)).toInt32) &&& (1431655765 : Int32))) &&& (858993459 : Int32)) + ((((x0 - (((x0.toUInt32 >>> ((1 : Int32).toUInt32 &&& Int32.toUInt32 31)).toInt32) &&& (1431655765 : Int32))).toUInt32 >>> ((2 : Int32).toUInt32 &&& Int32.toUInt32 31)).toInt32) &&& (858993459 : Int32))) + (((((x0 - (((x0.toUInt32 >>> ((1 : Int32).toUInt32 &&& Int32.toUInt32 31)).toInt32) &&& (1431655765 : Int32))) &&& (858993459 : Int32)) + ((((x0 - (((x0.toUInt32 >>> ((1 : Int32).toUInt32 &&& Int32.toUInt32 31)).toInt32) &&& (1431655765 : Int32))).toUInt32 >>> ((2 : Int32).toUInt32 &&& Int32.toUInt32 31)).toInt32) &&& (858993459 : Int32))).toUInt32 >>> ((4 : Int32).toUInt32 &&& Int32.toUInt32 31)).toInt32)) &&& (252645135 : Int32)) + (((((((x0 - (((x0.toUInt32 >>> ((1 : Int32).toUInt32 &&& Int32.toUInt32 31)).toInt32) &&& (1431655765 : Int32))) &&& (858993459 : Int32)) + ((((x0 - (((x0.toUInt32 >>> ((1 : Int32).toUInt32 &&& Int32.toUInt32 31)).toInt32) &&& (1431655765 : Int32))).toUInt32 >>> ((2 : Int32).toUInt32 &&& Int32.toUInt32 31)).toInt32) &&& (858993459 : Int32))) + (((((x0 - (((x0.toUInt32 >>> ((1 : Int32).toUInt32 &&& Int32.toUInt32 31)).toInt32) &&& (1431655765 : Int32))) &&& (858993459 : Int32)) + ((((x0 - (((x0.toUInt32 >>> ((1 : Int32).toUInt32 &&& Int32.toUInt32 31)).toInt32) &&& (1431655765 : Int32))).toUInt32 >>> ((2 : Int32).toUInt32 &&& Int32.toUInt32 31)).toInt32) &&& (858993459 : Int32))).toUInt32 >>> ((4 : Int32).toUInt32 &&& Int32.toUInt32 31)).toInt32)) &&& (252645135 : Int32)).toUInt32 >>> ((8 : Int32).toUInt32 &&& Int32.toUInt32 31)).toInt32)))]) hm.1 dJ6_bitCount_0f7a4_40 rfl (by decide) rfl ?_
  refine kk_iload_n hm.1 0 dJ6_bitCount_0f7a4_41 rfl rfl ?_
  refine kk_iload_n hm.1 0 dJ6_bitCount_0f7a4_42 rfl rfl ?_
  refine kk_bipush (v := (16 : Int32)) hm.1 dJ6_bitCount_0f7a4_43 (by decide) ?_
  refine kk_iushr hm.1 dJ6_bitCount_0f7a4_45 ?_
  refine kk_iadd hm.1 dJ6_bitCount_0f7a4_46 ?_
  refine kk_istore_n (L' := [(0, kw_i (((((((x0 - (((x0.toUInt32 >>> ((1 : Int32).toUInt32 &&& Int32.toUInt32 31)).toInt32) &&& (1431655765 : Int32))) &&& (858993459 : Int32)) + ((((x0 - (((x0.toUInt32 >>> ((1 : Int32).toUInt32 &&& Int32.toUInt32 31)).toInt32) &&& (1431655765 : Int32))).toUInt32 >>> ((2 : Int32).toUInt32 &&& Int32.toUInt32 31)).toInt32) &&& (858993459 : Int32))) + (((((x0 - (((x0.toUInt32 >>> ((1 : Int32).toUInt32 &&& Int32.toUInt32 31)).toInt32) &&& (1431655765 : Int32))) &&& (858993459 : Int32)) + ((((x0 - (((x0.toUInt32 >>> ((1 : Int32).toUInt32 &&& Int32.toUInt32 31)).toInt32) &&& (1431655765 : Int32))).toUInt32 >>> ((2 : Int32).toUInt32 &&& Int32.toUInt32 31)).toInt32) &&& (858993459 : Int32))).toUInt32 >>> ((4 : Int32).toUInt32 &&& Int32.toUInt32 31)).toInt32)) &&& (252645135 : Int32)) + (((((((x0 - (((x0.toUInt32 >>> ((1 : Int32).toUInt32 &&& Int32.toUInt32 31)).toInt32) &&& (1431655765 : Int32))) &&& (858993459 : Int32)) + ((((x0 - (((x0.toUInt32 >>> ((1 : Int32).toUInt32 &&& Int32.toUInt32 31)).toInt32) &&& (1431655765 : Int32))).toUInt32 >>> ((2 : Int32).toUInt32 &&& Int32.toUInt32 31)).toInt32) &&& (858993459 : Int32))) + (((((x0 - (((x0.toUInt32 >>> ((1 : Int32).toUInt32 &&& Int32.toUInt32 31)).toInt32) &&& (1431655765 : Int32))) &&& (858993459 : Int32)) + ((((x0 - (((x0.toUInt32 >>> ((1 : Int32).toUInt32 &&& Int32.toUInt32 31)).toInt32) &&& (1431655765 : Int32))).toUInt32 >>> ((2 : Int32).toUInt32 &&& Int32.toUInt32 31)).toInt32) &&& (858993459 : Int32))).toUInt32 >>> ((4 : Int32).toUInt32 &&& Int32.toUInt32 31)).toInt32)) &&& (252645135 : Int32)).toUInt32 >>> ((8 : Int32).toUInt32 &&& Int32.toUInt32 31)).toInt32)) + ((((((((x0 - (((x0.toUInt32 >>> ((1 : Int32).toUInt32 &&& Int32.toUInt32 31)).toInt32) &&& (1431655765 : Int32))) &&& (858993459 : Int32)) + ((((x0 - (((x0.toUInt32 >>> ((1 : Int32).toUInt32 &&& Int32.toUInt32 31)).toInt32) &&& (1431655765 : Int32))).toUInt32 >>> ((2 : Int32).toUInt32 &&& Int32.toUInt32 31)).toInt32) &&& (858993459 : Int32))) + (((((x0 - (((x0.toUInt32 >>> ((1 : Int32).toUInt32 &&& Int32.toUInt32 31)).toInt32) &&& (1431655765 : Int32))) &&& (858993459 : Int32)) + ((((x0 - (((x0.toUInt32 >>> ((1 : Int32).toUInt32 &&& Int32.toUInt32 31)).toInt32) &&& (1431655765 : Int32))).toUInt32 >>> ((2 : Int32).toUInt32 &&& Int32.toUInt32 31)).toInt32) &&& (858993459 : Int32))).toUInt32 >>> ((4 : Int32).toUInt32 &&& Int32.toUInt32 31)).toInt32)) &&& (252645135 : Int32)) + (((((((x0 - (((x0.toUInt32 >>> ((1 : Int32).toUInt32 &&& Int32.toUInt32 31)).toInt32) &&& (1431655765 : Int32))) &&& (858993459 : Int32)) + ((((x0 - (((x0.toUInt32 >>> ((1 : Int32).toUInt32 &&& Int32.toUInt32 31)).toInt32) &&& (1431655765 : Int32))).toUInt32 >>> ((2 : Int32).toUInt32 &&& Int32.toUInt32 31)).toInt32) &&& (858993459 : Int32))) + (((((x0 - (((x0.toUInt32 >>> ((1 : Int32).toUInt32 &&& Int32.toUInt32 31)).toInt32) &&& (1431655765 : Int32))) &&& (858993459 : Int32)) + ((((x0 - (((x0.toUInt32 >>> ((1 : Int32).toUInt32 &&& Int32.toUInt32 31)).toInt32) &&& (1431655765 : Int32))).toUInt32 >>> ((2 : Int32).toUInt32 &&& Int32.toUInt32 31)).toInt32) &&& (858993459 : Int32))).toUInt32 >>> ((4 : Int32).toUInt32 &&& Int32.toUInt32 31)).toInt32)) &&& (252645135 : Int32)).toUInt32 >>> ((8 : Int32).toUInt32 &&& Int32.toUInt32 31)).toInt32)).toUInt32 >>> ((16 : Int32).toUInt32 &&& Int32.toUInt32 31)).toInt32)))]) hm.1 dJ6_bitCount_0f7a4_47 rfl (by decide) rfl ?_
  refine kk_iload_n hm.1 0 dJ6_bitCount_0f7a4_48 rfl rfl ?_
  refine kk_bipush (v := (63 : Int32)) hm.1 dJ6_bitCount_0f7a4_49 (by decide) ?_
  refine kk_iand hm.1 dJ6_bitCount_0f7a4_51 ?_
  exact kk_iret hm.1 hm.2.1 dJ6_bitCount_0f7a4_52 ⟨_, rfl, rfl, rfl, rfl, rfl, rfl, h⟩
def w_X9_likeness_22 (a0 : Nat) (a1 : Nat) (T : kw_T) (n : Nat) (r : kw_R) (i : kw_I) (w : kw_L) (Q : Int32 → Prop) (k4 : Int32 → Int32 → Prop) (x2 : Int32) (x3 : Int32) : Prop :=
  k4 x2 ((x3 + (1 : Int32)))
def s_X9_likeness_4 (a0 : Nat) (a1 : Nat) (T : kw_T) (n : Nat) (r : kw_R) (i : kw_I) (w : kw_L) (Q : Int32 → Prop)  (k4 : Int32 → Int32 → Prop) (x2 : Int32) (x3 : Int32) : Prop :=
  ((36 : Int32) ≤ x3 → Q x2) ∧ (¬ (36 : Int32) ≤ x3 → kw_in T 1 a0 x3 ∧ (kw_in T 1 a1 x3 ∧ ((¬ (i a0 (x3).toNatClampNeg) = (i a1 (x3).toNatClampNeg) → w_X9_likeness_22 a0 a1 T n r i w Q k4 x2 x3) ∧ ((i a0 (x3).toNatClampNeg) = (i a1 (x3).toNatClampNeg) → w_X9_likeness_22 a0 a1 T n r i w Q k4 ((x2 + (1 : Int32))) x3))))
def w_X9_likeness_4 (a0 : Nat) (a1 : Nat) (T : kw_T) (n : Nat) (r : kw_R) (i : kw_I) (w : kw_L) (Q : Int32 → Prop)  : Nat → Int32 → Int32 → Prop
  | 0 => fun _ _ => False
  | N + 1 => s_X9_likeness_4 a0 a1 T n r i w Q  (w_X9_likeness_4 a0 a1 T n r i w Q  N)
def w_X9_likeness  (a0 : Nat) (a1 : Nat) (T : kw_T) (n : Nat) (r : kw_R) (i : kw_I) (w : kw_L) (Q : Int32 → Prop) : Prop :=
  ∃ N, w_X9_likeness_4 a0 a1 T n r i w Q  N ((0 : Int32)) ((0 : Int32))
abbrev rm_X9_likeness : Room := { frames := 1, cells := 0, slots := 0, locals := 60 }
set_option maxHeartbeats 4000000 in
set_option maxRecDepth 100000 in
theorem q_X9_likeness_22 {a0 : Nat} {a1 : Nat} {T : kw_T} {n : Nat} {r : kw_R} {i : kw_I} {w : kw_L} {Q : Int32 → Prop} {E : kw_E} {G : kw_G} (hm : kw_m E G cX9_likeness 4 RX9 (some .int) rm_X9_likeness "likeness")   {k4 : Int32 → Int32 → Prop} (hk4 : ∀ (x2 : Int32) (x3 : Int32), k4 x2 x3 → kw_K E G 4 0 0 (kw_Z E G 0 0 (kw_PI (fun v T' n' r' i' w' => T = T' ∧ n = n' ∧ r = r' ∧ i = i' ∧ w = w' ∧ Q v))) 4 [(0, kw_a a0), (1, kw_a a1), (2, kw_i x2), (3, kw_i x3)] [] T n r i w) (x2 : Int32) (x3 : Int32) (h : w_X9_likeness_22 a0 a1 T n r i w Q k4 x2 x3) : kw_K E G 4 0 0 (kw_Z E G 0 0 (kw_PI (fun v T' n' r' i' w' => T = T' ∧ n = n' ∧ r = r' ∧ i = i' ∧ w = w' ∧ Q v))) 22 [(0, kw_a a0), (1, kw_a a1), (2, kw_i x2), (3, kw_i x3)] [] T n r i w := by
  refine kk_iinc (v := (x3 + (1 : Int32))) (L' := [(3, kw_i (x3 + (1 : Int32))), (0, kw_a a0), (1, kw_a a1), (2, kw_i x2)]) hm.1 3 dX9_likeness_22 rfl rfl (by decide) rfl ?_
  refine kk_goto (tgt := 4) hm.1 dX9_likeness_25 (by decide) ?_
  refine kk_loc (L' := [(0, kw_a a0), (1, kw_a a1), (2, kw_i x2), (3, kw_i (x3 + (1 : Int32)))]) [1, 2, 3, 0] rfl ?_
  exact hk4 x2 ((x3 + (1 : Int32))) h
set_option maxHeartbeats 4000000 in
set_option maxRecDepth 100000 in
theorem qs_X9_likeness_4 {a0 : Nat} {a1 : Nat} {T : kw_T} {n : Nat} {r : kw_R} {i : kw_I} {w : kw_L} {Q : Int32 → Prop} {E : kw_E} {G : kw_G} (hm : kw_m E G cX9_likeness 4 RX9 (some .int) rm_X9_likeness "likeness")     {k4 : Int32 → Int32 → Prop} (hk4 : ∀ (x2 : Int32) (x3 : Int32), k4 x2 x3 → kw_K E G 4 0 0 (kw_Z E G 0 0 (kw_PI (fun v T' n' r' i' w' => T = T' ∧ n = n' ∧ r = r' ∧ i = i' ∧ w = w' ∧ Q v))) 4 [(0, kw_a a0), (1, kw_a a1), (2, kw_i x2), (3, kw_i x3)] [] T n r i w) (x2 : Int32) (x3 : Int32) (h : s_X9_likeness_4 a0 a1 T n r i w Q  k4 x2 x3) : kw_K E G 4 0 0 (kw_Z E G 0 0 (kw_PI (fun v T' n' r' i' w' => T = T' ∧ n = n' ∧ r = r' ∧ i = i' ∧ w = w' ∧ Q v))) 4 [(0, kw_a a0), (1, kw_a a1), (2, kw_i x2), (3, kw_i x3)] [] T n r i w := by
  refine kk_iload_n hm.1 3 dX9_likeness_4 rfl rfl ?_
  refine kk_bipush (v := (36 : Int32)) hm.1 dX9_likeness_5 (by decide) ?_
  refine kk_icmp_ge (tgt := 28) hm.1 dX9_likeness_7 (by decide) (fun c7 => ?_) (fun c7 => ?_)
  · have h := h.1 c7
    refine kk_iload_n hm.1 2 dX9_likeness_28 rfl rfl ?_
    exact kk_iret hm.1 hm.2.1 dX9_likeness_29 ⟨_, rfl, rfl, rfl, rfl, rfl, rfl, h⟩
  · have h := h.2 c7
    refine kk_aload_n hm.1 0 dX9_likeness_10 rfl rfl ?_
    refine kk_iload_n hm.1 3 dX9_likeness_11 rfl rfl ?_
    obtain ⟨o12, h⟩ := h
    refine kk_iaload hm.1 dX9_likeness_12 o12 ?_
    refine kk_aload_n hm.1 1 dX9_likeness_13 rfl rfl ?_
    refine kk_iload_n hm.1 3 dX9_likeness_14 rfl rfl ?_
    obtain ⟨o15, h⟩ := h
    refine kk_iaload hm.1 dX9_likeness_15 o15 ?_
    refine kk_icmp_ne (tgt := 22) hm.1 dX9_likeness_16 (by decide) (fun c16 => ?_) (fun c16 => ?_)
    · have h := h.1 c16
      exact q_X9_likeness_22 hm   hk4 x2 x3 h
    · have h := h.2 c16
      refine kk_iinc (v := (x2 + (1 : Int32))) (L' := [(2, kw_i (x2 + (1 : Int32))), (0, kw_a a0), (1, kw_a a1), (3, kw_i x3)]) hm.1 2 dX9_likeness_19 rfl rfl (by decide) rfl ?_
      refine kk_loc (L' := [(0, kw_a a0), (1, kw_a a1), (2, kw_i (x2 + (1 : Int32))), (3, kw_i x3)]) [1, 2, 0, 3] rfl ?_
      exact q_X9_likeness_22 hm   hk4 ((x2 + (1 : Int32))) x3 h
set_option maxHeartbeats 4000000 in
set_option maxRecDepth 100000 in
theorem q_X9_likeness_4 {a0 : Nat} {a1 : Nat} {T : kw_T} {n : Nat} {r : kw_R} {i : kw_I} {w : kw_L} {Q : Int32 → Prop} {E : kw_E} {G : kw_G} (hm : kw_m E G cX9_likeness 4 RX9 (some .int) rm_X9_likeness "likeness")     : ∀ (N : Nat) (x2 : Int32) (x3 : Int32), w_X9_likeness_4 a0 a1 T n r i w Q  N x2 x3 → kw_K E G 4 0 0 (kw_Z E G 0 0 (kw_PI (fun v T' n' r' i' w' => T = T' ∧ n = n' ∧ r = r' ∧ i = i' ∧ w = w' ∧ Q v))) 4 [(0, kw_a a0), (1, kw_a a1), (2, kw_i x2), (3, kw_i x3)] [] T n r i w := by
  intro N
  induction N with
  | zero => intro x2 x3 h; exact h.elim
  | succ N ih => intro x2 x3 h; exact qs_X9_likeness_4 hm    ih x2 x3 h
set_option maxHeartbeats 4000000 in
set_option maxRecDepth 100000 in
theorem t_X9_likeness {l : Launch} {G : kw_G} {a0 : Nat} {a1 : Nat} {T : kw_T} {n : Nat} {r : kw_R} {i : kw_I} {w : kw_L} {Q : Int32 → Prop} (h : w_X9_likeness a0 a1 T n r i w Q) : kw_Met l G yX9_likeness cX9_likeness 4 (some .int) rm_X9_likeness [kw_a a0, kw_a a1] (T, n, r, i, w) (kw_PI (fun v T' n' r' i' w' => T = T' ∧ n = n' ∧ r = r' ∧ i = i' ∧ w = w' ∧ Q v)) := by
  refine kw_Met.of (by decide) (Nat.le_of_ble_eq_true rfl) fun E hl hRm hE hT hnm => ?_
  have hm : kw_m E G cX9_likeness 4 RX9 (some .int) rm_X9_likeness "likeness" := ⟨hE, hT, hRm, hnm⟩
  subst hl
  show kw_K E G 4 0 0 (kw_Z E G 0 0 (kw_PI (fun v T' n' r' i' w' => T = T' ∧ n = n' ∧ r = r' ∧ i = i' ∧ w = w' ∧ Q v))) 0 [(0, kw_a a0), (1, kw_a a1)] [] T n r i w
  refine kk_iconst (v := (0 : Int32)) hm.1 dX9_likeness_0 (by decide) ?_
  refine kk_istore_n (L' := [(2, kw_i (0 : Int32)), (0, kw_a a0), (1, kw_a a1)]) hm.1 dX9_likeness_1 rfl (by decide) rfl ?_
  refine kk_iconst (v := (0 : Int32)) hm.1 dX9_likeness_2 (by decide) ?_
  refine kk_istore_n (L' := [(3, kw_i (0 : Int32)), (2, kw_i (0 : Int32)), (0, kw_a a0), (1, kw_a a1)]) hm.1 dX9_likeness_3 rfl (by decide) rfl ?_
  refine kk_loc (L' := [(0, kw_a a0), (1, kw_a a1), (2, kw_i (0 : Int32)), (3, kw_i (0 : Int32))]) [2, 3, 1, 0] rfl ?_
  obtain ⟨N, h⟩ := h
  exact q_X9_likeness_4 hm    N ((0 : Int32)) ((0 : Int32)) h
def w_X0_likenessWithout  (a0 : Nat) (x1 : Int32) (T : kw_T) (n : Nat) (r : kw_R) (i : kw_I) (w : kw_L) (Q : Int32 → kw_I → kw_L → Prop) : Prop :=
  ∀ i2 : kw_I, i2 = kw_st i a0 3 (0 : Int32) → (∀ i7 : kw_I, i7 = kw_st i2 a0 4 (-1 : Int32) → (T ((r a0 0)) = (0, 5) ∧ (w_X5_picture (r a0 0) (-1 : Int32) T n r i7 w (fun v17 => w_X0_endFrom a0 (0 : Int32) v17 x1 T n r i7 w (fun v21 i21 w21 => w_X5_picture (r a0 0) (-1 : Int32) T n r i21 w21 (fun v29 => w_X9_likeness v21 v29 T n r i21 w21 (fun v32 => Q v32 i21 w21)))))))
abbrev rm_X0_likenessWithout : Room := { frames := 6, cells := 0, slots := 0, locals := 199 }
set_option maxHeartbeats 4000000 in
set_option maxRecDepth 100000 in
theorem t_X0_likenessWithout {l : Launch} {G : kw_G} {a0 : Nat} {x1 : Int32} {T : kw_T} {n : Nat} {r : kw_R} {i : kw_I} {w : kw_L} {Q : Int32 → kw_I → kw_L → Prop} (h0 : T a0 = (0, 0)) (h : w_X0_likenessWithout a0 x1 T n r i w Q) : kw_Met l G yX0_likenessWithout cX0_likenessWithout 2 (some .int) rm_X0_likenessWithout [kw_a a0, kw_i x1] (T, n, r, i, w) (kw_PI (fun v T' n' r' i' w' => T = T' ∧ n = n' ∧ r = r' ∧ Q v i' w')) := by
  refine kw_Met.of (by decide) (Nat.le_of_ble_eq_true rfl) fun E hl hRm hE hT hnm => ?_
  have hm : kw_m E G cX0_likenessWithout 2 RX0 (some .int) rm_X0_likenessWithout "likenessWithout" := ⟨hE, hT, hRm, hnm⟩
  subst hl
  show kw_K E G 2 0 0 (kw_Z E G 0 0 (kw_PI (fun v T' n' r' i' w' => T = T' ∧ n = n' ∧ r = r' ∧ Q v i' w'))) 0 [(0, kw_a a0), (1, kw_i x1)] [] T n r i w
  refine kk_aload_n hm.1 0 dX0_likenessWithout_0 rfl rfl ?_
  refine kk_iconst (v := (0 : Int32)) hm.1 dX0_likenessWithout_1 (by decide) ?_
  refine kn_putI hm.1 fp_X0_16 dX0_likenessWithout_2 h0 (fun i2 e2 => ?_)
  have h := h i2 e2
  refine kk_aload_n hm.1 0 dX0_likenessWithout_5 rfl rfl ?_
  refine kk_iconst (v := (-1 : Int32)) hm.1 dX0_likenessWithout_6 (by decide) ?_
  refine kn_putI hm.1 fp_X0_20 dX0_likenessWithout_7 h0 (fun i7 e7 => ?_)
  have h := h i7 e7
  refine kk_aload_n hm.1 0 dX0_likenessWithout_10 rfl rfl ?_
  refine kk_iconst (v := (0 : Int32)) hm.1 dX0_likenessWithout_11 (by decide) ?_
  refine kk_aload_n hm.1 0 dX0_likenessWithout_12 rfl rfl ?_
  refine kk_getR hm.1 ff_X0_47 dX0_likenessWithout_13 h0 ?_
  refine kk_iconst (v := (-1 : Int32)) hm.1 dX0_likenessWithout_16 (by decide) ?_
  obtain ⟨o17, h⟩ := h
  refine kk_callVa (cs' := 0) (sl' := 0) (st := [kw_i (0 : Int32), kw_a a0]) hm.1 cv_X0_58 (t_X5_picture o17 h) dX0_likenessWithout_17 o17 rfl rfl hm.2.2.1 ⟨by decide, by decide⟩ ⟨by decide, by decide⟩ rfl rfl (Nat.le_of_ble_eq_true rfl) rfl ?_
  rintro v17 _ _ _ _ _ ⟨rfl, rfl, rfl, rfl, rfl, h⟩
  refine kk_iload_n hm.1 1 dX0_likenessWithout_20 rfl rfl ?_
  refine kk_callVa (cs' := 0) (sl' := 0) (st := []) hm.1 cv_X0_68 (t_X0_endFrom h0 h) dX0_likenessWithout_21 h0 rfl rfl hm.2.2.1 ⟨by decide, by decide⟩ ⟨by decide, by decide⟩ rfl rfl (Nat.le_of_ble_eq_true rfl) rfl ?_
  rintro v21 _ _ _ i21 w21 ⟨rfl, rfl, rfl, h⟩
  refine kk_aload_n hm.1 0 dX0_likenessWithout_24 rfl rfl ?_
  refine kk_getR hm.1 ff_X0_47 dX0_likenessWithout_25 h0 ?_
  refine kk_iconst (v := (-1 : Int32)) hm.1 dX0_likenessWithout_28 (by decide) ?_
  refine kk_callVa (cs' := 0) (sl' := 0) (st := [kw_a v21]) hm.1 cv_X0_58 (t_X5_picture o17 h) dX0_likenessWithout_29 o17 rfl rfl hm.2.2.1 ⟨by decide, by decide⟩ ⟨by decide, by decide⟩ rfl rfl (Nat.le_of_ble_eq_true rfl) rfl ?_
  rintro v29 _ _ _ _ _ ⟨rfl, rfl, rfl, rfl, rfl, h⟩
  refine kk_callSi (cs' := 0) (sl' := 0) (st := []) hm.1 cs_X0_112 (t_X9_likeness h) dX0_likenessWithout_32 rfl hm.2.2.1 ⟨by decide, by decide⟩ ⟨by decide, by decide⟩ rfl rfl (Nat.le_of_ble_eq_true rfl) rfl ?_
  rintro v32 _ _ _ _ _ ⟨rfl, rfl, rfl, rfl, rfl, h⟩
  exact kk_iret hm.1 hm.2.1 dX0_likenessWithout_35 ⟨_, rfl, rfl, rfl, rfl, h⟩
def w_X0_findLooks_116 (a0 : Nat) (x1 : Int32) (T : kw_T) (n : Nat) (r : kw_R) (Q : kw_I → kw_L → Prop) (k30 : Nat → Int32 → kw_I → kw_L → Prop) (a2 : Nat) (x3 : Int32) (i : kw_I) (w : kw_L) : Prop :=
  k30 a2 ((x3 + (1 : Int32))) i w
def s_X0_findLooks_30 (a0 : Nat) (x1 : Int32) (T : kw_T) (n : Nat) (r : kw_R) (Q : kw_I → kw_L → Prop)  (k30 : Nat → Int32 → kw_I → kw_L → Prop) (a2 : Nat) (x3 : Int32) (i : kw_I) (w : kw_L) : Prop :=
  T ((r a0 1)) = (0, 2) ∧ ((((1 : Int32) <<< ((i (r a0 1) 5) &&& 31)) ≤ x3 → Q i w) ∧ (¬ ((1 : Int32) <<< ((i (r a0 1) 5) &&& 31)) ≤ x3 → w_J6_bitCount_0f7a4 x3 T n r i w (fun v44 => (v44 = x1 → ∀ i59 : kw_I, i59 = kw_st i (r a0 1) 6 x3 → (w_X0_likenessWithout a0 x3 T n r i59 w (fun v64 i64 w64 => ∀ i74 : kw_I, i74 = kw_st i64 (r a0 1) 6 (0 : Int32) → (kw_in T 1 a2 (0 : Int32) ∧ ((v64 ≤ (i74 a2 ((0 : Int32)).toNatClampNeg) → kw_in T 1 a2 (0 : Int32) ∧ ((¬ v64 = (i74 a2 ((0 : Int32)).toNatClampNeg) → w_X0_findLooks_116 a0 x1 T n r Q k30 a2 x3 i74 w64) ∧ (v64 = (i74 a2 ((0 : Int32)).toNatClampNeg) → kw_in T 1 a2 (2 : Int32) ∧ (kw_in T 1 a2 (2 : Int32) ∧ (∀ i115 : kw_I, i115 = kw_st i74 a2 ((2 : Int32)).toNatClampNeg ((i74 a2 ((2 : Int32)).toNatClampNeg) + (1 : Int32)) → (w_X0_findLooks_116 a0 x1 T n r Q k30 a2 x3 i115 w64)))))) ∧ (¬ v64 ≤ (i74 a2 ((0 : Int32)).toNatClampNeg) → kw_in T 1 a2 (0 : Int32) ∧ (∀ i89 : kw_I, i89 = kw_st i74 a2 ((0 : Int32)).toNatClampNeg v64 → (kw_in T 1 a2 (1 : Int32) ∧ (∀ i93 : kw_I, i93 = kw_st i89 a2 ((1 : Int32)).toNatClampNeg x3 → (kw_in T 1 a2 (2 : Int32) ∧ (∀ i97 : kw_I, i97 = kw_st i93 a2 ((2 : Int32)).toNatClampNeg (1 : Int32) → (w_X0_findLooks_116 a0 x1 T n r Q k30 a2 x3 i97 w64)))))))))))) ∧ (¬ v44 = x1 → w_X0_findLooks_116 a0 x1 T n r Q k30 a2 x3 i w))))
def w_X0_findLooks_30 (a0 : Nat) (x1 : Int32) (T : kw_T) (n : Nat) (r : kw_R) (Q : kw_I → kw_L → Prop)  : Nat → Nat → Int32 → kw_I → kw_L → Prop
  | 0 => fun _ _ _ _ => False
  | N + 1 => s_X0_findLooks_30 a0 x1 T n r Q  (w_X0_findLooks_30 a0 x1 T n r Q  N)
def w_X0_findLooks  (a0 : Nat) (x1 : Int32) (T : kw_T) (n : Nat) (r : kw_R) (i : kw_I) (w : kw_L) (Q : kw_I → kw_L → Prop) : Prop :=
  kw_in T 3 (r a0 6) x1 ∧ (((i (r a0 6) (x1).toNatClampNeg) = 0 → kw_in T 3 (r a0 6) x1 ∧ (∀ i16 : kw_I, i16 = kw_st i (r a0 6) (x1).toNatClampNeg (1 : Int32) → (kw_in T 5 (r a0 5) x1 ∧ (kw_in T 1 (r (r a0 5) (x1).toNatClampNeg) (0 : Int32) ∧ (∀ i27 : kw_I, i27 = kw_st i16 (r (r a0 5) (x1).toNatClampNeg) ((0 : Int32)).toNatClampNeg (-1 : Int32) → (∃ N, w_X0_findLooks_30 a0 x1 T n r Q  N ((r (r a0 5) (x1).toNatClampNeg)) ((0 : Int32)) i27 w)))))) ∧ (¬ (i (r a0 6) (x1).toNatClampNeg) = 0 → Q i w))
abbrev rm_X0_findLooks : Room := { frames := 7, cells := 0, slots := 0, locals := 220 }
set_option maxHeartbeats 4000000 in
set_option maxRecDepth 100000 in
theorem q_X0_findLooks_116 {a0 : Nat} {x1 : Int32} {T : kw_T} {n : Nat} {r : kw_R} {Q : kw_I → kw_L → Prop} {E : kw_E} {G : kw_G} (hm : kw_m E G cX0_findLooks 5 RX0 none rm_X0_findLooks "findLooks")  (h0 : T a0 = (0, 0))  {k30 : Nat → Int32 → kw_I → kw_L → Prop} (hk30 : ∀ (a2 : Nat) (x3 : Int32) (i : kw_I) (w : kw_L), k30 a2 x3 i w → kw_K E G 5 0 0 (kw_Z E G 0 0 (kw_PV (fun T' n' r' i' w' => T = T' ∧ n = n' ∧ r = r' ∧ Q i' w'))) 30 [(0, kw_a a0), (1, kw_i x1), (2, kw_a a2), (3, kw_i x3)] [] T n r i w) (a2 : Nat) (x3 : Int32) (i : kw_I) (w : kw_L) (h : w_X0_findLooks_116 a0 x1 T n r Q k30 a2 x3 i w) : kw_K E G 5 0 0 (kw_Z E G 0 0 (kw_PV (fun T' n' r' i' w' => T = T' ∧ n = n' ∧ r = r' ∧ Q i' w'))) 116 [(0, kw_a a0), (1, kw_i x1), (2, kw_a a2), (3, kw_i x3)] [] T n r i w := by
  refine kk_iinc (v := (x3 + (1 : Int32))) (L' := [(3, kw_i (x3 + (1 : Int32))), (0, kw_a a0), (1, kw_i x1), (2, kw_a a2)]) hm.1 3 dX0_findLooks_116 rfl rfl (by decide) rfl ?_
  refine kk_goto (tgt := 30) hm.1 dX0_findLooks_119 (by decide) ?_
  refine kk_loc (L' := [(0, kw_a a0), (1, kw_i x1), (2, kw_a a2), (3, kw_i (x3 + (1 : Int32)))]) [1, 2, 3, 0] rfl ?_
  exact hk30 a2 ((x3 + (1 : Int32))) i w h
set_option maxHeartbeats 4000000 in
set_option maxRecDepth 100000 in
theorem qs_X0_findLooks_30 {a0 : Nat} {x1 : Int32} {T : kw_T} {n : Nat} {r : kw_R} {Q : kw_I → kw_L → Prop} {E : kw_E} {G : kw_G} (hm : kw_m E G cX0_findLooks 5 RX0 none rm_X0_findLooks "findLooks")  (h0 : T a0 = (0, 0))    {k30 : Nat → Int32 → kw_I → kw_L → Prop} (hk30 : ∀ (a2 : Nat) (x3 : Int32) (i : kw_I) (w : kw_L), k30 a2 x3 i w → kw_K E G 5 0 0 (kw_Z E G 0 0 (kw_PV (fun T' n' r' i' w' => T = T' ∧ n = n' ∧ r = r' ∧ Q i' w'))) 30 [(0, kw_a a0), (1, kw_i x1), (2, kw_a a2), (3, kw_i x3)] [] T n r i w) (a2 : Nat) (x3 : Int32) (i : kw_I) (w : kw_L) (h : s_X0_findLooks_30 a0 x1 T n r Q  k30 a2 x3 i w) : kw_K E G 5 0 0 (kw_Z E G 0 0 (kw_PV (fun T' n' r' i' w' => T = T' ∧ n = n' ∧ r = r' ∧ Q i' w'))) 30 [(0, kw_a a0), (1, kw_i x1), (2, kw_a a2), (3, kw_i x3)] [] T n r i w := by
  refine kk_iload_n hm.1 3 dX0_findLooks_30 rfl rfl ?_
  refine kk_iconst (v := (1 : Int32)) hm.1 dX0_findLooks_31 (by decide) ?_
  refine kk_aload_n hm.1 0 dX0_findLooks_32 rfl rfl ?_
  refine kk_getR hm.1 ff_X0_57 dX0_findLooks_33 h0 ?_
  obtain ⟨o36, h⟩ := h
  refine kk_getI hm.1 ff_X0_76 dX0_findLooks_36 o36 ?_
  refine kk_ishl hm.1 dX0_findLooks_39 ?_
  refine kk_icmp_ge (tgt := 122) hm.1 dX0_findLooks_40 (by decide) (fun c40 => ?_) (fun c40 => ?_)
  · have h := h.1 c40
    exact kk_vret hm.1 hm.2.1 dX0_findLooks_122 ⟨rfl, rfl, rfl, rfl, h⟩
  · have h := h.2 c40
    refine kk_iload_n hm.1 3 dX0_findLooks_43 rfl rfl ?_
    refine kk_callSi (cs' := 0) (sl' := 0) (st := []) hm.1 cs_X0_81 (t_J6_bitCount_0f7a4 h) dX0_findLooks_44 rfl hm.2.2.1 ⟨by decide, by decide⟩ ⟨by decide, by decide⟩ rfl rfl (Nat.le_of_ble_eq_true rfl) rfl ?_
    rintro v44 _ _ _ _ _ ⟨rfl, rfl, rfl, rfl, rfl, h⟩
    refine kk_iload_n hm.1 1 dX0_findLooks_47 rfl rfl ?_
    refine kk_icmp_eq (tgt := 54) hm.1 dX0_findLooks_48 (by decide) (fun c48 => ?_) (fun c48 => ?_)
    · have h := h.1 c48
      refine kk_aload_n hm.1 0 dX0_findLooks_54 rfl rfl ?_
      refine kk_getR hm.1 ff_X0_57 dX0_findLooks_55 h0 ?_
      refine kk_iload_n hm.1 3 dX0_findLooks_58 rfl rfl ?_
      refine kn_putI hm.1 fp_X0_87 dX0_findLooks_59 o36 (fun i59 e59 => ?_)
      have h := h i59 e59
      refine kk_aload_n hm.1 0 dX0_findLooks_62 rfl rfl ?_
      refine kk_iload_n hm.1 3 dX0_findLooks_63 rfl rfl ?_
      refine kk_callVi (cs' := 0) (sl' := 0) (st := []) hm.1 cv_X0_90 (t_X0_likenessWithout h0 h) dX0_findLooks_64 h0 rfl rfl hm.2.2.1 ⟨by decide, by decide⟩ ⟨by decide, by decide⟩ rfl rfl (Nat.le_of_ble_eq_true rfl) rfl ?_
      rintro v64 _ _ _ i64 w64 ⟨rfl, rfl, rfl, h⟩
      refine kk_istore (L' := [(4, kw_i v64), (0, kw_a a0), (1, kw_i x1), (2, kw_a a2), (3, kw_i x3)]) hm.1 dX0_findLooks_67 (by decide) rfl ?_
      refine kk_aload_n hm.1 1 dX0_findLooks_69 rfl rfl ?_
      refine kk_getR hm.1 ff_X0_57 dX0_findLooks_70 h0 ?_
      refine kk_iconst (v := (0 : Int32)) hm.1 dX0_findLooks_73 (by decide) ?_
      refine kn_putI hm.1 fp_X0_87 dX0_findLooks_74 o36 (fun i74 e74 => ?_)
      have h := h i74 e74
      refine kk_iload hm.1 0 dX0_findLooks_77 rfl ?_
      refine kk_aload_n hm.1 3 dX0_findLooks_79 rfl rfl ?_
      refine kk_iconst (v := (0 : Int32)) hm.1 dX0_findLooks_80 (by decide) ?_
      obtain ⟨o81, h⟩ := h
      refine kk_iaload hm.1 dX0_findLooks_81 o81 ?_
      refine kk_icmp_le (tgt := 101) hm.1 dX0_findLooks_82 (by decide) (fun c82 => ?_) (fun c82 => ?_)
      · have h := h.1 c82
        refine kk_iload hm.1 0 dX0_findLooks_101 rfl ?_
        refine kk_aload_n hm.1 3 dX0_findLooks_103 rfl rfl ?_
        refine kk_iconst (v := (0 : Int32)) hm.1 dX0_findLooks_104 (by decide) ?_
        obtain ⟨o105, h⟩ := h
        refine kk_iaload hm.1 dX0_findLooks_105 o105 ?_
        refine kk_icmp_ne (tgt := 116) hm.1 dX0_findLooks_106 (by decide) (fun c106 => ?_) (fun c106 => ?_)
        · have h := h.1 c106
          refine kk_loc (L' := [(0, kw_a a0), (1, kw_i x1), (2, kw_a a2), (3, kw_i x3)]) [1, 2, 3, 4] rfl ?_
          exact q_X0_findLooks_116 hm  h0  hk30 a2 x3 i74 w64 h
        · have h := h.2 c106
          refine kk_aload_n hm.1 3 dX0_findLooks_109 rfl rfl ?_
          refine kk_iconst (v := (2 : Int32)) hm.1 dX0_findLooks_110 (by decide) ?_
          refine kk_dup2 hm.1 dX0_findLooks_111 rfl rfl ?_
          obtain ⟨o112, h⟩ := h
          refine kk_iaload hm.1 dX0_findLooks_112 o112 ?_
          refine kk_iconst (v := (1 : Int32)) hm.1 dX0_findLooks_113 (by decide) ?_
          refine kk_iadd hm.1 dX0_findLooks_114 ?_
          obtain ⟨o115, h⟩ := h
          refine kn_iastore hm.1 dX0_findLooks_115 o115 (fun i115 e115 => ?_)
          have h := h i115 e115
          refine kk_loc (L' := [(0, kw_a a0), (1, kw_i x1), (2, kw_a a2), (3, kw_i x3)]) [1, 2, 3, 4] rfl ?_
          exact q_X0_findLooks_116 hm  h0  hk30 a2 x3 i115 w64 h
      · have h := h.2 c82
        refine kk_aload_n hm.1 3 dX0_findLooks_85 rfl rfl ?_
        refine kk_iconst (v := (0 : Int32)) hm.1 dX0_findLooks_86 (by decide) ?_
        refine kk_iload hm.1 0 dX0_findLooks_87 rfl ?_
        obtain ⟨o89, h⟩ := h
        refine kn_iastore hm.1 dX0_findLooks_89 o89 (fun i89 e89 => ?_)
        have h := h i89 e89
        refine kk_aload_n hm.1 3 dX0_findLooks_90 rfl rfl ?_
        refine kk_iconst (v := (1 : Int32)) hm.1 dX0_findLooks_91 (by decide) ?_
        refine kk_iload_n hm.1 4 dX0_findLooks_92 rfl rfl ?_
        obtain ⟨o93, h⟩ := h
        refine kn_iastore hm.1 dX0_findLooks_93 o93 (fun i93 e93 => ?_)
        have h := h i93 e93
        refine kk_aload_n hm.1 3 dX0_findLooks_94 rfl rfl ?_
        refine kk_iconst (v := (2 : Int32)) hm.1 dX0_findLooks_95 (by decide) ?_
        refine kk_iconst (v := (1 : Int32)) hm.1 dX0_findLooks_96 (by decide) ?_
        obtain ⟨o97, h⟩ := h
        refine kn_iastore hm.1 dX0_findLooks_97 o97 (fun i97 e97 => ?_)
        have h := h i97 e97
        refine kk_goto (tgt := 116) hm.1 dX0_findLooks_98 (by decide) ?_
        refine kk_loc (L' := [(0, kw_a a0), (1, kw_i x1), (2, kw_a a2), (3, kw_i x3)]) [1, 2, 3, 4] rfl ?_
        exact q_X0_findLooks_116 hm  h0  hk30 a2 x3 i97 w64 h
    · have h := h.2 c48
      refine kk_goto (tgt := 116) hm.1 dX0_findLooks_51 (by decide) ?_
      exact q_X0_findLooks_116 hm  h0  hk30 a2 x3 i w h
set_option maxHeartbeats 4000000 in
set_option maxRecDepth 100000 in
theorem q_X0_findLooks_30 {a0 : Nat} {x1 : Int32} {T : kw_T} {n : Nat} {r : kw_R} {Q : kw_I → kw_L → Prop} {E : kw_E} {G : kw_G} (hm : kw_m E G cX0_findLooks 5 RX0 none rm_X0_findLooks "findLooks")  (h0 : T a0 = (0, 0))    : ∀ (N : Nat) (a2 : Nat) (x3 : Int32) (i : kw_I) (w : kw_L), w_X0_findLooks_30 a0 x1 T n r Q  N a2 x3 i w → kw_K E G 5 0 0 (kw_Z E G 0 0 (kw_PV (fun T' n' r' i' w' => T = T' ∧ n = n' ∧ r = r' ∧ Q i' w'))) 30 [(0, kw_a a0), (1, kw_i x1), (2, kw_a a2), (3, kw_i x3)] [] T n r i w := by
  intro N
  induction N with
  | zero => intro a2 x3 i w h; exact h.elim
  | succ N ih => intro a2 x3 i w h; exact qs_X0_findLooks_30 hm  h0  ih a2 x3 i w h
set_option maxHeartbeats 4000000 in
set_option maxRecDepth 100000 in
theorem t_X0_findLooks {l : Launch} {G : kw_G} {a0 : Nat} {x1 : Int32} {T : kw_T} {n : Nat} {r : kw_R} {i : kw_I} {w : kw_L} {Q : kw_I → kw_L → Prop} (h0 : T a0 = (0, 0)) (h : w_X0_findLooks a0 x1 T n r i w Q) : kw_Met l G yX0_findLooks cX0_findLooks 5 none rm_X0_findLooks [kw_a a0, kw_i x1] (T, n, r, i, w) (kw_PV (fun T' n' r' i' w' => T = T' ∧ n = n' ∧ r = r' ∧ Q i' w')) := by
  refine kw_Met.of (by decide) (Nat.le_of_ble_eq_true rfl) fun E hl hRm hE hT hnm => ?_
  have hm : kw_m E G cX0_findLooks 5 RX0 none rm_X0_findLooks "findLooks" := ⟨hE, hT, hRm, hnm⟩
  subst hl
  show kw_K E G 5 0 0 (kw_Z E G 0 0 (kw_PV (fun T' n' r' i' w' => T = T' ∧ n = n' ∧ r = r' ∧ Q i' w'))) 0 [(0, kw_a a0), (1, kw_i x1)] [] T n r i w
  refine kk_aload_n hm.1 0 dX0_findLooks_0 rfl rfl ?_
  refine kk_getR hm.1 ff_X0_26 dX0_findLooks_1 h0 ?_
  refine kk_iload_n hm.1 1 dX0_findLooks_4 rfl rfl ?_
  obtain ⟨o5, h⟩ := h
  refine kk_zaload hm.1 dX0_findLooks_5 o5 ?_
  refine kk_if_eq (tgt := 10) hm.1 dX0_findLooks_6 (by decide) (fun c6 => ?_) (fun c6 => ?_)
  · have h := h.1 c6
    refine kk_aload_n hm.1 0 dX0_findLooks_10 rfl rfl ?_
    refine kk_getR hm.1 ff_X0_26 dX0_findLooks_11 h0 ?_
    refine kk_iload_n hm.1 1 dX0_findLooks_14 rfl rfl ?_
    refine kk_iconst (v := (1 : Int32)) hm.1 dX0_findLooks_15 (by decide) ?_
    obtain ⟨o16, h⟩ := h
    refine kn_zastore hm.1 dX0_findLooks_16 o16 (Or.inr rfl) (fun i16 e16 => ?_)
    have h := h i16 e16
    refine kk_aload_n hm.1 0 dX0_findLooks_17 rfl rfl ?_
    refine kk_getR hm.1 ff_X0_23 dX0_findLooks_18 h0 ?_
    refine kk_iload_n hm.1 1 dX0_findLooks_21 rfl rfl ?_
    obtain ⟨o22, h⟩ := h
    refine kk_aaload hm.1 5 (by decide) (by decide) rfl rfl dX0_findLooks_22 o22 ?_
    refine kk_astore_n (L' := [(2, kw_a (r (r a0 5) (x1).toNatClampNeg)), (0, kw_a a0), (1, kw_i x1)]) hm.1 dX0_findLooks_23 rfl (by decide) rfl ?_
    refine kk_aload_n hm.1 0 dX0_findLooks_24 rfl rfl ?_
    refine kk_iconst (v := (0 : Int32)) hm.1 dX0_findLooks_25 (by decide) ?_
    refine kk_iconst (v := (-1 : Int32)) hm.1 dX0_findLooks_26 (by decide) ?_
    obtain ⟨o27, h⟩ := h
    refine kn_iastore hm.1 dX0_findLooks_27 o27 (fun i27 e27 => ?_)
    have h := h i27 e27
    refine kk_iconst (v := (0 : Int32)) hm.1 dX0_findLooks_28 (by decide) ?_
    refine kk_istore_n (L' := [(3, kw_i (0 : Int32)), (2, kw_a (r (r a0 5) (x1).toNatClampNeg)), (0, kw_a a0), (1, kw_i x1)]) hm.1 dX0_findLooks_29 rfl (by decide) rfl ?_
    refine kk_loc (L' := [(0, kw_a a0), (1, kw_i x1), (2, kw_a (r (r a0 5) (x1).toNatClampNeg)), (3, kw_i (0 : Int32))]) [2, 3, 1, 0] rfl ?_
    obtain ⟨N, h⟩ := h
    exact q_X0_findLooks_30 hm  h0   N ((r (r a0 5) (x1).toNatClampNeg)) ((0 : Int32)) i27 w h
  · have h := h.2 c6
    exact kk_vret hm.1 hm.2.1 dX0_findLooks_9 ⟨rfl, rfl, rfl, rfl, h⟩
def s_J7_fill_53178_5 (a0 : Nat) (x1 : Int32) (T : kw_T) (n : Nat) (r : kw_R) (w : kw_L) (Q : kw_I → Prop)  (k5 : Int32 → Int32 → kw_I → Prop) (x2 : Int32) (x3 : Int32) (i : kw_I) : Prop :=
  (x3 ≤ x2 → Q i) ∧ (¬ x3 ≤ x2 → kw_in T 1 a0 x2 ∧ (∀ i13 : kw_I, i13 = kw_st i a0 (x2).toNatClampNeg x1 → (k5 ((x2 + (1 : Int32))) x3 i13)))
def w_J7_fill_53178_5 (a0 : Nat) (x1 : Int32) (T : kw_T) (n : Nat) (r : kw_R) (w : kw_L) (Q : kw_I → Prop)  : Nat → Int32 → Int32 → kw_I → Prop
  | 0 => fun _ _ _ => False
  | N + 1 => s_J7_fill_53178_5 a0 x1 T n r w Q  (w_J7_fill_53178_5 a0 x1 T n r w Q  N)
def w_J7_fill_53178  (a0 : Nat) (x1 : Int32) (T : kw_T) (n : Nat) (r : kw_R) (i : kw_I) (w : kw_L) (Q : kw_I → Prop) : Prop :=
  (T a0).1 = 1 ∧ (∃ N, w_J7_fill_53178_5 a0 x1 T n r w Q  N ((0 : Int32)) (((T a0).2.toInt32)) i)
abbrev rm_J7_fill_53178 : Room := { frames := 1, cells := 0, slots := 0, locals := 60 }
set_option maxHeartbeats 4000000 in
set_option maxRecDepth 100000 in
theorem qs_J7_fill_53178_5 {a0 : Nat} {x1 : Int32} {T : kw_T} {n : Nat} {r : kw_R} {w : kw_L} {Q : kw_I → Prop} {E : kw_E} {G : kw_G} (hm : kw_m E G cJ7_fill_53178 4 RJ7 none rm_J7_fill_53178 "fill")     {k5 : Int32 → Int32 → kw_I → Prop} (hk5 : ∀ (x2 : Int32) (x3 : Int32) (i : kw_I), k5 x2 x3 i → kw_K E G 4 0 0 (kw_Z E G 0 0 (kw_PV (fun T' n' r' i' w' => T = T' ∧ n = n' ∧ r = r' ∧ w = w' ∧ Q i'))) 5 [(0, kw_a a0), (1, kw_i x1), (2, kw_i x2), (3, kw_i x3)] [] T n r i w) (x2 : Int32) (x3 : Int32) (i : kw_I) (h : s_J7_fill_53178_5 a0 x1 T n r w Q  k5 x2 x3 i) : kw_K E G 4 0 0 (kw_Z E G 0 0 (kw_PV (fun T' n' r' i' w' => T = T' ∧ n = n' ∧ r = r' ∧ w = w' ∧ Q i'))) 5 [(0, kw_a a0), (1, kw_i x1), (2, kw_i x2), (3, kw_i x3)] [] T n r i w := by
  refine kk_iload_n hm.1 2 dJ7_fill_53178_5 rfl rfl ?_
  refine kk_iload_n hm.1 3 dJ7_fill_53178_6 rfl rfl ?_
  refine kk_icmp_ge (tgt := 20) hm.1 dJ7_fill_53178_7 (by decide) (fun c7 => ?_) (fun c7 => ?_)
  · have h := h.1 c7
    exact kk_vret hm.1 hm.2.1 dJ7_fill_53178_20 ⟨rfl, rfl, rfl, rfl, rfl, h⟩
  · have h := h.2 c7
    refine kk_aload_n hm.1 0 dJ7_fill_53178_10 rfl rfl ?_
    refine kk_iload_n hm.1 2 dJ7_fill_53178_11 rfl rfl ?_
    refine kk_iload_n hm.1 1 dJ7_fill_53178_12 rfl rfl ?_
    obtain ⟨o13, h⟩ := h
    refine kn_iastore hm.1 dJ7_fill_53178_13 o13 (fun i13 e13 => ?_)
    have h := h i13 e13
    refine kk_iinc (v := (x2 + (1 : Int32))) (L' := [(2, kw_i (x2 + (1 : Int32))), (0, kw_a a0), (1, kw_i x1), (3, kw_i x3)]) hm.1 2 dJ7_fill_53178_14 rfl rfl (by decide) rfl ?_
    refine kk_goto (tgt := 5) hm.1 dJ7_fill_53178_17 (by decide) ?_
    refine kk_loc (L' := [(0, kw_a a0), (1, kw_i x1), (2, kw_i (x2 + (1 : Int32))), (3, kw_i x3)]) [1, 2, 0, 3] rfl ?_
    exact hk5 ((x2 + (1 : Int32))) x3 i13 h
set_option maxHeartbeats 4000000 in
set_option maxRecDepth 100000 in
theorem q_J7_fill_53178_5 {a0 : Nat} {x1 : Int32} {T : kw_T} {n : Nat} {r : kw_R} {w : kw_L} {Q : kw_I → Prop} {E : kw_E} {G : kw_G} (hm : kw_m E G cJ7_fill_53178 4 RJ7 none rm_J7_fill_53178 "fill")     : ∀ (N : Nat) (x2 : Int32) (x3 : Int32) (i : kw_I), w_J7_fill_53178_5 a0 x1 T n r w Q  N x2 x3 i → kw_K E G 4 0 0 (kw_Z E G 0 0 (kw_PV (fun T' n' r' i' w' => T = T' ∧ n = n' ∧ r = r' ∧ w = w' ∧ Q i'))) 5 [(0, kw_a a0), (1, kw_i x1), (2, kw_i x2), (3, kw_i x3)] [] T n r i w := by
  intro N
  induction N with
  | zero => intro x2 x3 i h; exact h.elim
  | succ N ih => intro x2 x3 i h; exact qs_J7_fill_53178_5 hm    ih x2 x3 i h
set_option maxHeartbeats 4000000 in
set_option maxRecDepth 100000 in
theorem t_J7_fill_53178 {l : Launch} {G : kw_G} {a0 : Nat} {x1 : Int32} {T : kw_T} {n : Nat} {r : kw_R} {i : kw_I} {w : kw_L} {Q : kw_I → Prop} (h : w_J7_fill_53178 a0 x1 T n r i w Q) : kw_Met l G yJ7_fill_53178 cJ7_fill_53178 4 none rm_J7_fill_53178 [kw_a a0, kw_i x1] (T, n, r, i, w) (kw_PV (fun T' n' r' i' w' => T = T' ∧ n = n' ∧ r = r' ∧ w = w' ∧ Q i')) := by
  refine kw_Met.of (by decide) (Nat.le_of_ble_eq_true rfl) fun E hl hRm hE hT hnm => ?_
  have hm : kw_m E G cJ7_fill_53178 4 RJ7 none rm_J7_fill_53178 "fill" := ⟨hE, hT, hRm, hnm⟩
  subst hl
  show kw_K E G 4 0 0 (kw_Z E G 0 0 (kw_PV (fun T' n' r' i' w' => T = T' ∧ n = n' ∧ r = r' ∧ w = w' ∧ Q i'))) 0 [(0, kw_a a0), (1, kw_i x1)] [] T n r i w
  refine kk_iconst (v := (0 : Int32)) hm.1 dJ7_fill_53178_0 (by decide) ?_
  refine kk_istore_n (L' := [(2, kw_i (0 : Int32)), (0, kw_a a0), (1, kw_i x1)]) hm.1 dJ7_fill_53178_1 rfl (by decide) rfl ?_
  refine kk_aload_n hm.1 1 dJ7_fill_53178_2 rfl rfl ?_
  obtain ⟨o3, h⟩ := h
  refine kk_alen hm.1 1 (by decide) (by decide) rfl dJ7_fill_53178_3 o3 ?_
  refine kk_istore_n (L' := [(3, kw_i ((T a0).2.toInt32)), (2, kw_i (0 : Int32)), (0, kw_a a0), (1, kw_i x1)]) hm.1 dJ7_fill_53178_4 rfl (by decide) rfl ?_
  refine kk_loc (L' := [(0, kw_a a0), (1, kw_i x1), (2, kw_i (0 : Int32)), (3, kw_i ((T a0).2.toInt32))]) [2, 3, 1, 0] rfl ?_
  obtain ⟨N, h⟩ := h
  exact q_J7_fill_53178_5 hm    N ((0 : Int32)) (((T a0).2.toInt32)) i h
def w_X0_findGift_119 (a0 : Nat) (T : kw_T) (n : Nat) (r : kw_R) (Q : kw_I → kw_L → Prop) (k23 : Int32 → kw_I → kw_L → Prop) (k46 : Int32 → Int32 → Int32 → kw_I → kw_L → Prop) (x1 : Int32) (x2 : Int32) (x3 : Int32) (i : kw_I) (w : kw_L) : Prop :=
  k46 x1 x2 ((x3 + (1 : Int32))) i w
def s_X0_findGift_46 (a0 : Nat) (T : kw_T) (n : Nat) (r : kw_R) (Q : kw_I → kw_L → Prop) (k23 : Int32 → kw_I → kw_L → Prop) (k46 : Int32 → Int32 → Int32 → kw_I → kw_L → Prop) (x1 : Int32) (x2 : Int32) (x3 : Int32) (i : kw_I) (w : kw_L) : Prop :=
  ((8 : Int32) ≤ x3 → T ((r a0 1)) = (0, 2) ∧ (kw_in T 1 (r (r a0 1) 1) x1 ∧ (∀ i134 : kw_I, i134 = kw_st i (r (r a0 1) 1) (x1).toNatClampNeg x2 → (k23 ((x1 + (1 : Int32))) i134 w)))) ∧ (¬ (8 : Int32) ≤ x3 → (((x2 >>> (x3 &&& 31)) &&& (1 : Int32)) = 0 → T ((r a0 1)) = (0, 2) ∧ (kw_in T 1 (r (r a0 1) 1) x1 ∧ (∀ i76 : kw_I, i76 = kw_st i (r (r a0 1) 1) (x1).toNatClampNeg (x2 ||| ((1 : Int32) <<< (x3 &&& 31))) → (w_X0_likenessWithout a0 ((1 : Int32) <<< (x1 &&& 31)) T n r i76 w (fun v81 i81 w81 => kw_in T 1 (r a0 7) (0 : Int32) ∧ ((v81 ≤ (i81 (r a0 7) ((0 : Int32)).toNatClampNeg) → w_X0_findGift_119 a0 T n r Q k23 k46 x1 x2 x3 i81 w81) ∧ (¬ v81 ≤ (i81 (r a0 7) ((0 : Int32)).toNatClampNeg) → kw_in T 1 (r a0 7) (0 : Int32) ∧ (∀ i104 : kw_I, i104 = kw_st i81 (r a0 7) ((0 : Int32)).toNatClampNeg v81 → (kw_in T 1 (r a0 7) (1 : Int32) ∧ (∀ i111 : kw_I, i111 = kw_st i104 (r a0 7) ((1 : Int32)).toNatClampNeg x1 → (kw_in T 1 (r a0 7) (2 : Int32) ∧ (∀ i118 : kw_I, i118 = kw_st i111 (r a0 7) ((2 : Int32)).toNatClampNeg x3 → (w_X0_findGift_119 a0 T n r Q k23 k46 x1 x2 x3 i118 w81))))))))))))) ∧ (¬ ((x2 >>> (x3 &&& 31)) &&& (1 : Int32)) = 0 → w_X0_findGift_119 a0 T n r Q k23 k46 x1 x2 x3 i w))
def w_X0_findGift_46 (a0 : Nat) (T : kw_T) (n : Nat) (r : kw_R) (Q : kw_I → kw_L → Prop) (k23 : Int32 → kw_I → kw_L → Prop) : Nat → Int32 → Int32 → Int32 → kw_I → kw_L → Prop
  | 0 => fun _ _ _ _ _ => False
  | N + 1 => s_X0_findGift_46 a0 T n r Q k23 (w_X0_findGift_46 a0 T n r Q k23 N)
def s_X0_findGift_23 (a0 : Nat) (T : kw_T) (n : Nat) (r : kw_R) (Q : kw_I → kw_L → Prop)  (k23 : Int32 → kw_I → kw_L → Prop) (x1 : Int32) (i : kw_I) (w : kw_L) : Prop :=
  T ((r a0 1)) = (0, 2) ∧ (((i (r a0 1) 5) ≤ x1 → Q i w) ∧ (¬ (i (r a0 1) 5) ≤ x1 → kw_in T 1 (r (r a0 1) 1) x1 ∧ (∃ N, w_X0_findGift_46 a0 T n r Q k23 N x1 ((i (r (r a0 1) 1) (x1).toNatClampNeg)) ((0 : Int32)) i w)))
def w_X0_findGift_23 (a0 : Nat) (T : kw_T) (n : Nat) (r : kw_R) (Q : kw_I → kw_L → Prop)  : Nat → Int32 → kw_I → kw_L → Prop
  | 0 => fun _ _ _ => False
  | N + 1 => s_X0_findGift_23 a0 T n r Q  (w_X0_findGift_23 a0 T n r Q  N)
def w_X0_findGift  (a0 : Nat) (T : kw_T) (n : Nat) (r : kw_R) (i : kw_I) (w : kw_L) (Q : kw_I → kw_L → Prop) : Prop :=
  ((i a0 8) = 0 → ∀ i10 : kw_I, i10 = kw_st i a0 8 (1 : Int32) → (w_J7_fill_53178 (r a0 7) (-1 : Int32) T n r i10 w (fun i18 => ∃ N, w_X0_findGift_23 a0 T n r Q  N ((0 : Int32)) i18 w))) ∧ (¬ (i a0 8) = 0 → Q i w)
abbrev rm_X0_findGift : Room := { frames := 7, cells := 0, slots := 0, locals := 220 }
set_option maxHeartbeats 4000000 in
set_option maxRecDepth 100000 in
theorem q_X0_findGift_119 {a0 : Nat} {T : kw_T} {n : Nat} {r : kw_R} {Q : kw_I → kw_L → Prop} {E : kw_E} {G : kw_G} (hm : kw_m E G cX0_findGift 5 RX0 none rm_X0_findGift "findGift")  (h0 : T a0 = (0, 0))  {k23 : Int32 → kw_I → kw_L → Prop} {k46 : Int32 → Int32 → Int32 → kw_I → kw_L → Prop} (hk23 : ∀ (x1 : Int32) (i : kw_I) (w : kw_L), k23 x1 i w → kw_K E G 5 0 0 (kw_Z E G 0 0 (kw_PV (fun T' n' r' i' w' => T = T' ∧ n = n' ∧ r = r' ∧ Q i' w'))) 23 [(0, kw_a a0), (1, kw_i x1)] [] T n r i w) (hk46 : ∀ (x1 : Int32) (x2 : Int32) (x3 : Int32) (i : kw_I) (w : kw_L), k46 x1 x2 x3 i w → kw_K E G 5 0 0 (kw_Z E G 0 0 (kw_PV (fun T' n' r' i' w' => T = T' ∧ n = n' ∧ r = r' ∧ Q i' w'))) 46 [(0, kw_a a0), (1, kw_i x1), (2, kw_i x2), (3, kw_i x3)] [] T n r i w) (x1 : Int32) (x2 : Int32) (x3 : Int32) (i : kw_I) (w : kw_L) (h : w_X0_findGift_119 a0 T n r Q k23 k46 x1 x2 x3 i w) : kw_K E G 5 0 0 (kw_Z E G 0 0 (kw_PV (fun T' n' r' i' w' => T = T' ∧ n = n' ∧ r = r' ∧ Q i' w'))) 119 [(0, kw_a a0), (1, kw_i x1), (2, kw_i x2), (3, kw_i x3)] [] T n r i w := by
  refine kk_iinc (v := (x3 + (1 : Int32))) (L' := [(3, kw_i (x3 + (1 : Int32))), (0, kw_a a0), (1, kw_i x1), (2, kw_i x2)]) hm.1 3 dX0_findGift_119 rfl rfl (by decide) rfl ?_
  refine kk_goto (tgt := 46) hm.1 dX0_findGift_122 (by decide) ?_
  refine kk_loc (L' := [(0, kw_a a0), (1, kw_i x1), (2, kw_i x2), (3, kw_i (x3 + (1 : Int32)))]) [1, 2, 3, 0] rfl ?_
  exact hk46 x1 x2 ((x3 + (1 : Int32))) i w h
set_option maxHeartbeats 4000000 in
set_option maxRecDepth 100000 in
theorem qs_X0_findGift_46 {a0 : Nat} {T : kw_T} {n : Nat} {r : kw_R} {Q : kw_I → kw_L → Prop} {E : kw_E} {G : kw_G} (hm : kw_m E G cX0_findGift 5 RX0 none rm_X0_findGift "findGift")  (h0 : T a0 = (0, 0))  {k23 : Int32 → kw_I → kw_L → Prop} (hk23 : ∀ (x1 : Int32) (i : kw_I) (w : kw_L), k23 x1 i w → kw_K E G 5 0 0 (kw_Z E G 0 0 (kw_PV (fun T' n' r' i' w' => T = T' ∧ n = n' ∧ r = r' ∧ Q i' w'))) 23 [(0, kw_a a0), (1, kw_i x1)] [] T n r i w) {k46 : Int32 → Int32 → Int32 → kw_I → kw_L → Prop} (hk46 : ∀ (x1 : Int32) (x2 : Int32) (x3 : Int32) (i : kw_I) (w : kw_L), k46 x1 x2 x3 i w → kw_K E G 5 0 0 (kw_Z E G 0 0 (kw_PV (fun T' n' r' i' w' => T = T' ∧ n = n' ∧ r = r' ∧ Q i' w'))) 46 [(0, kw_a a0), (1, kw_i x1), (2, kw_i x2), (3, kw_i x3)] [] T n r i w) (x1 : Int32) (x2 : Int32) (x3 : Int32) (i : kw_I) (w : kw_L) (h : s_X0_findGift_46 a0 T n r Q k23 k46 x1 x2 x3 i w) : kw_K E G 5 0 0 (kw_Z E G 0 0 (kw_PV (fun T' n' r' i' w' => T = T' ∧ n = n' ∧ r = r' ∧ Q i' w'))) 46 [(0, kw_a a0), (1, kw_i x1), (2, kw_i x2), (3, kw_i x3)] [] T n r i w := by
  refine kk_iload_n hm.1 3 dX0_findGift_46 rfl rfl ?_
  refine kk_bipush (v := (8 : Int32)) hm.1 dX0_findGift_47 (by decide) ?_
  refine kk_icmp_ge (tgt := 125) hm.1 dX0_findGift_49 (by decide) (fun c49 => ?_) (fun c49 => ?_)
  · have h := h.1 c49
    refine kk_aload_n hm.1 0 dX0_findGift_125 rfl rfl ?_
    refine kk_getR hm.1 ff_X0_57 dX0_findGift_126 h0 ?_
    obtain ⟨o129, h⟩ := h
    refine kk_getR hm.1 ff_X0_99 dX0_findGift_129 o129 ?_
    refine kk_iload_n hm.1 1 dX0_findGift_132 rfl rfl ?_
    refine kk_iload_n hm.1 2 dX0_findGift_133 rfl rfl ?_
    obtain ⟨o134, h⟩ := h
    refine kn_iastore hm.1 dX0_findGift_134 o134 (fun i134 e134 => ?_)
    have h := h i134 e134
    refine kk_iinc (v := (x1 + (1 : Int32))) (L' := [(1, kw_i (x1 + (1 : Int32))), (0, kw_a a0), (2, kw_i x2), (3, kw_i x3)]) hm.1 1 dX0_findGift_135 rfl rfl (by decide) rfl ?_
    refine kk_goto (tgt := 23) hm.1 dX0_findGift_138 (by decide) ?_
    refine kk_loc (L' := [(0, kw_a a0), (1, kw_i (x1 + (1 : Int32)))]) [1, 0] rfl ?_
    exact hk23 ((x1 + (1 : Int32))) i134 w h
  · have h := h.2 c49
    refine kk_iload_n hm.1 2 dX0_findGift_52 rfl rfl ?_
    refine kk_iload_n hm.1 3 dX0_findGift_53 rfl rfl ?_
    refine kk_ishr hm.1 dX0_findGift_54 ?_
    refine kk_iconst (v := (1 : Int32)) hm.1 dX0_findGift_55 (by decide) ?_
    refine kk_iand hm.1 dX0_findGift_56 ?_
    refine kk_if_eq (tgt := 63) hm.1 dX0_findGift_57 (by decide) (fun c57 => ?_) (fun c57 => ?_)
    · have h := h.1 c57
      refine kk_aload_n hm.1 0 dX0_findGift_63 rfl rfl ?_
      refine kk_getR hm.1 ff_X0_57 dX0_findGift_64 h0 ?_
      obtain ⟨o67, h⟩ := h
      refine kk_getR hm.1 ff_X0_99 dX0_findGift_67 o67 ?_
      refine kk_iload_n hm.1 1 dX0_findGift_70 rfl rfl ?_
      refine kk_iload_n hm.1 2 dX0_findGift_71 rfl rfl ?_
      refine kk_iconst (v := (1 : Int32)) hm.1 dX0_findGift_72 (by decide) ?_
      refine kk_iload_n hm.1 3 dX0_findGift_73 rfl rfl ?_
      refine kk_ishl hm.1 dX0_findGift_74 ?_
      refine kk_ior hm.1 dX0_findGift_75 ?_
      obtain ⟨o76, h⟩ := h
      refine kn_iastore hm.1 dX0_findGift_76 o76 (fun i76 e76 => ?_)
      have h := h i76 e76
      refine kk_aload_n hm.1 0 dX0_findGift_77 rfl rfl ?_
      refine kk_iconst (v := (1 : Int32)) hm.1 dX0_findGift_78 (by decide) ?_
      refine kk_iload_n hm.1 1 dX0_findGift_79 rfl rfl ?_
      refine kk_ishl hm.1 dX0_findGift_80 ?_
      refine kk_callVi (cs' := 0) (sl' := 0) (st := []) hm.1 cv_X0_90 (t_X0_likenessWithout h0 h) dX0_findGift_81 h0 rfl rfl hm.2.2.1 ⟨by decide, by decide⟩ ⟨by decide, by decide⟩ rfl rfl (Nat.le_of_ble_eq_true rfl) rfl ?_
      rintro v81 _ _ _ i81 w81 ⟨rfl, rfl, rfl, h⟩
      refine kk_istore (L' := [(4, kw_i v81), (0, kw_a a0), (1, kw_i x1), (2, kw_i x2), (3, kw_i x3)]) hm.1 dX0_findGift_84 (by decide) rfl ?_
      refine kk_iload hm.1 0 dX0_findGift_86 rfl ?_
      refine kk_aload_n hm.1 1 dX0_findGift_88 rfl rfl ?_
      refine kk_getR hm.1 ff_X0_30 dX0_findGift_89 h0 ?_
      refine kk_iconst (v := (0 : Int32)) hm.1 dX0_findGift_92 (by decide) ?_
      obtain ⟨o93, h⟩ := h
      refine kk_iaload hm.1 dX0_findGift_93 o93 ?_
      refine kk_icmp_le (tgt := 119) hm.1 dX0_findGift_94 (by decide) (fun c94 => ?_) (fun c94 => ?_)
      · have h := h.1 c94
        refine kk_loc (L' := [(0, kw_a a0), (1, kw_i x1), (2, kw_i x2), (3, kw_i x3)]) [1, 2, 3, 4] rfl ?_
        exact q_X0_findGift_119 hm  h0  hk23 hk46 x1 x2 x3 i81 w81 h
      · have h := h.2 c94
        refine kk_aload_n hm.1 1 dX0_findGift_97 rfl rfl ?_
        refine kk_getR hm.1 ff_X0_30 dX0_findGift_98 h0 ?_
        refine kk_iconst (v := (0 : Int32)) hm.1 dX0_findGift_101 (by decide) ?_
        refine kk_iload hm.1 0 dX0_findGift_102 rfl ?_
        obtain ⟨o104, h⟩ := h
        refine kn_iastore hm.1 dX0_findGift_104 o104 (fun i104 e104 => ?_)
        have h := h i104 e104
        refine kk_aload_n hm.1 1 dX0_findGift_105 rfl rfl ?_
        refine kk_getR hm.1 ff_X0_30 dX0_findGift_106 h0 ?_
        refine kk_iconst (v := (1 : Int32)) hm.1 dX0_findGift_109 (by decide) ?_
        refine kk_iload_n hm.1 2 dX0_findGift_110 rfl rfl ?_
        obtain ⟨o111, h⟩ := h
        refine kn_iastore hm.1 dX0_findGift_111 o111 (fun i111 e111 => ?_)
        have h := h i111 e111
        refine kk_aload_n hm.1 1 dX0_findGift_112 rfl rfl ?_
        refine kk_getR hm.1 ff_X0_30 dX0_findGift_113 h0 ?_
        refine kk_iconst (v := (2 : Int32)) hm.1 dX0_findGift_116 (by decide) ?_
        refine kk_iload_n hm.1 4 dX0_findGift_117 rfl rfl ?_
        obtain ⟨o118, h⟩ := h
        refine kn_iastore hm.1 dX0_findGift_118 o118 (fun i118 e118 => ?_)
        have h := h i118 e118
        refine kk_loc (L' := [(0, kw_a a0), (1, kw_i x1), (2, kw_i x2), (3, kw_i x3)]) [1, 2, 3, 4] rfl ?_
        exact q_X0_findGift_119 hm  h0  hk23 hk46 x1 x2 x3 i118 w81 h
    · have h := h.2 c57
      refine kk_goto (tgt := 119) hm.1 dX0_findGift_60 (by decide) ?_
      exact q_X0_findGift_119 hm  h0  hk23 hk46 x1 x2 x3 i w h
set_option maxHeartbeats 4000000 in
set_option maxRecDepth 100000 in
theorem q_X0_findGift_46 {a0 : Nat} {T : kw_T} {n : Nat} {r : kw_R} {Q : kw_I → kw_L → Prop} {E : kw_E} {G : kw_G} (hm : kw_m E G cX0_findGift 5 RX0 none rm_X0_findGift "findGift")  (h0 : T a0 = (0, 0))  {k23 : Int32 → kw_I → kw_L → Prop} (hk23 : ∀ (x1 : Int32) (i : kw_I) (w : kw_L), k23 x1 i w → kw_K E G 5 0 0 (kw_Z E G 0 0 (kw_PV (fun T' n' r' i' w' => T = T' ∧ n = n' ∧ r = r' ∧ Q i' w'))) 23 [(0, kw_a a0), (1, kw_i x1)] [] T n r i w) : ∀ (N : Nat) (x1 : Int32) (x2 : Int32) (x3 : Int32) (i : kw_I) (w : kw_L), w_X0_findGift_46 a0 T n r Q k23 N x1 x2 x3 i w → kw_K E G 5 0 0 (kw_Z E G 0 0 (kw_PV (fun T' n' r' i' w' => T = T' ∧ n = n' ∧ r = r' ∧ Q i' w'))) 46 [(0, kw_a a0), (1, kw_i x1), (2, kw_i x2), (3, kw_i x3)] [] T n r i w := by
  intro N
  induction N with
  | zero => intro x1 x2 x3 i w h; exact h.elim
  | succ N ih => intro x1 x2 x3 i w h; exact qs_X0_findGift_46 hm  h0 hk23 ih x1 x2 x3 i w h
set_option maxHeartbeats 4000000 in
set_option maxRecDepth 100000 in
theorem qs_X0_findGift_23 {a0 : Nat} {T : kw_T} {n : Nat} {r : kw_R} {Q : kw_I → kw_L → Prop} {E : kw_E} {G : kw_G} (hm : kw_m E G cX0_findGift 5 RX0 none rm_X0_findGift "findGift")  (h0 : T a0 = (0, 0))    {k23 : Int32 → kw_I → kw_L → Prop} (hk23 : ∀ (x1 : Int32) (i : kw_I) (w : kw_L), k23 x1 i w → kw_K E G 5 0 0 (kw_Z E G 0 0 (kw_PV (fun T' n' r' i' w' => T = T' ∧ n = n' ∧ r = r' ∧ Q i' w'))) 23 [(0, kw_a a0), (1, kw_i x1)] [] T n r i w) (x1 : Int32) (i : kw_I) (w : kw_L) (h : s_X0_findGift_23 a0 T n r Q  k23 x1 i w) : kw_K E G 5 0 0 (kw_Z E G 0 0 (kw_PV (fun T' n' r' i' w' => T = T' ∧ n = n' ∧ r = r' ∧ Q i' w'))) 23 [(0, kw_a a0), (1, kw_i x1)] [] T n r i w := by
  refine kk_iload_n hm.1 1 dX0_findGift_23 rfl rfl ?_
  refine kk_aload_n hm.1 0 dX0_findGift_24 rfl rfl ?_
  refine kk_getR hm.1 ff_X0_57 dX0_findGift_25 h0 ?_
  obtain ⟨o28, h⟩ := h
  refine kk_getI hm.1 ff_X0_76 dX0_findGift_28 o28 ?_
  refine kk_icmp_ge (tgt := 141) hm.1 dX0_findGift_31 (by decide) (fun c31 => ?_) (fun c31 => ?_)
  · have h := h.1 c31
    exact kk_vret hm.1 hm.2.1 dX0_findGift_141 ⟨rfl, rfl, rfl, rfl, h⟩
  · have h := h.2 c31
    refine kk_aload_n hm.1 0 dX0_findGift_34 rfl rfl ?_
    refine kk_getR hm.1 ff_X0_57 dX0_findGift_35 h0 ?_
    refine kk_getR hm.1 ff_X0_99 dX0_findGift_38 o28 ?_
    refine kk_iload_n hm.1 1 dX0_findGift_41 rfl rfl ?_
    obtain ⟨o42, h⟩ := h
    refine kk_iaload hm.1 dX0_findGift_42 o42 ?_
    refine kk_istore_n (L' := [(2, kw_i (i (r (r a0 1) 1) (x1).toNatClampNeg)), (0, kw_a a0), (1, kw_i x1)]) hm.1 dX0_findGift_43 rfl (by decide) rfl ?_
    refine kk_iconst (v := (0 : Int32)) hm.1 dX0_findGift_44 (by decide) ?_
    refine kk_istore_n (L' := [(3, kw_i (0 : Int32)), (2, kw_i (i (r (r a0 1) 1) (x1).toNatClampNeg)), (0, kw_a a0), (1, kw_i x1)]) hm.1 dX0_findGift_45 rfl (by decide) rfl ?_
    refine kk_loc (L' := [(0, kw_a a0), (1, kw_i x1), (2, kw_i (i (r (r a0 1) 1) (x1).toNatClampNeg)), (3, kw_i (0 : Int32))]) [2, 3, 1, 0] rfl ?_
    obtain ⟨N, h⟩ := h
    exact q_X0_findGift_46 hm  h0  hk23 N x1 ((i (r (r a0 1) 1) (x1).toNatClampNeg)) ((0 : Int32)) i w h
set_option maxHeartbeats 4000000 in
set_option maxRecDepth 100000 in
theorem q_X0_findGift_23 {a0 : Nat} {T : kw_T} {n : Nat} {r : kw_R} {Q : kw_I → kw_L → Prop} {E : kw_E} {G : kw_G} (hm : kw_m E G cX0_findGift 5 RX0 none rm_X0_findGift "findGift")  (h0 : T a0 = (0, 0))    : ∀ (N : Nat) (x1 : Int32) (i : kw_I) (w : kw_L), w_X0_findGift_23 a0 T n r Q  N x1 i w → kw_K E G 5 0 0 (kw_Z E G 0 0 (kw_PV (fun T' n' r' i' w' => T = T' ∧ n = n' ∧ r = r' ∧ Q i' w'))) 23 [(0, kw_a a0), (1, kw_i x1)] [] T n r i w := by
  intro N
  induction N with
  | zero => intro x1 i w h; exact h.elim
  | succ N ih => intro x1 i w h; exact qs_X0_findGift_23 hm  h0  ih x1 i w h
set_option maxHeartbeats 4000000 in
set_option maxRecDepth 100000 in
theorem t_X0_findGift {l : Launch} {G : kw_G} {a0 : Nat} {T : kw_T} {n : Nat} {r : kw_R} {i : kw_I} {w : kw_L} {Q : kw_I → kw_L → Prop} (h0 : T a0 = (0, 0)) (h : w_X0_findGift a0 T n r i w Q) : kw_Met l G yX0_findGift cX0_findGift 5 none rm_X0_findGift [kw_a a0] (T, n, r, i, w) (kw_PV (fun T' n' r' i' w' => T = T' ∧ n = n' ∧ r = r' ∧ Q i' w')) := by
  refine kw_Met.of (by decide) (Nat.le_of_ble_eq_true rfl) fun E hl hRm hE hT hnm => ?_
  have hm : kw_m E G cX0_findGift 5 RX0 none rm_X0_findGift "findGift" := ⟨hE, hT, hRm, hnm⟩
  subst hl
  show kw_K E G 5 0 0 (kw_Z E G 0 0 (kw_PV (fun T' n' r' i' w' => T = T' ∧ n = n' ∧ r = r' ∧ Q i' w'))) 0 [(0, kw_a a0)] [] T n r i w
  refine kk_aload_n hm.1 0 dX0_findGift_0 rfl rfl ?_
  refine kk_getI hm.1 ff_X0_34 dX0_findGift_1 h0 ?_
  refine kk_if_eq (tgt := 8) hm.1 dX0_findGift_4 (by decide) (fun c4 => ?_) (fun c4 => ?_)
  · have h := h.1 c4
    refine kk_aload_n hm.1 0 dX0_findGift_8 rfl rfl ?_
    refine kk_iconst (v := (1 : Int32)) hm.1 dX0_findGift_9 (by decide) ?_
    refine kn_putZ hm.1 fp_X0_34 dX0_findGift_10 h0 (Or.inr rfl) (fun i10 e10 => ?_)
    have h := h i10 e10
    refine kk_aload_n hm.1 0 dX0_findGift_13 rfl rfl ?_
    refine kk_getR hm.1 ff_X0_30 dX0_findGift_14 h0 ?_
    refine kk_iconst (v := (-1 : Int32)) hm.1 dX0_findGift_17 (by decide) ?_
    refine kk_callSv (cs' := 0) (sl' := 0) (st := []) hm.1 cs_X0_93 (t_J7_fill_53178 h) dX0_findGift_18 rfl hm.2.2.1 ⟨by decide, by decide⟩ ⟨by decide, by decide⟩ rfl rfl (Nat.le_of_ble_eq_true rfl) rfl ?_
    rintro _ _ _ i18 _ ⟨rfl, rfl, rfl, rfl, h⟩
    refine kk_iconst (v := (0 : Int32)) hm.1 dX0_findGift_21 (by decide) ?_
    refine kk_istore_n (L' := [(1, kw_i (0 : Int32)), (0, kw_a a0)]) hm.1 dX0_findGift_22 rfl (by decide) rfl ?_
    refine kk_loc (L' := [(0, kw_a a0), (1, kw_i (0 : Int32))]) [1, 0] rfl ?_
    obtain ⟨N, h⟩ := h
    exact q_X0_findGift_23 hm  h0   N ((0 : Int32)) i18 w h
  · have h := h.2 c4
    exact kk_vret hm.1 hm.2.1 dX0_findGift_7 ⟨rfl, rfl, rfl, rfl, h⟩
def w_X0_endAfterSlip  (a0 : Nat) (x1 : Int32) (x2 : Int32) (x3 : Int32) (T : kw_T) (n : Nat) (r : kw_R) (i : kw_I) (w : kw_L) (Q : Nat → kw_I → kw_L → Prop) : Prop :=
  kw_in T 5 (r a0 2) (x1 &&& (1 : Int32)) ∧ (T ((r a0 0)) = (0, 5) ∧ (kw_in T 5 (r (r a0 0) 1) x1 ∧ (kw_cpo T (r (r (r a0 0) 1) (x1).toNatClampNeg) (r (r a0 2) ((x1 &&& (1 : Int32))).toNatClampNeg) (0 : Int32) (0 : Int32) (36 : Int32) ∧ (∀ i25 : kw_I, i25 = kw_cpy i (r (r (r a0 0) 1) (x1).toNatClampNeg) (r (r a0 2) ((x1 &&& (1 : Int32))).toNatClampNeg) ((0 : Int32)).toNatClampNeg ((0 : Int32)).toNatClampNeg ((36 : Int32)).toNatClampNeg → (kw_in T 1 (r (r a0 2) ((x1 &&& (1 : Int32))).toNatClampNeg) x2 ∧ (∀ i32 : kw_I, i32 = kw_st i25 (r (r a0 2) ((x1 &&& (1 : Int32))).toNatClampNeg) (x2).toNatClampNeg x3 → (w_X5_picture (r a0 0) (x1 - (1 : Int32)) T n r i32 w (fun v42 => w_X0_follow a0 x1 v42 (r (r a0 2) ((x1 &&& (1 : Int32))).toNatClampNeg) (x2 + (1 : Int32)) (x2 + (6 : Int32)) T n r i32 w (fun i54 w54 => ∀ i59 : kw_I, i59 = kw_st i54 a0 3 x2 → (∀ i71 : kw_I, i71 = kw_st i59 a0 4 (if (i59 a0 4) < x2 then x2 else (i59 a0 4)) → (w_X0_endFrom a0 (x1 + (1 : Int32)) (r (r a0 2) ((x1 &&& (1 : Int32))).toNatClampNeg) (0 : Int32) T n r i71 w54 (fun v81 i81 w81 => Q v81 i81 w81))))))))))))
abbrev rm_X0_endAfterSlip : Room := { frames := 6, cells := 0, slots := 0, locals := 199 }
set_option maxHeartbeats 4000000 in
set_option maxRecDepth 100000 in
theorem t_X0_endAfterSlip {l : Launch} {G : kw_G} {a0 : Nat} {x1 : Int32} {x2 : Int32} {x3 : Int32} {T : kw_T} {n : Nat} {r : kw_R} {i : kw_I} {w : kw_L} {Q : Nat → kw_I → kw_L → Prop} (h0 : T a0 = (0, 0)) (h : w_X0_endAfterSlip a0 x1 x2 x3 T n r i w Q) : kw_Met l G yX0_endAfterSlip cX0_endAfterSlip 5 (some (.array .int)) rm_X0_endAfterSlip [kw_a a0, kw_i x1, kw_i x2, kw_i x3] (T, n, r, i, w) (kw_PA (fun v T' n' r' i' w' => T = T' ∧ n = n' ∧ r = r' ∧ Q v i' w')) := by
  refine kw_Met.of (by decide) (Nat.le_of_ble_eq_true rfl) fun E hl hRm hE hT hnm => ?_
  have hm : kw_m E G cX0_endAfterSlip 5 RX0 (some (.array .int)) rm_X0_endAfterSlip "endAfterSlip" := ⟨hE, hT, hRm, hnm⟩
  subst hl
  show kw_K E G 5 0 0 (kw_Z E G 0 0 (kw_PA (fun v T' n' r' i' w' => T = T' ∧ n = n' ∧ r = r' ∧ Q v i' w'))) 0 [(0, kw_a a0), (1, kw_i x1), (2, kw_i x2), (3, kw_i x3)] [] T n r i w
  refine kk_aload_n hm.1 0 dX0_endAfterSlip_0 rfl rfl ?_
  refine kk_getR hm.1 ff_X0_11 dX0_endAfterSlip_1 h0 ?_
  refine kk_iload_n hm.1 1 dX0_endAfterSlip_4 rfl rfl ?_
  refine kk_iconst (v := (1 : Int32)) hm.1 dX0_endAfterSlip_5 (by decide) ?_
  refine kk_iand hm.1 dX0_endAfterSlip_6 ?_
  obtain ⟨o7, h⟩ := h
  refine kk_aaload hm.1 5 (by decide) (by decide) rfl rfl dX0_endAfterSlip_7 o7 ?_
  refine kk_astore (L' := [(4, kw_a (r (r a0 2) ((x1 &&& (1 : Int32))).toNatClampNeg)), (0, kw_a a0), (1, kw_i x1), (2, kw_i x2), (3, kw_i x3)]) hm.1 dX0_endAfterSlip_8 (by decide) rfl ?_
  refine kk_aload_n hm.1 1 dX0_endAfterSlip_10 rfl rfl ?_
  refine kk_getR hm.1 ff_X0_47 dX0_endAfterSlip_11 h0 ?_
  obtain ⟨o14, h⟩ := h
  refine kk_getR hm.1 ff_X0_102 dX0_endAfterSlip_14 o14 ?_
  refine kk_iload_n hm.1 2 dX0_endAfterSlip_17 rfl rfl ?_
  obtain ⟨o18, h⟩ := h
  refine kk_aaload hm.1 5 (by decide) (by decide) rfl rfl dX0_endAfterSlip_18 o18 ?_
  refine kk_iconst (v := (0 : Int32)) hm.1 dX0_endAfterSlip_19 (by decide) ?_
  refine kk_aload hm.1 0 dX0_endAfterSlip_20 rfl ?_
  refine kk_iconst (v := (0 : Int32)) hm.1 dX0_endAfterSlip_22 (by decide) ?_
  refine kk_bipush (v := (36 : Int32)) hm.1 dX0_endAfterSlip_23 (by decide) ?_
  obtain ⟨o25, h⟩ := h
  refine kn_copy (st := []) hm.1 wm_X0_62 wcp_n wcp_s wcp_i dX0_endAfterSlip_25 hm.2.2.1 (by decide) (by show _ + (_ + 11) ≤ _; exact Nat.le_of_ble_eq_true rfl) o25 (fun i25 e25 => ?_)
  have h := h i25 e25
  refine kk_aload hm.1 0 dX0_endAfterSlip_28 rfl ?_
  refine kk_iload_n hm.1 3 dX0_endAfterSlip_30 rfl rfl ?_
  refine kk_iload_n hm.1 4 dX0_endAfterSlip_31 rfl rfl ?_
  obtain ⟨o32, h⟩ := h
  refine kn_iastore hm.1 dX0_endAfterSlip_32 o32 (fun i32 e32 => ?_)
  have h := h i32 e32
  refine kk_aload_n hm.1 1 dX0_endAfterSlip_33 rfl rfl ?_
  refine kk_iload_n hm.1 2 dX0_endAfterSlip_34 rfl rfl ?_
  refine kk_aload_n hm.1 1 dX0_endAfterSlip_35 rfl rfl ?_
  refine kk_getR hm.1 ff_X0_47 dX0_endAfterSlip_36 h0 ?_
  refine kk_iload_n hm.1 2 dX0_endAfterSlip_39 rfl rfl ?_
  refine kk_iconst (v := (1 : Int32)) hm.1 dX0_endAfterSlip_40 (by decide) ?_
  refine kk_isub hm.1 dX0_endAfterSlip_41 ?_
  refine kk_callVa (cs' := 0) (sl' := 0) (st := [kw_i x1, kw_a a0]) hm.1 cv_X0_58 (t_X5_picture o14 h) dX0_endAfterSlip_42 o14 rfl rfl hm.2.2.1 ⟨by decide, by decide⟩ ⟨by decide, by decide⟩ rfl rfl (Nat.le_of_ble_eq_true rfl) rfl ?_
  rintro v42 _ _ _ _ _ ⟨rfl, rfl, rfl, rfl, rfl, h⟩
  refine kk_aload hm.1 0 dX0_endAfterSlip_45 rfl ?_
  refine kk_iload_n hm.1 3 dX0_endAfterSlip_47 rfl rfl ?_
  refine kk_iconst (v := (1 : Int32)) hm.1 dX0_endAfterSlip_48 (by decide) ?_
  refine kk_iadd hm.1 dX0_endAfterSlip_49 ?_
  refine kk_iload_n hm.1 3 dX0_endAfterSlip_50 rfl rfl ?_
  refine kk_bipush (v := (6 : Int32)) hm.1 dX0_endAfterSlip_51 (by decide) ?_
  refine kk_iadd hm.1 dX0_endAfterSlip_53 ?_
  refine kk_callVv (cs' := 0) (sl' := 0) (st := []) hm.1 cv_X0_116 (t_X0_follow h0 h) dX0_endAfterSlip_54 h0 rfl rfl hm.2.2.1 ⟨by decide, by decide⟩ ⟨by decide, by decide⟩ rfl rfl (Nat.le_of_ble_eq_true rfl) rfl ?_
  rintro _ _ _ i54 w54 ⟨rfl, rfl, rfl, h⟩
  refine kk_aload_n hm.1 1 dX0_endAfterSlip_57 rfl rfl ?_
  refine kk_iload_n hm.1 3 dX0_endAfterSlip_58 rfl rfl ?_
  refine kn_putI hm.1 fp_X0_16 dX0_endAfterSlip_59 h0 (fun i59 e59 => ?_)
  have h := h i59 e59
  refine kk_aload_n hm.1 1 dX0_endAfterSlip_62 rfl rfl ?_
  refine kk_aload_n hm.1 1 dX0_endAfterSlip_63 rfl rfl ?_
  refine kk_getI hm.1 ff_X0_20 dX0_endAfterSlip_64 h0 ?_
  refine kk_iload_n hm.1 3 dX0_endAfterSlip_67 rfl rfl ?_
  refine kn_mmax (st := [kw_a a0]) hm.1 wm_X0_120 wmmax_s wo_m wmmax_c dX0_endAfterSlip_68 hm.2.2.1 (by decide) (Nat.le_of_ble_eq_true rfl) (by decide) (by decide) ?_
  refine kn_putI hm.1 fp_X0_20 dX0_endAfterSlip_71 h0 (fun i71 e71 => ?_)
  have h := h i71 e71
  refine kk_aload_n hm.1 1 dX0_endAfterSlip_74 rfl rfl ?_
  refine kk_iload_n hm.1 2 dX0_endAfterSlip_75 rfl rfl ?_
  refine kk_iconst (v := (1 : Int32)) hm.1 dX0_endAfterSlip_76 (by decide) ?_
  refine kk_iadd hm.1 dX0_endAfterSlip_77 ?_
  refine kk_aload hm.1 0 dX0_endAfterSlip_78 rfl ?_
  refine kk_iconst (v := (0 : Int32)) hm.1 dX0_endAfterSlip_80 (by decide) ?_
  refine kk_callVa (cs' := 0) (sl' := 0) (st := []) hm.1 cv_X0_68 (t_X0_endFrom h0 h) dX0_endAfterSlip_81 h0 rfl rfl hm.2.2.1 ⟨by decide, by decide⟩ ⟨by decide, by decide⟩ rfl rfl (Nat.le_of_ble_eq_true rfl) rfl ?_
  rintro v81 _ _ _ i81 w81 ⟨rfl, rfl, rfl, h⟩
  exact kk_aret hm.1 hm.2.1 (by first | exact Or.inl ⟨_, rfl⟩ | exact Or.inr ⟨_, rfl⟩) dX0_endAfterSlip_84 ⟨_, rfl, rfl, rfl, rfl, h⟩
def w_X0_findSlips_108 (a0 : Nat) (T : kw_T) (n : Nat) (r : kw_R) (Q : kw_I → kw_L → Prop) (k20 : Int32 → kw_I → kw_L → Prop) (k50 : Int32 → Int32 → Int32 → Int32 → Int32 → kw_I → kw_L → Prop) (x1 : Int32) (x2 : Int32) (x3 : Int32) (x4 : Int32) (x5 : Int32) (i : kw_I) (w : kw_L) : Prop :=
  k50 x1 x2 x3 x4 ((x5 + (1 : Int32))) i w
def s_X0_findSlips_50 (a0 : Nat) (T : kw_T) (n : Nat) (r : kw_R) (Q : kw_I → kw_L → Prop) (k20 : Int32 → kw_I → kw_L → Prop) (k50 : Int32 → Int32 → Int32 → Int32 → Int32 → kw_I → kw_L → Prop) (x1 : Int32) (x2 : Int32) (x3 : Int32) (x4 : Int32) (x5 : Int32) (i : kw_I) (w : kw_L) : Prop :=
  ((8 : Int32) ≤ x5 → kw_in T 1 (r a0 9) x1 ∧ (∀ i121 : kw_I, i121 = kw_st i (r a0 9) (x1).toNatClampNeg x4 → (w_J6_bitCount_0f7a4 x4 T n r i121 w (fun v129 => ∀ i133 : kw_I, i133 = kw_st i121 a0 10 ((i121 a0 10) + v129) → (k20 ((x1 + (1 : Int32))) i133 w))))) ∧ (¬ (8 : Int32) ≤ x5 → T ((r a0 0)) = (0, 5) ∧ (kw_in T 5 (r (r a0 0) 1) x2 ∧ (kw_in T 1 (r (r (r a0 0) 1) (x2).toNatClampNeg) x3 ∧ ((¬ x5 = (i (r (r (r a0 0) 1) (x2).toNatClampNeg) (x3).toNatClampNeg) → w_X0_endAfterSlip a0 x2 x3 x5 T n r i w (fun v81 i81 w81 => kw_in T 5 (r (r a0 0) 3) (2 : Int32) ∧ (w_X9_same v81 (r (r (r a0 0) 3) ((2 : Int32)).toNatClampNeg) T n r i81 w81 (fun v93 => (v93 = 0 → w_X0_findSlips_108 a0 T n r Q k20 k50 x1 x2 x3 x4 x5 i81 w81) ∧ (¬ v93 = 0 → w_X0_findSlips_108 a0 T n r Q k20 k50 x1 x2 x3 ((x4 ||| ((1 : Int32) <<< (x5 &&& 31)))) x5 i81 w81))))) ∧ (x5 = (i (r (r (r a0 0) 1) (x2).toNatClampNeg) (x3).toNatClampNeg) → w_X0_findSlips_108 a0 T n r Q k20 k50 x1 x2 x3 x4 x5 i w)))))
def w_X0_findSlips_50 (a0 : Nat) (T : kw_T) (n : Nat) (r : kw_R) (Q : kw_I → kw_L → Prop) (k20 : Int32 → kw_I → kw_L → Prop) : Nat → Int32 → Int32 → Int32 → Int32 → Int32 → kw_I → kw_L → Prop
  | 0 => fun _ _ _ _ _ _ _ => False
  | N + 1 => s_X0_findSlips_50 a0 T n r Q k20 (w_X0_findSlips_50 a0 T n r Q k20 N)
def s_X0_findSlips_20 (a0 : Nat) (T : kw_T) (n : Nat) (r : kw_R) (Q : kw_I → kw_L → Prop)  (k20 : Int32 → kw_I → kw_L → Prop) (x1 : Int32) (i : kw_I) (w : kw_L) : Prop :=
  T ((r a0 1)) = (0, 2) ∧ ((((i (r a0 1) 5) * (36 : Int32)) ≤ x1 → Q i w) ∧ (¬ ((i (r a0 1) 5) * (36 : Int32)) ≤ x1 → ∃ N, w_X0_findSlips_50 a0 T n r Q k20 N x1 ((x1 / (36 : Int32))) ((x1 - x1 / (36 : Int32) * (36 : Int32))) ((0 : Int32)) ((0 : Int32)) i w))
def w_X0_findSlips_20 (a0 : Nat) (T : kw_T) (n : Nat) (r : kw_R) (Q : kw_I → kw_L → Prop)  : Nat → Int32 → kw_I → kw_L → Prop
  | 0 => fun _ _ _ => False
  | N + 1 => s_X0_findSlips_20 a0 T n r Q  (w_X0_findSlips_20 a0 T n r Q  N)
def w_X0_findSlips  (a0 : Nat) (T : kw_T) (n : Nat) (r : kw_R) (i : kw_I) (w : kw_L) (Q : kw_I → kw_L → Prop) : Prop :=
  ((i a0 11) = 0 → ∀ i10 : kw_I, i10 = kw_st i a0 11 (1 : Int32) → (∀ i15 : kw_I, i15 = kw_st i10 a0 10 (0 : Int32) → (∃ N, w_X0_findSlips_20 a0 T n r Q  N ((0 : Int32)) i15 w))) ∧ (¬ (i a0 11) = 0 → Q i w)
abbrev rm_X0_findSlips : Room := { frames := 7, cells := 0, slots := 0, locals := 223 }
set_option maxHeartbeats 4000000 in
set_option maxRecDepth 100000 in
theorem q_X0_findSlips_108 {a0 : Nat} {T : kw_T} {n : Nat} {r : kw_R} {Q : kw_I → kw_L → Prop} {E : kw_E} {G : kw_G} (hm : kw_m E G cX0_findSlips 6 RX0 none rm_X0_findSlips "findSlips")  (h0 : T a0 = (0, 0))  {k20 : Int32 → kw_I → kw_L → Prop} {k50 : Int32 → Int32 → Int32 → Int32 → Int32 → kw_I → kw_L → Prop} (hk20 : ∀ (x1 : Int32) (i : kw_I) (w : kw_L), k20 x1 i w → kw_K E G 6 0 0 (kw_Z E G 0 0 (kw_PV (fun T' n' r' i' w' => T = T' ∧ n = n' ∧ r = r' ∧ Q i' w'))) 20 [(0, kw_a a0), (1, kw_i x1)] [] T n r i w) (hk50 : ∀ (x1 : Int32) (x2 : Int32) (x3 : Int32) (x4 : Int32) (x5 : Int32) (i : kw_I) (w : kw_L), k50 x1 x2 x3 x4 x5 i w → kw_K E G 6 0 0 (kw_Z E G 0 0 (kw_PV (fun T' n' r' i' w' => T = T' ∧ n = n' ∧ r = r' ∧ Q i' w'))) 50 [(0, kw_a a0), (1, kw_i x1), (2, kw_i x2), (3, kw_i x3), (4, kw_i x4), (5, kw_i x5)] [] T n r i w) (x1 : Int32) (x2 : Int32) (x3 : Int32) (x4 : Int32) (x5 : Int32) (i : kw_I) (w : kw_L) (h : w_X0_findSlips_108 a0 T n r Q k20 k50 x1 x2 x3 x4 x5 i w) : kw_K E G 6 0 0 (kw_Z E G 0 0 (kw_PV (fun T' n' r' i' w' => T = T' ∧ n = n' ∧ r = r' ∧ Q i' w'))) 108 [(0, kw_a a0), (1, kw_i x1), (2, kw_i x2), (3, kw_i x3), (4, kw_i x4), (5, kw_i x5)] [] T n r i w := by
  refine kk_iinc (v := (x5 + (1 : Int32))) (L' := [(5, kw_i (x5 + (1 : Int32))), (0, kw_a a0), (1, kw_i x1), (2, kw_i x2), (3, kw_i x3), (4, kw_i x4)]) hm.1 5 dX0_findSlips_108 rfl rfl (by decide) rfl ?_
  refine kk_goto (tgt := 50) hm.1 dX0_findSlips_111 (by decide) ?_
  refine kk_loc (L' := [(0, kw_a a0), (1, kw_i x1), (2, kw_i x2), (3, kw_i x3), (4, kw_i x4), (5, kw_i (x5 + (1 : Int32)))]) [1, 2, 3, 4, 5, 0] rfl ?_
  exact hk50 x1 x2 x3 x4 ((x5 + (1 : Int32))) i w h
set_option maxHeartbeats 4000000 in
set_option maxRecDepth 100000 in
theorem qs_X0_findSlips_50 {a0 : Nat} {T : kw_T} {n : Nat} {r : kw_R} {Q : kw_I → kw_L → Prop} {E : kw_E} {G : kw_G} (hm : kw_m E G cX0_findSlips 6 RX0 none rm_X0_findSlips "findSlips")  (h0 : T a0 = (0, 0))  {k20 : Int32 → kw_I → kw_L → Prop} (hk20 : ∀ (x1 : Int32) (i : kw_I) (w : kw_L), k20 x1 i w → kw_K E G 6 0 0 (kw_Z E G 0 0 (kw_PV (fun T' n' r' i' w' => T = T' ∧ n = n' ∧ r = r' ∧ Q i' w'))) 20 [(0, kw_a a0), (1, kw_i x1)] [] T n r i w) {k50 : Int32 → Int32 → Int32 → Int32 → Int32 → kw_I → kw_L → Prop} (hk50 : ∀ (x1 : Int32) (x2 : Int32) (x3 : Int32) (x4 : Int32) (x5 : Int32) (i : kw_I) (w : kw_L), k50 x1 x2 x3 x4 x5 i w → kw_K E G 6 0 0 (kw_Z E G 0 0 (kw_PV (fun T' n' r' i' w' => T = T' ∧ n = n' ∧ r = r' ∧ Q i' w'))) 50 [(0, kw_a a0), (1, kw_i x1), (2, kw_i x2), (3, kw_i x3), (4, kw_i x4), (5, kw_i x5)] [] T n r i w) (x1 : Int32) (x2 : Int32) (x3 : Int32) (x4 : Int32) (x5 : Int32) (i : kw_I) (w : kw_L) (h : s_X0_findSlips_50 a0 T n r Q k20 k50 x1 x2 x3 x4 x5 i w) : kw_K E G 6 0 0 (kw_Z E G 0 0 (kw_PV (fun T' n' r' i' w' => T = T' ∧ n = n' ∧ r = r' ∧ Q i' w'))) 50 [(0, kw_a a0), (1, kw_i x1), (2, kw_i x2), (3, kw_i x3), (4, kw_i x4), (5, kw_i x5)] [] T n r i w := by
  refine kk_iload hm.1 5 dX0_findSlips_50 rfl ?_
  refine kk_bipush (v := (8 : Int32)) hm.1 dX0_findSlips_52 (by decide) ?_
  refine kk_icmp_ge (tgt := 114) hm.1 dX0_findSlips_54 (by decide) (fun c54 => ?_) (fun c54 => ?_)
  · have h := h.1 c54
    refine kk_aload_n hm.1 0 dX0_findSlips_114 rfl rfl ?_
    refine kk_getR hm.1 ff_X0_38 dX0_findSlips_115 h0 ?_
    refine kk_iload_n hm.1 1 dX0_findSlips_118 rfl rfl ?_
    refine kk_iload hm.1 4 dX0_findSlips_119 rfl ?_
    obtain ⟨o121, h⟩ := h
    refine kn_iastore hm.1 dX0_findSlips_121 o121 (fun i121 e121 => ?_)
    have h := h i121 e121
    refine kk_aload_n hm.1 0 dX0_findSlips_122 rfl rfl ?_
    refine kk_dup hm.1 dX0_findSlips_123 rfl ?_
    refine kk_getI hm.1 ff_X0_41 dX0_findSlips_124 h0 ?_
    refine kk_iload hm.1 4 dX0_findSlips_127 rfl ?_
    refine kk_callSi (cs' := 0) (sl' := 0) (st := [kw_i (i121 a0 10), kw_a a0]) hm.1 cs_X0_81 (t_J6_bitCount_0f7a4 h) dX0_findSlips_129 rfl hm.2.2.1 ⟨by decide, by decide⟩ ⟨by decide, by decide⟩ rfl rfl (Nat.le_of_ble_eq_true rfl) rfl ?_
    rintro v129 _ _ _ _ _ ⟨rfl, rfl, rfl, rfl, rfl, h⟩
    refine kk_iadd hm.1 dX0_findSlips_132 ?_
    refine kn_putI hm.1 fp_X0_41 dX0_findSlips_133 h0 (fun i133 e133 => ?_)
    have h := h i133 e133
    refine kk_iinc (v := (x1 + (1 : Int32))) (L' := [(1, kw_i (x1 + (1 : Int32))), (0, kw_a a0), (2, kw_i x2), (3, kw_i x3), (4, kw_i x4), (5, kw_i x5)]) hm.1 1 dX0_findSlips_136 rfl rfl (by decide) rfl ?_
    refine kk_goto (tgt := 20) hm.1 dX0_findSlips_139 (by decide) ?_
    refine kk_loc (L' := [(0, kw_a a0), (1, kw_i (x1 + (1 : Int32)))]) [1, 0] rfl ?_
    exact hk20 ((x1 + (1 : Int32))) i133 w h
  · have h := h.2 c54
    refine kk_iload hm.1 5 dX0_findSlips_57 rfl ?_
    refine kk_aload_n hm.1 0 dX0_findSlips_59 rfl rfl ?_
    refine kk_getR hm.1 ff_X0_47 dX0_findSlips_60 h0 ?_
    obtain ⟨o63, h⟩ := h
    refine kk_getR hm.1 ff_X0_102 dX0_findSlips_63 o63 ?_
    refine kk_iload_n hm.1 2 dX0_findSlips_66 rfl rfl ?_
    obtain ⟨o67, h⟩ := h
    refine kk_aaload hm.1 5 (by decide) (by decide) rfl rfl dX0_findSlips_67 o67 ?_
    refine kk_iload_n hm.1 3 dX0_findSlips_68 rfl rfl ?_
    obtain ⟨o69, h⟩ := h
    refine kk_iaload hm.1 dX0_findSlips_69 o69 ?_
    refine kk_icmp_ne (tgt := 76) hm.1 dX0_findSlips_70 (by decide) (fun c70 => ?_) (fun c70 => ?_)
    · have h := h.1 c70
      refine kk_aload_n hm.1 0 dX0_findSlips_76 rfl rfl ?_
      refine kk_iload_n hm.1 2 dX0_findSlips_77 rfl rfl ?_
      refine kk_iload_n hm.1 3 dX0_findSlips_78 rfl rfl ?_
      refine kk_iload hm.1 5 dX0_findSlips_79 rfl ?_
      refine kk_callVa (cs' := 0) (sl' := 0) (st := []) hm.1 cv_X0_105 (t_X0_endAfterSlip h0 h) dX0_findSlips_81 h0 rfl rfl hm.2.2.1 ⟨by decide, by decide⟩ ⟨by decide, by decide⟩ rfl rfl (Nat.le_of_ble_eq_true rfl) rfl ?_
      rintro v81 _ _ _ i81 w81 ⟨rfl, rfl, rfl, h⟩
      refine kk_aload_n hm.1 0 dX0_findSlips_84 rfl rfl ?_
      refine kk_getR hm.1 ff_X0_47 dX0_findSlips_85 h0 ?_
      refine kk_getR hm.1 ff_X0_109 dX0_findSlips_88 o63 ?_
      refine kk_iconst (v := (2 : Int32)) hm.1 dX0_findSlips_91 (by decide) ?_
      obtain ⟨o92, h⟩ := h
      refine kk_aaload hm.1 5 (by decide) (by decide) rfl rfl dX0_findSlips_92 o92 ?_
      refine kk_callSi (cs' := 0) (sl' := 0) (st := []) hm.1 cs_X0_72 (t_X9_same h) dX0_findSlips_93 rfl hm.2.2.1 ⟨by decide, by decide⟩ ⟨by decide, by decide⟩ rfl rfl (Nat.le_of_ble_eq_true rfl) rfl ?_
      rintro v93 _ _ _ _ _ ⟨rfl, rfl, rfl, rfl, rfl, h⟩
      refine kk_if_eq (tgt := 108) hm.1 dX0_findSlips_96 (by decide) (fun c96 => ?_) (fun c96 => ?_)
      · have h := h.1 c96
        exact q_X0_findSlips_108 hm  h0  hk20 hk50 x1 x2 x3 x4 x5 i81 w81 h
      · have h := h.2 c96
        refine kk_iload hm.1 4 dX0_findSlips_99 rfl ?_
        refine kk_iconst (v := (1 : Int32)) hm.1 dX0_findSlips_101 (by decide) ?_
        refine kk_iload hm.1 5 dX0_findSlips_102 rfl ?_
        refine kk_ishl hm.1 dX0_findSlips_104 ?_
        refine kk_ior hm.1 dX0_findSlips_105 ?_
        refine kk_istore (L' := [(4, kw_i (x4 ||| ((1 : Int32) <<< (x5 &&& 31)))), (0, kw_a a0), (1, kw_i x1), (2, kw_i x2), (3, kw_i x3), (5, kw_i x5)]) hm.1 dX0_findSlips_106 (by decide) rfl ?_
        refine kk_loc (L' := [(0, kw_a a0), (1, kw_i x1), (2, kw_i x2), (3, kw_i x3), (4, kw_i (x4 ||| ((1 : Int32) <<< (x5 &&& 31)))), (5, kw_i x5)]) [1, 2, 3, 4, 0, 5] rfl ?_
        exact q_X0_findSlips_108 hm  h0  hk20 hk50 x1 x2 x3 ((x4 ||| ((1 : Int32) <<< (x5 &&& 31)))) x5 i81 w81 h
    · have h := h.2 c70
      refine kk_goto (tgt := 108) hm.1 dX0_findSlips_73 (by decide) ?_
      exact q_X0_findSlips_108 hm  h0  hk20 hk50 x1 x2 x3 x4 x5 i w h
set_option maxHeartbeats 4000000 in
set_option maxRecDepth 100000 in
theorem q_X0_findSlips_50 {a0 : Nat} {T : kw_T} {n : Nat} {r : kw_R} {Q : kw_I → kw_L → Prop} {E : kw_E} {G : kw_G} (hm : kw_m E G cX0_findSlips 6 RX0 none rm_X0_findSlips "findSlips")  (h0 : T a0 = (0, 0))  {k20 : Int32 → kw_I → kw_L → Prop} (hk20 : ∀ (x1 : Int32) (i : kw_I) (w : kw_L), k20 x1 i w → kw_K E G 6 0 0 (kw_Z E G 0 0 (kw_PV (fun T' n' r' i' w' => T = T' ∧ n = n' ∧ r = r' ∧ Q i' w'))) 20 [(0, kw_a a0), (1, kw_i x1)] [] T n r i w) : ∀ (N : Nat) (x1 : Int32) (x2 : Int32) (x3 : Int32) (x4 : Int32) (x5 : Int32) (i : kw_I) (w : kw_L), w_X0_findSlips_50 a0 T n r Q k20 N x1 x2 x3 x4 x5 i w → kw_K E G 6 0 0 (kw_Z E G 0 0 (kw_PV (fun T' n' r' i' w' => T = T' ∧ n = n' ∧ r = r' ∧ Q i' w'))) 50 [(0, kw_a a0), (1, kw_i x1), (2, kw_i x2), (3, kw_i x3), (4, kw_i x4), (5, kw_i x5)] [] T n r i w := by
  intro N
  induction N with
  | zero => intro x1 x2 x3 x4 x5 i w h; exact h.elim
  | succ N ih => intro x1 x2 x3 x4 x5 i w h; exact qs_X0_findSlips_50 hm  h0 hk20 ih x1 x2 x3 x4 x5 i w h
set_option maxHeartbeats 4000000 in
set_option maxRecDepth 100000 in
theorem qs_X0_findSlips_20 {a0 : Nat} {T : kw_T} {n : Nat} {r : kw_R} {Q : kw_I → kw_L → Prop} {E : kw_E} {G : kw_G} (hm : kw_m E G cX0_findSlips 6 RX0 none rm_X0_findSlips "findSlips")  (h0 : T a0 = (0, 0))    {k20 : Int32 → kw_I → kw_L → Prop} (hk20 : ∀ (x1 : Int32) (i : kw_I) (w : kw_L), k20 x1 i w → kw_K E G 6 0 0 (kw_Z E G 0 0 (kw_PV (fun T' n' r' i' w' => T = T' ∧ n = n' ∧ r = r' ∧ Q i' w'))) 20 [(0, kw_a a0), (1, kw_i x1)] [] T n r i w) (x1 : Int32) (i : kw_I) (w : kw_L) (h : s_X0_findSlips_20 a0 T n r Q  k20 x1 i w) : kw_K E G 6 0 0 (kw_Z E G 0 0 (kw_PV (fun T' n' r' i' w' => T = T' ∧ n = n' ∧ r = r' ∧ Q i' w'))) 20 [(0, kw_a a0), (1, kw_i x1)] [] T n r i w := by
  refine kk_iload_n hm.1 1 dX0_findSlips_20 rfl rfl ?_
  refine kk_aload_n hm.1 0 dX0_findSlips_21 rfl rfl ?_
  refine kk_getR hm.1 ff_X0_57 dX0_findSlips_22 h0 ?_
  obtain ⟨o25, h⟩ := h
  refine kk_getI hm.1 ff_X0_76 dX0_findSlips_25 o25 ?_
  refine kk_bipush (v := (36 : Int32)) hm.1 dX0_findSlips_28 (by decide) ?_
  refine kk_imul hm.1 dX0_findSlips_30 ?_
  refine kk_icmp_ge (tgt := 142) hm.1 dX0_findSlips_31 (by decide) (fun c31 => ?_) (fun c31 => ?_)
  · have h := h.1 c31
    exact kk_vret hm.1 hm.2.1 dX0_findSlips_142 ⟨rfl, rfl, rfl, rfl, h⟩
  · have h := h.2 c31
    refine kk_iload_n hm.1 1 dX0_findSlips_34 rfl rfl ?_
    refine kk_bipush (v := (36 : Int32)) hm.1 dX0_findSlips_35 (by decide) ?_
    refine kk_idiv hm.1 dX0_findSlips_37 (by decide) ?_
    refine kk_istore_n (L' := [(2, kw_i (x1 / (36 : Int32))), (0, kw_a a0), (1, kw_i x1)]) hm.1 dX0_findSlips_38 rfl (by decide) rfl ?_
    refine kk_iload_n hm.1 2 dX0_findSlips_39 rfl rfl ?_
    refine kk_bipush (v := (36 : Int32)) hm.1 dX0_findSlips_40 (by decide) ?_
    refine kk_irem hm.1 dX0_findSlips_42 (by decide) ?_
    refine kk_istore_n (L' := [(3, kw_i (x1 - x1 / (36 : Int32) * (36 : Int32))), (2, kw_i (x1 / (36 : Int32))), (0, kw_a a0), (1, kw_i x1)]) hm.1 dX0_findSlips_43 rfl (by decide) rfl ?_
    refine kk_iconst (v := (0 : Int32)) hm.1 dX0_findSlips_44 (by decide) ?_
    refine kk_istore (L' := [(4, kw_i (0 : Int32)), (3, kw_i (x1 - x1 / (36 : Int32) * (36 : Int32))), (2, kw_i (x1 / (36 : Int32))), (0, kw_a a0), (1, kw_i x1)]) hm.1 dX0_findSlips_45 (by decide) rfl ?_
    refine kk_iconst (v := (0 : Int32)) hm.1 dX0_findSlips_47 (by decide) ?_
    refine kk_istore (L' := [(5, kw_i (0 : Int32)), (4, kw_i (0 : Int32)), (3, kw_i (x1 - x1 / (36 : Int32) * (36 : Int32))), (2, kw_i (x1 / (36 : Int32))), (0, kw_a a0), (1, kw_i x1)]) hm.1 dX0_findSlips_48 (by decide) rfl ?_
    refine kk_loc (L' := [(0, kw_a a0), (1, kw_i x1), (2, kw_i (x1 / (36 : Int32))), (3, kw_i (x1 - x1 / (36 : Int32) * (36 : Int32))), (4, kw_i (0 : Int32)), (5, kw_i (0 : Int32))]) [4, 5, 3, 2, 1, 0] rfl ?_
    obtain ⟨N, h⟩ := h
    exact q_X0_findSlips_50 hm  h0  hk20 N x1 ((x1 / (36 : Int32))) ((x1 - x1 / (36 : Int32) * (36 : Int32))) ((0 : Int32)) ((0 : Int32)) i w h
set_option maxHeartbeats 4000000 in
set_option maxRecDepth 100000 in
theorem q_X0_findSlips_20 {a0 : Nat} {T : kw_T} {n : Nat} {r : kw_R} {Q : kw_I → kw_L → Prop} {E : kw_E} {G : kw_G} (hm : kw_m E G cX0_findSlips 6 RX0 none rm_X0_findSlips "findSlips")  (h0 : T a0 = (0, 0))    : ∀ (N : Nat) (x1 : Int32) (i : kw_I) (w : kw_L), w_X0_findSlips_20 a0 T n r Q  N x1 i w → kw_K E G 6 0 0 (kw_Z E G 0 0 (kw_PV (fun T' n' r' i' w' => T = T' ∧ n = n' ∧ r = r' ∧ Q i' w'))) 20 [(0, kw_a a0), (1, kw_i x1)] [] T n r i w := by
  intro N
  induction N with
  | zero => intro x1 i w h; exact h.elim
  | succ N ih => intro x1 i w h; exact qs_X0_findSlips_20 hm  h0  ih x1 i w h
set_option maxHeartbeats 4000000 in
set_option maxRecDepth 100000 in
theorem t_X0_findSlips {l : Launch} {G : kw_G} {a0 : Nat} {T : kw_T} {n : Nat} {r : kw_R} {i : kw_I} {w : kw_L} {Q : kw_I → kw_L → Prop} (h0 : T a0 = (0, 0)) (h : w_X0_findSlips a0 T n r i w Q) : kw_Met l G yX0_findSlips cX0_findSlips 6 none rm_X0_findSlips [kw_a a0] (T, n, r, i, w) (kw_PV (fun T' n' r' i' w' => T = T' ∧ n = n' ∧ r = r' ∧ Q i' w')) := by
  refine kw_Met.of (by decide) (Nat.le_of_ble_eq_true rfl) fun E hl hRm hE hT hnm => ?_
  have hm : kw_m E G cX0_findSlips 6 RX0 none rm_X0_findSlips "findSlips" := ⟨hE, hT, hRm, hnm⟩
  subst hl
  show kw_K E G 6 0 0 (kw_Z E G 0 0 (kw_PV (fun T' n' r' i' w' => T = T' ∧ n = n' ∧ r = r' ∧ Q i' w'))) 0 [(0, kw_a a0)] [] T n r i w
  refine kk_aload_n hm.1 0 dX0_findSlips_0 rfl rfl ?_
  refine kk_getI hm.1 ff_X0_44 dX0_findSlips_1 h0 ?_
  refine kk_if_eq (tgt := 8) hm.1 dX0_findSlips_4 (by decide) (fun c4 => ?_) (fun c4 => ?_)
  · have h := h.1 c4
    refine kk_aload_n hm.1 0 dX0_findSlips_8 rfl rfl ?_
    refine kk_iconst (v := (1 : Int32)) hm.1 dX0_findSlips_9 (by decide) ?_
    refine kn_putZ hm.1 fp_X0_44 dX0_findSlips_10 h0 (Or.inr rfl) (fun i10 e10 => ?_)
    have h := h i10 e10
    refine kk_aload_n hm.1 0 dX0_findSlips_13 rfl rfl ?_
    refine kk_iconst (v := (0 : Int32)) hm.1 dX0_findSlips_14 (by decide) ?_
    refine kn_putI hm.1 fp_X0_41 dX0_findSlips_15 h0 (fun i15 e15 => ?_)
    have h := h i15 e15
    refine kk_iconst (v := (0 : Int32)) hm.1 dX0_findSlips_18 (by decide) ?_
    refine kk_istore_n (L' := [(1, kw_i (0 : Int32)), (0, kw_a a0)]) hm.1 dX0_findSlips_19 rfl (by decide) rfl ?_
    refine kk_loc (L' := [(0, kw_a a0), (1, kw_i (0 : Int32))]) [1, 0] rfl ?_
    obtain ⟨N, h⟩ := h
    exact q_X0_findSlips_20 hm  h0   N ((0 : Int32)) i15 w h
  · have h := h.2 c4
    exact kk_vret hm.1 hm.2.1 dX0_findSlips_7 ⟨rfl, rfl, rfl, rfl, h⟩
