-- BITS
theorem z_sh31 : ∀ v, v < 31 → ((nI v &&& (31 : Int32)).toBitVec.smod 32).toNat = v := by decide +kernel
theorem z_shr {S v : Nat} (hS : S < 2 ^ 31) (hv : v < 31) : nI S >>> (nI v &&& (31 : Int32)) = nI (S / 2 ^ v) := pk_shrN hS _ v (z_sh31 v hv)
theorem z_bitN {S v : Nat} (hS : S < 2 ^ 31) (hv : v < 31) : (nI S >>> (nI v &&& (31 : Int32))) &&& (1 : Int32) = nI (S / 2 ^ v % 2) := by
  rw [z_shr hS hv]
  have : S / 2 ^ v ≤ S := Nat.div_le_self _ _
  exact pk_andN (by omega) 1 (by decide)
theorem z_bit1 {S v : Nat} (hS : S < 2 ^ 31) (hv : v < 31) : (nI S >>> (nI v &&& (31 : Int32))) &&& (1 : Int32) = 1 ↔ S.testBit v = true := by
  rw [z_bitN hS hv, Nat.testBit_eq_decide_div_mod_eq, decide_eq_true_iff]
  have : S / 2 ^ v % 2 < 2 := Nat.mod_lt _ (by decide)
  exact nI_eq (b := 1) (by omega) (by decide)
theorem z_bit0 {S v : Nat} (hS : S < 2 ^ 31) (hv : v < 31) : (nI S >>> (nI v &&& (31 : Int32))) &&& (1 : Int32) = 0 ↔ S.testBit v = false := by
  rw [z_bitN hS hv, Nat.testBit_eq_decide_div_mod_eq, decide_eq_false_iff_not]
  have : S / 2 ^ v % 2 < 2 := Nat.mod_lt _ (by decide)
  rw [show (0 : Int32) = nI 0 from rfl, nI_eq (by omega) (by decide)]
  omega
theorem z_one_shl {v : Nat} (hv : v < 31) : (1 : Int32) <<< (nI v &&& (31 : Int32)) = nI (2 ^ v) := by
  have h : (2 : Nat) ^ v < 2 ^ 31 := Nat.pow_lt_pow_right (by decide) hv
  have := pk_shlN (n := 1) (nI v &&& (31 : Int32)) v (z_sh31 v hv) (by omega)
  rw [Nat.one_mul] at this
  exact this
-- THE ENVIRONMENT OF A KEPT ROW
def z_W0 (K : Nat → Int32) (v : Nat) : Nat := (K (6 * v + 5)).toNatClampNeg
def z_see0 (K : Nat → Int32) (v c : Nat) : Bool := decide (((K (6 * v)).toNatClampNeg ≤ c % 6 ∧ c % 6 < (K (6 * v)).toNatClampNeg + (K (6 * v + 2)).toNatClampNeg) ∧ ((K (6 * v + 1)).toNatClampNeg ≤ c / 6 ∧ c / 6 < (K (6 * v + 1)).toNatClampNeg + (K (6 * v + 3)).toNatClampNeg))
def z_env (K : Nat → Int32) (L : List z_Sm) (S : Nat) (Wf : Nat → Nat) (fx : Nat → Nat → Option Int32) : z_E := (Wf, fun v c => S.testBit v || z_see0 K v c, fun v => K (6 * v + 4), K 177, z_wi (K 180) L, fx)
def z_hasB (W : Nat) : Prop := W < 256 ∧ ∃ c, c < 8 ∧ W.testBit c = true
/-- what a kept row may hold -/
def z_Kr (K : Nat → Int32) (nv : Nat) : Prop := nv ≤ 10 ∧ K 178 = nI nv ∧ (∀ v, v < nv → (∃ x y wd tl, 1 ≤ wd ∧ 1 ≤ tl ∧ x + wd ≤ 6 ∧ y + tl ≤ 6 ∧ K (6 * v) = nI x ∧ K (6 * v + 1) = nI y ∧ K (6 * v + 2) = nI wd ∧ K (6 * v + 3) = nI tl) ∧ z_B (K (6 * v + 4)) 8 ∧ ∃ W, 0 < W ∧ W < 256 ∧ K (6 * v + 5) = nI W) ∧ (∀ q c, q < 3 → c < 36 → z_B (K (60 + 36 * q + c)) 8) ∧ (∀ c, c < 8 → z_B (K (168 + c)) 100) ∧ z_B (K 176) 101 ∧ z_B (K 177) 100
theorem z_hasB_of {W : Nat} (h0 : 0 < W) (h : W < 256) : z_hasB W := by
  refine ⟨h, ?_⟩
  have : ∀ W, W < 256 → 0 < W → ∃ c, c < 8 ∧ W.testBit c = true := by decide +kernel
  exact this W h h0
theorem z_Kr_W {K : Nat → Int32} {nv : Nat} (h : z_Kr K nv) {v : Nat} (hv : v < nv) : z_hasB (z_W0 K v) ∧ K (6 * v + 5) = nI (z_W0 K v) := by
  obtain ⟨W, h0, h1, h2⟩ := (h.2.2.1 v hv).2.2
  have e : z_W0 K v = W := by unfold z_W0; rw [h2, nI_clamp (by omega)]
  rw [e]
  exact ⟨z_hasB_of h0 h1, h2⟩
theorem z_Nr_ex {W : Nat} (h : z_hasB W) (z : Int) : ∃ c, z_Nr W z c := by
  obtain ⟨-, b, hb, hb2⟩ := h
  obtain ⟨c, h1, h2, h3⟩ := fb_low (fun d => if W.testBit d = true then ((z - d).natAbs : Int) else ((z - b).natAbs : Int) + 1) (n := 8) (by decide)
  have hc : W.testBit c = true := by
    cases hh : W.testBit c with
    | true => rfl
    | false =>
      have := h2 b hb
      simp only [hh, hb2, if_true] at this
      have e : (if (false = true) then ((z - (c : Int)).natAbs : Int) else ((z - (b : Int)).natAbs : Int) + 1) = ((z - (b : Int)).natAbs : Int) + 1 := if_neg (by decide)
      rw [e] at this
      omega
  refine ⟨c, h1, hc, fun d hd hd2 => ?_⟩
  have a := h2 d hd
  simp only [hc, hd2, if_true] at a
  rcases Nat.lt_or_ge d c with q | q
  · have b := h3 d q
    simp only [hc, hd2, if_true] at b
    left
    omega
  · omega
theorem z_cv_B {E : z_E} {v c : Nat} {was left above : Int32} (hW : z_hasB (E.1 v)) (hf : ∀ x, E.2.2.2.2.2 v c = some x → z_B x 8) : z_B (z_cv E v c was left above) 8 := by
  unfold z_cv
  cases hh : E.2.2.2.2.2 v c with
  | some x => exact hf x hh
  | none =>
    obtain ⟨col, hc⟩ := z_Nr_ex hW (E.2.2.2.2.1 (z_ask v c was left above (E.2.2.1 v) E.2.2.2.1) (if was = -1 then (E.2.2.1 v).toInt64 else was.toInt64)).toInt
    show z_B (nI (z_nr _ _)) 8
    rw [z_nr_eq hc]
    exact ⟨col, hc.1, rfl⟩
theorem z_wv_B {E : z_E} {v : Nat} {f : Nat → Int32} (hW : z_hasB (E.1 v)) (hf : ∀ c x, c < 36 → E.2.2.2.2.2 v c = some x → z_B x 8) : ∀ c, c < 36 → z_B (z_wv E v f c) 8 := by
  intro c hc
  rw [z_isW_wv E v f c hc]
  exact z_cv_B hW (fun x hx => hf c x hc hx)
theorem z_go_B {E : z_E} {k nv : Nat} {f : Nat → Int32} (hf0 : ∀ c, c < 36 → z_B (f c) 8) (hW : ∀ v, v < nv → z_hasB (E.1 v)) (hf : ∀ v c x, v < nv → c < 36 → E.2.2.2.2.2 v c = some x → z_B x 8) : ∀ m, k + m ≤ nv → ∀ c, c < 36 → z_B (z_go E k f m c) 8
  | 0, _ => hf0
  | m + 1, h => z_wv_B (hW (k + m) (by omega)) (fun c x hc => hf (k + m) c x (by omega) hc)
theorem z_B_ne {x : Int32} {m : Nat} (h : z_B x m) (hm : m < 2 ^ 31) : x ≠ -1 := by
  obtain ⟨k, hk, rfl⟩ := h
  intro e
  have e3 : (nI k).toInt = (-1 : Int32).toInt := by rw [e]
  rw [nI_toInt (by omega)] at e3
  have : (-1 : Int32).toInt = -1 := by decide
  omega
-- THE REFERENCE WEAVES
/-- how the reference's numbers say who sees more, has more, slips -/
def z_mv (i : kw_I) (nv S : Nat) (Wf : Nat → Nat) (fx : Nat → Nat → Option Int32) : Prop := S < 1024 ∧ i 84 27 = nI S ∧ (∀ v, v < nv → z_hasB (Wf v) ∧ nI (Wf v) = i 86 (6 * v + 5) ||| (if nI v = i 84 28 then (1 : Int32) <<< (i 84 29 &&& 31) else 0)) ∧ (∀ v c, v < nv → c < 36 → fx v c = if i 84 30 = nI (36 * v + c) then some (i 84 31) else none)
/-- what weaving changes: the cells of one village in the row a -/
def z_wr (a lo : Nat) (i i' : kw_I) : Prop := (∀ b, b ≠ 84 → b ≠ 95 → b ≠ a → i' b = i b) ∧ (∀ f, f ≠ 18 → f ≠ 19 → f ≠ 20 → i' 84 f = i 84 f) ∧ ∀ k, (k < lo ∨ lo + 36 ≤ k) → i' a k = i a k
section ZWM
variable {T : kw_T} {n : Nat} {r : kw_R} {i : kw_I} {w : kw_L} {nv v : Nat}
theorem z_factOf (hS : z_S T r) (hv : v < 10) {k : Nat} (hk : k < 6) {Q : Int32 → Prop} (hQ : Q (i 86 (6 * v + k))) : w_X10_factOf 84 (nI v) (nI k) T n r i w Q := by
  unfold w_X10_factOf
  have e : (6 : Int32) * nI v + nI k = nI (6 * v + k) := by rw [show (6 : Int32) = nI 6 from rfl, pk_mul, nI_add]
  rw [z_r84_2 hS, e, nI_clamp (by omega)]
  exact ⟨z_kin (z_T86 hS) (by omega) (by decide), hQ⟩
theorem z_villages (hS : z_S T r) {Q : Int32 → Prop} (hQ : Q (i 86 178)) : w_X10_villages 84 T n r i w Q := by
  unfold w_X10_villages
  rw [z_r84_2 hS]
  exact ⟨z_kin (k := 178) (z_T86 hS) (by decide) (by decide), hQ⟩
theorem z_lies_nI {a b c : Nat} (hb : b < 2 ^ 31) (ha : a < 2 ^ 31) (hc : c < 2 ^ 31) (hc0 : 0 < c) {Q : Int32 → Prop} (ht : (b ≤ a ∧ a < c) → Q 1) (hf : ¬ (b ≤ a ∧ a < c) → Q 0) : w_X10_lies (nI a) (nI b) (nI c - 1) T n r i w Q := by
  have e : nI c - 1 = nI (c - 1) := pk_sub (b := 1) hc0
  rw [e]
  by_cases h1 : a < b
  · exact z_lies_f (Or.inl (nI_lt h1 hb)) (hf (by omega))
  · by_cases h2 : c - 1 < a
    · exact z_lies_f (Or.inr (nI_lt h2 ha)) (hf (by omega))
    · exact z_lies_t (nI_nlt (by omega) ha) (nI_nlt (by omega) (by omega)) (ht (by omega))
theorem z_isSeen (hS : z_S T r) (hK : z_Kr (i 86) nv) (hv : v < nv) {S c : Nat} (hS2 : S < 1024) (h27 : i 84 27 = nI S) (hc : c < 36) {Q : Int32 → Prop} (hQ : Q (if (S.testBit v || z_see0 (i 86) v c) = true then 1 else 0)) : w_X10_isSeen 84 (nI v) (nI c) T n r i w Q := by
  have hv10 : v < 10 := by have := hK.1; omega
  obtain ⟨x, y, wd, tl, h1, h2, h3, h4, ex, ey, ew, et⟩ := (hK.2.2.1 v hv).1
  unfold w_X10_isSeen
  rw [h27]
  refine ⟨fun h => ?_, fun h => ?_⟩
  · have hb : S.testBit v = false := by
      cases hh : S.testBit v with
      | false => rfl
      | true => exact absurd ((z_bit1 (by omega) (by omega)).mpr hh) h
    rw [hb] at hQ
    have es : z_see0 (i 86) v c = decide ((x ≤ c % 6 ∧ c % 6 < x + wd) ∧ (y ≤ c / 6 ∧ c / 6 < y + tl)) := by
      unfold z_see0
      rw [ex, ey, ew, et, nI_clamp (by omega), nI_clamp (by omega), nI_clamp (by omega), nI_clamp (by omega)]
    rw [es] at hQ
    refine z_factOf (k := 0) hS hv10 (by decide) (z_factOf (k := 0) hS hv10 (by decide) (z_factOf (k := 2) hS hv10 (by decide) ?_))
    have em : nI c - nI c / (6 : Int32) * 6 = nI (c % 6) := pk_rem (d := 6) (by omega) (by decide) (by decide)
    have ed : nI c / (6 : Int32) = nI (c / 6) := pk_div (d := 6) (by omega) (by decide) (by decide)
    rw [em, ed, show 6 * v + 0 = 6 * v by omega, ex, ew, nI_add]
    refine z_lies_nI (by omega) (by omega) (by omega) (by omega) (fun p => z_t ?_) (fun p => z_f ?_)
    · refine z_factOf (k := 1) hS hv10 (by decide) (z_factOf (k := 1) hS hv10 (by decide) (z_factOf (k := 3) hS hv10 (by decide) ?_))
      rw [ey, et, nI_add]
      refine z_lies_nI (by omega) (by omega) (by omega) (by omega) (fun p2 => z_t ?_) (fun p2 => z_f ?_)
      · rw [if_pos (by simp; omega)] at hQ
        exact hQ
      · rw [if_neg (by simp; omega)] at hQ
        exact hQ
    · rw [if_neg (by simp; omega)] at hQ
      exact hQ
  · rw [(z_bit1 (by omega) (by omega)).mp h] at hQ
    exact hQ
/-- up to the wish of a cell -/
theorem z_wvs_pre (hS : z_S T r) (hK : z_Kr (i 86) nv) (hv : v < nv) {S c a fr to : Nat} (hS2 : S < 1024) (h27 : i 84 27 = nI S) (hc : c < 36) (hT : T a = (1, 396)) (ha : 95 < a) (hfr : fr + 36 ≤ 396) (hto : to + 36 ≤ 396) {was : Int32} (hwas : was = if (S.testBit v || z_see0 (i 86) v c) = true then i a (fr + c) else -1) (hB : z_B (i a (fr + c)) 8) {Q : kw_I → Prop} {k30 : Int32 → Int32 → kw_I → Prop} {x5 : Int32}
    (hQ : ∀ i' : kw_I, z_io 95 i i' → (∀ k, k < 9 → i' 95 k = z_ask v c was (z_left (fun c => i a (to + c)) c) (z_above (fun c => i a (to + c)) c) (i 86 (6 * v + 4)) (i 86 177) k) → w_X10_weaves_218 84 (nI v) a (nI fr) (nI to) T n r w Q k30 x5 (nI c) 84 (if was = -1 then (i 86 (6 * v + 4)).toInt64 else was.toInt64) i') : s_X10_weaves_30 84 (nI v) a (nI fr) (nI to) T n r w Q k30 x5 (nI c) i := by
  have hv10 : v < 10 := by have := hK.1; omega
  refine ⟨fun h => absurd h (nI_ge (a := c) (b := 36) hc (by decide)), fun _ => ?_⟩
  refine z_isSeen hS hK hv hS2 h27 hc ?_
  have em : nI c - nI c / (6 : Int32) * 6 = nI (c % 6) := pk_rem (d := 6) (by omega) (by decide) (by decide)
  have ed : nI c / (6 : Int32) = nI (c / 6) := pk_div (d := 6) (by omega) (by decide) (by decide)
  have k95 : ∀ k, k < 9 → kw_in T 1 95 (nI k) := fun k hk => z_kin (z_T95 hS) hk (by decide)
  rw [z_r84_21 hS, em, ed]
  -- from any truth
  have main : ∀ x : Int32, x = (if (S.testBit v || z_see0 (i 86) v c) = true then 1 else 0) → (kw_in T 1 95 (0 : Int32) ∧ (∀ i56 : kw_I, i56 = kw_st i 95 ((0 : Int32)).toNatClampNeg (nI (c % 6)) → (kw_in T 1 95 (1 : Int32) ∧ (∀ i67 : kw_I, i67 = kw_st i56 95 ((1 : Int32)).toNatClampNeg (nI (c / 6)) → (kw_in T 1 95 (2 : Int32) ∧ (∀ i74 : kw_I, i74 = kw_st i67 95 ((2 : Int32)).toNatClampNeg (nI v) → ((x = 0 → w_X10_weaves_90 84 (nI v) a (nI fr) (nI to) T n r w Q k30 x5 (nI c) x 95 (3 : Int32) (0 : Int32) i74) ∧ (¬ x = 0 → w_X10_weaves_90 84 (nI v) a (nI fr) (nI to) T n r w Q k30 x5 (nI c) x 95 (3 : Int32) (1 : Int32) i74)))))))) := by
    intro x hx
    have hw0 : x = 0 → was = -1 := by
      intro h
      rw [hwas]
      by_cases q : (S.testBit v || z_see0 (i 86) v c) = true
      · rw [if_pos q] at hx
        rw [hx] at h
        exact absurd h (by decide)
      · rw [if_neg q]
    have hw1 : ¬ x = 0 → was = i a (fr + c) := by
      intro h
      rw [hwas]
      by_cases q : (S.testBit v || z_see0 (i 86) v c) = true
      · rw [if_pos q]
      · rw [if_neg q] at hx
        exact absurd hx h
    have hwn : ¬ x = 0 → ¬ was = -1 := fun h => by rw [hw1 h]; exact z_B_ne hB (by decide)
    refine ⟨k95 0 (by decide), fun i1 e1 => ⟨k95 1 (by decide), fun i2 e2 => ⟨k95 2 (by decide), fun i3 e3 => ?_⟩⟩⟩
    have o3 : z_io 95 i i3 := by rw [e3, e2, e1]; exact z_io_st (z_io_st (z_io_st (fun b _ => rfl)))
    have c90 : ∀ y : Int32, y = (if was = -1 then 0 else 1) → w_X10_weaves_90 84 (nI v) a (nI fr) (nI to) T n r w Q k30 x5 (nI c) x 95 (3 : Int32) y i3 := by
      intro y hy
      refine ⟨k95 3 (by decide), fun i4 e4 => ?_⟩
      have o4 : z_io 95 i i4 := by rw [e4]; exact z_io_st o3
      rw [z_r84_21 hS]
      have c111 : w_X10_weaves_111 84 (nI v) a (nI fr) (nI to) T n r w Q k30 x5 (nI c) x 95 (4 : Int32) was i4 := by
        refine ⟨k95 4 (by decide), fun i5 e5 => ?_⟩
        have o5 : z_io 95 i i5 := by rw [e5]; exact z_io_st o4
        rw [z_r84_21 hS, em]
        have c138 : ∀ y5 : Int32, y5 = z_left (fun c => i a (to + c)) c → w_X10_weaves_138 84 (nI v) a (nI fr) (nI to) T n r w Q k30 x5 (nI c) x 95 (5 : Int32) y5 i5 := by
          intro y5 hy5
          refine ⟨k95 5 (by decide), fun i6 e6 => ?_⟩
          have o6 : z_io 95 i i6 := by rw [e6]; exact z_io_st o5
          rw [z_r84_21 hS]
          have c166 : ∀ y6 : Int32, y6 = z_above (fun c => i a (to + c)) c → w_X10_weaves_166 84 (nI v) a (nI fr) (nI to) T n r w Q k30 x5 (nI c) x 95 (6 : Int32) y6 i6 := by
            intro y6 hy6
            refine ⟨k95 6 (by decide), fun i7 e7 => ?_⟩
            have o7 : z_io 95 i i7 := by rw [e7]; exact z_io_st o6
            refine z_factOf (k := 4) hS hv10 (by decide) ?_
            rw [z_r84_21 hS, z_r84_2 hS, o7 86 (by decide)]
            refine ⟨k95 7 (by decide), fun i8 e8 => ⟨z_kin (k := 177) (z_T86 hS) (by decide) (by decide), k95 8 (by decide), fun i9 e9 => ?_⟩⟩
            have o8 : z_io 95 i i8 := by rw [e8]; exact z_io_st o7
            have o9 : z_io 95 i i9 := by rw [e9]; exact z_io_st o8
            have hask : ∀ k, k < 9 → i9 95 k = z_ask v c was (z_left (fun c => i a (to + c)) c) (z_above (fun c => i a (to + c)) c) (i 86 (6 * v + 4)) (i 86 177) k := by
              intro k hk
              rw [e9, o8 86 (by decide), e8, e7, e6, e5, e4, e3, e2, e1]
              show kw_st (kw_st (kw_st (kw_st (kw_st (kw_st (kw_st (kw_st (kw_st i 95 0 (nI (c % 6))) 95 1 (nI (c / 6))) 95 2 (nI v)) 95 3 y) 95 4 was) 95 5 y5) 95 6 y6) 95 7 (i 86 (6 * v + 4))) 95 8 (i 86 177) 95 k = _
              rw [kw_st_row, kw_st_row, kw_st_row, kw_st_row, kw_st_row, kw_st_row, kw_st_row, kw_st_row, kw_st_row, hy, hy5, hy6]
              unfold z_ask
              rcases (show k = 0 ∨ k = 1 ∨ k = 2 ∨ k = 3 ∨ k = 4 ∨ k = 5 ∨ k = 6 ∨ k = 7 ∨ k = 8 by omega) with rfl | rfl | rfl | rfl | rfl | rfl | rfl | rfl | rfl <;> rfl
            have fin := hQ i9 o9 hask
            refine ⟨fun h => ?_, fun h => ?_⟩
            · refine z_factOf (k := 4) hS hv10 (by decide) ?_
              rw [o9 86 (by decide)]
              rw [if_pos (hw0 h)] at fin
              exact fin
            · have eL : nI fr + nI c = nI (fr + c) := nI_add fr c
              rw [eL]
              refine ⟨z_kin hT (by omega) (by decide), ?_⟩
              rw [nI_clamp (by omega), o9 a (by omega), ← hw1 h]
              rw [if_neg (hwn h)] at fin
              exact fin
          refine ⟨fun h => ?_, fun h => c166 _ ?_⟩
          · have h6 : 6 ≤ c := (nI_leI (a := 6) (by decide) (by omega)).mp h
            have eL : nI to + nI c - (6 : Int32) = nI (to + c - 6) := by
              rw [nI_add]
              exact pk_sub (b := 6) (by omega)
            rw [eL]
            refine ⟨z_kin hT (by omega) (by decide), c166 _ ?_⟩
            rw [nI_clamp (by omega), o6 a (by omega)]
            unfold z_above
            rw [if_neg (by omega), show to + c - 6 = to + (c - 6) by omega]
          · unfold z_above
            rw [if_pos]
            rcases Nat.lt_or_ge c 6 with q | q
            · exact q
            · exact absurd (nI_le (a := 6) q (by omega)) h
        refine ⟨fun h => ?_, fun h => c138 _ ?_⟩
        · have h0 : c % 6 ≠ 0 := fun q => h (by rw [q]; rfl)
          have eL : nI to + nI c - (1 : Int32) = nI (to + c - 1) := by
            rw [nI_add]
            exact pk_sub (b := 1) (by omega)
          rw [eL]
          refine ⟨z_kin hT (by omega) (by decide), c138 _ ?_⟩
          rw [nI_clamp (by omega), o5 a (by omega)]
          unfold z_left
          rw [if_neg h0, show to + c - 1 = to + (c - 1) by omega]
        · unfold z_left
          rw [if_pos ((nI_eq (b := 0) (by omega) (by decide)).mp h)]
      refine ⟨fun h => ?_, fun h => ?_⟩
      · rw [hw0 h] at c111
        exact c111
      · have eL : nI fr + nI c = nI (fr + c) := nI_add fr c
        rw [eL]
        refine ⟨z_kin hT (by omega) (by decide), ?_⟩
        rw [nI_clamp (by omega), o4 a (by omega), ← hw1 h]
        exact c111
    refine ⟨fun h => c90 0 (by rw [if_pos (hw0 h)]), fun h => c90 1 (by rw [if_neg (hwn h)])⟩
  exact main _ rfl
/-- the wish of a cell -/
theorem z_wvs_wish (hS : z_S T r) {c : Nat} {was left above ta yr : Int32} {K : Nat → Int32} {L : List z_Sm} {d : Int64} (hKe : i 86 = K) (hL : K 180 ≠ -1 → ∃ j, j < 6 ∧ K 180 = nI j ∧ z_toks K j L) (hask : ∀ k, k < 9 → i 95 k = z_ask v c was left above ta yr k) (hd : d = if was = -1 then ta.toInt64 else was.toInt64) {Q : Int64 → kw_I → Prop}
    (hQ : ∀ (z : Int64) (i' : kw_I), z_ev i i' → z = z_wi (K 180) L (z_ask v c was left above ta yr) d → (-1000000000000 ≤ z.toInt ∧ z.toInt ≤ 1000000000000) → Q z i') : w_X10_wishOf 84 d T n r i w Q := by
  subst hKe
  refine z_wishOf hS hL fun i' hi => hQ _ i' hi ?_ ?_
  · unfold z_wi
    by_cases h : i 86 180 = -1
    · rw [if_pos h, if_pos h]
    · rw [if_neg h, if_neg h]
      obtain ⟨j, _, _, ht⟩ := hL h
      exact z_evL_a9 hask L _ (z_toks_a9 ht)
  · have hd : -2147483648 ≤ d.toInt ∧ d.toInt ≤ 2147483648 := by
      rw [hd]
      by_cases q : was = -1
      · rw [if_pos q]
        exact z_bd_i _
      · rw [if_neg q]
        exact z_bd_i _
    unfold z_wi
    by_cases h : i 86 180 = -1
    · rw [if_pos h]
      omega
    · rw [if_neg h]
      obtain ⟨j, _, _, ht⟩ := hL h
      have := z_evL_bd (i 95) L _ (z_toks_bd ht) hd
      omega
/-- a village weaves, without draws -/
theorem z_weaves (hS : z_S T r) (hK : z_Kr (i 86) nv) (hv : v < nv) {L : List z_Sm} (hL : i 86 180 ≠ -1 → ∃ j, j < 6 ∧ i 86 180 = nI j ∧ z_toks (i 86) j L) {S : Nat} {Wf : Nat → Nat} {fx : Nat → Nat → Option Int32} (hm : z_mv i nv S Wf fx) (hdr : i 84 32 = 0) {a fr to : Nat} (hT : T a = (1, 396)) (ha : 95 < a) (hfr : fr + 36 ≤ 396) (hto : to + 36 ≤ 396) (hdis : fr + 36 ≤ to ∨ to + 36 ≤ fr) (hB : ∀ c, c < 36 → z_B (i a (fr + c)) 8) {Q : kw_I → Prop}
    (hQ : ∀ i', z_wr a to i i' → (∀ c, c < 36 → i' a (to + c) = z_wv (z_env (i 86) L S Wf fx) v (fun c => i a (fr + c)) c) → Q i') : w_X10_weaves 84 (nI v) a (nI fr) (nI to) T n r i w Q := by
  obtain ⟨hS2, h27, hW, hfx⟩ := hm
  have hv10 : v < 10 := by have := hK.1; omega
  refine z_factOf (k := 5) hS hv10 (by decide) ?_
  have hWv := hW v hv
  -- the loop
  have loop : ∀ (k c : Nat) (j : kw_I), c + k = 36 → z_wr a to i j → z_isW (z_env (i 86) L S Wf fx) v (fun c => i a (fr + c)) (fun c => j a (to + c)) c → w_X10_weaves_30 84 (nI v) a (nI fr) (nI to) T n r w Q (k + 1) (nI (Wf v)) (nI c) j := by
    intro k
    induction k with
    | zero =>
      intro c j hc h1 h2
      have : c = 36 := by omega
      subst this
      exact ⟨fun _ => hQ j h1 (z_wv_of h2), fun h => absurd (by decide) h⟩
    | succ k ih =>
      intro c j hc h1 h2
      have e86 : j 86 = i 86 := h1.1 86 (by decide) (by decide) (by omega)
      have efr : j a (fr + c) = i a (fr + c) := h1.2.2 _ (by omega)
      refine z_wvs_pre (i := j) (S := S) hS (by rw [e86]; exact hK) hv hS2 (by rw [h1.2.1 27 (by decide) (by decide) (by decide)]; exact h27) (by omega) hT ha hfr hto rfl (by rw [efr]; exact hB c (by omega)) ?_
      intro j2 o2 ask2
      refine ⟨z_T84 hS, ?_⟩
      have e86b : j2 86 = i 86 := (o2 86 (by decide)).trans e86
      rw [e86] at ask2 ⊢
      refine z_wvs_wish (i := j2) hS e86b hL ask2 rfl ?_
      intro z j3 ev3 hz hzb
      have g84 : ∀ f, f ≠ 18 → f ≠ 19 → f ≠ 20 → j3 84 f = i 84 f := fun f f1 f2 f3 => by rw [ev3.2 f f1 f2 f3, o2 84 (by decide), h1.2.1 f f1 f2 f3]
      refine ⟨fun _ => ?_, fun h => absurd (by rw [g84 32 (by decide) (by decide) (by decide)]; exact hdr) h⟩
      have ea : j3 a = j a := by rw [ev3.1 a (by omega), o2 a (by omega)]
      -- the end: x is woven
      have fin : ∀ x : Int32, x = z_cv (z_env (i 86) L S Wf fx) v c (z_was (z_env (i 86) L S Wf fx) v (fun c => i a (fr + c)) c) (z_left (fun c => j a (to + c)) c) (z_above (fun c => j a (to + c)) c) → w_X10_weaves_300 84 (nI v) a (nI fr) (nI to) T n r w Q (w_X10_weaves_30 84 (nI v) a (nI fr) (nI to) T n r w Q (k + 1)) (nI (Wf v)) (nI c) a (nI to + nI c) x j3 := by
        intro x hx
        unfold w_X10_weaves_300
        rw [nI_add, nI_clamp (by omega)]
        refine ⟨z_kin hT (by omega) (by decide), fun j4 e4 => ?_⟩
        rw [nI_1]
        have row : ∀ d, j4 a d = if d = to + c then x else j a d := by
          intro d
          rw [e4, kw_st_row, ea]
        refine ih (c + 1) j4 (by omega) ⟨fun b b1 b2 b3 => ?_, fun f f1 f2 f3 => ?_, fun q hq => ?_⟩ ?_
        · rw [e4, kw_st_offF b3, ev3.1 b b1, o2 b b2]
          exact h1.1 b b1 b2 b3
        · rw [e4, kw_st_offF (by omega)]
          exact g84 f f1 f2 f3
        · rw [row, if_neg (by omega)]
          exact h1.2.2 q hq
        · intro d hd
          have old : ∀ d, d < c → j4 a (to + d) = j a (to + d) := fun d hd => by rw [row, if_neg (by omega)]
          rw [z_left_eq (g := fun c => j4 a (to + c)) (g' := fun c => j a (to + c)) (fun e he => old e (by omega)), z_above_eq (g := fun c => j4 a (to + c)) (g' := fun c => j a (to + c)) (fun e he => old e (by omega))]
          rcases Nat.lt_or_ge d c with q | q
          · exact (old d q).trans (h2 d q)
          · have : d = c := by omega
            subst this
            have er : j4 a (to + d) = x := by rw [row, if_pos rfl]
            exact er.trans hx
      have e36 : (36 : Int32) * nI v + nI c = nI (36 * v + c) := by rw [show (36 : Int32) = nI 36 from rfl, pk_mul, nI_add]
      have hfxc := hfx v c hv (by omega)
      unfold w_X10_weaves_266
      rw [e36, g84 30 (by decide) (by decide) (by decide), g84 31 (by decide) (by decide) (by decide)]
      refine ⟨fun h => ?_, fun h => fin _ ?_⟩
      · rw [if_neg h] at hfxc
        refine z_near10 hWv.1.1 hzb hWv.1.2 fun col hcol => fin _ ?_
        unfold z_cv
        show nI col = match fx v c with | some x => x | none => _
        rw [hfxc]
        show nI col = nI (z_nr (Wf v) _)
        rw [hz, efr] at hcol
        exact congrArg nI (z_nr_eq hcol).symm
      · rw [if_pos h] at hfxc
        unfold z_cv
        show i 84 31 = match fx v c with | some x => x | none => _
        rw [hfxc]
  have c24 : ∀ s1 : Int32, nI (Wf v) = i 86 (6 * v + 5) ||| s1 → w_X10_weaves_24 84 (nI v) a (nI fr) (nI to) T n r w Q (i 86 (6 * v + 5)) s1 i := by
    intro s1 h
    refine ⟨37, ?_⟩
    rw [← h]
    exact loop 36 0 i (by omega) ⟨fun _ _ _ _ => rfl, fun _ _ _ _ => rfl, fun _ _ => rfl⟩ (fun c hc => absurd hc (Nat.not_lt_zero c))
  refine ⟨fun h => c24 _ ?_, fun h => c24 _ ?_⟩
  · rw [hWv.2, if_neg h]
  · rw [hWv.2, if_pos h]
end ZWM
