-- LOST, COULD
def z_bcnt (x0 : Int32) : Int32 := ((((((((x0 - (((x0.toUInt32 >>> ((1 : Int32).toUInt32 &&& Int32.toUInt32 31)).toInt32) &&& (1431655765 : Int32))) &&& (858993459 : Int32)) + ((((x0 - (((x0.toUInt32 >>> ((1 : Int32).toUInt32 &&& Int32.toUInt32 31)).toInt32) &&& (1431655765 : Int32))).toUInt32 >>> ((2 : Int32).toUInt32 &&& Int32.toUInt32 31)).toInt32) &&& (858993459 : Int32))) + (((((x0 - (((x0.toUInt32 >>> ((1 : Int32).toUInt32 &&& Int32.toUInt32 31)).toInt32) &&& (1431655765 : Int32))) &&& (858993459 : Int32)) + ((((x0 - (((x0.toUInt32 >>> ((1 : Int32).toUInt32 &&& Int32.toUInt32 31)).toInt32) &&& (1431655765 : Int32))).toUInt32 >>> ((2 : Int32).toUInt32 &&& Int32.toUInt32 31)).toInt32) &&& (858993459 : Int32))).toUInt32 >>> ((4 : Int32).toUInt32 &&& Int32.toUInt32 31)).toInt32)) &&& (252645135 : Int32)) + (((((((x0 - (((x0.toUInt32 >>> ((1 : Int32).toUInt32 &&& Int32.toUInt32 31)).toInt32) &&& (1431655765 : Int32))) &&& (858993459 : Int32)) + ((((x0 - (((x0.toUInt32 >>> ((1 : Int32).toUInt32 &&& Int32.toUInt32 31)).toInt32) &&& (1431655765 : Int32))).toUInt32 >>> ((2 : Int32).toUInt32 &&& Int32.toUInt32 31)).toInt32) &&& (858993459 : Int32))) + (((((x0 - (((x0.toUInt32 >>> ((1 : Int32).toUInt32 &&& Int32.toUInt32 31)).toInt32) &&& (1431655765 : Int32))) &&& (858993459 : Int32)) + ((((x0 - (((x0.toUInt32 >>> ((1 : Int32).toUInt32 &&& Int32.toUInt32 31)).toInt32) &&& (1431655765 : Int32))).toUInt32 >>> ((2 : Int32).toUInt32 &&& Int32.toUInt32 31)).toInt32) &&& (858993459 : Int32))).toUInt32 >>> ((4 : Int32).toUInt32 &&& Int32.toUInt32 31)).toInt32)) &&& (252645135 : Int32)).toUInt32 >>> ((8 : Int32).toUInt32 &&& Int32.toUInt32 31)).toInt32)) + ((((((((x0 - (((x0.toUInt32 >>> ((1 : Int32).toUInt32 &&& Int32.toUInt32 31)).toInt32) &&& (1431655765 : Int32))) &&& (858993459 : Int32)) + ((((x0 - (((x0.toUInt32 >>> ((1 : Int32).toUInt32 &&& Int32.toUInt32 31)).toInt32) &&& (1431655765 : Int32))).toUInt32 >>> ((2 : Int32).toUInt32 &&& Int32.toUInt32 31)).toInt32) &&& (858993459 : Int32))) + (((((x0 - (((x0.toUInt32 >>> ((1 : Int32).toUInt32 &&& Int32.toUInt32 31)).toInt32) &&& (1431655765 : Int32))) &&& (858993459 : Int32)) + ((((x0 - (((x0.toUInt32 >>> ((1 : Int32).toUInt32 &&& Int32.toUInt32 31)).toInt32) &&& (1431655765 : Int32))).toUInt32 >>> ((2 : Int32).toUInt32 &&& Int32.toUInt32 31)).toInt32) &&& (858993459 : Int32))).toUInt32 >>> ((4 : Int32).toUInt32 &&& Int32.toUInt32 31)).toInt32)) &&& (252645135 : Int32)) + (((((((x0 - (((x0.toUInt32 >>> ((1 : Int32).toUInt32 &&& Int32.toUInt32 31)).toInt32) &&& (1431655765 : Int32))) &&& (858993459 : Int32)) + ((((x0 - (((x0.toUInt32 >>> ((1 : Int32).toUInt32 &&& Int32.toUInt32 31)).toInt32) &&& (1431655765 : Int32))).toUInt32 >>> ((2 : Int32).toUInt32 &&& Int32.toUInt32 31)).toInt32) &&& (858993459 : Int32))) + (((((x0 - (((x0.toUInt32 >>> ((1 : Int32).toUInt32 &&& Int32.toUInt32 31)).toInt32) &&& (1431655765 : Int32))) &&& (858993459 : Int32)) + ((((x0 - (((x0.toUInt32 >>> ((1 : Int32).toUInt32 &&& Int32.toUInt32 31)).toInt32) &&& (1431655765 : Int32))).toUInt32 >>> ((2 : Int32).toUInt32 &&& Int32.toUInt32 31)).toInt32) &&& (858993459 : Int32))).toUInt32 >>> ((4 : Int32).toUInt32 &&& Int32.toUInt32 31)).toInt32)) &&& (252645135 : Int32)).toUInt32 >>> ((8 : Int32).toUInt32 &&& Int32.toUInt32 31)).toInt32)).toUInt32 >>> ((16 : Int32).toUInt32 &&& Int32.toUInt32 31)).toInt32)) &&& (63 : Int32))
theorem z_bcAll : ∀ S, S < 1024 → z_bcnt (nI S) = nI (z_pop S) := by decide +kernel
section ZLO
variable {T : kw_T} {n : Nat} {r : kw_R} {i : kw_I} {w : kw_L} {nv : Nat} {L : List z_Sm}
theorem z_bitCount {S : Nat} (hS : S < 1024) {Q : Int32 → Prop} (hQ : Q (nI (z_pop S))) : w_J6_bitCount_0f7a4 (nI S) T n r i w Q := by
  show Q (z_bcnt (nI S))
  rw [z_bcAll S hS]
  exact hQ
theorem z_fr_rows (h : z_fr T n r i w nv L) : z_rows T r i (i 86) nv L := ⟨h.1.1, h.2.2.2.2.1.1, h.2.2.2.2.1.2.1.1.1, h.2.2.1.1, h.2.2.2.2.1.2.2.2.1, fun c hc => h.1.2.2.1.1.2.1 0 c (by decide) hc⟩
theorem z_fr_fe {i' : kw_I} {w' : kw_L} (h : z_fr T n r i w nv L) (hf : z_fe i i') (hw : z_wo 28 w w') : z_fr T n r i' w' nv L ∧ i' 86 = i 86 := by
  have e86 : i' 86 = i 86 := hf.1 86 (by decide) (by decide) (by decide) (by decide)
  obtain ⟨h1, h2, h3, h4, h5, h6⟩ := h
  refine ⟨⟨z_Inv_scr h1 (fun b b1 b2 b3 b4 => hf.1 b b4 b3 (fun q => b1 (by unfold z_scr; omega)) (fun q => b1 (by unfold z_scr; omega))) ?_ ⟨hf.2.2 8 (by decide) (by decide), hf.2.2 10 (by decide) (by decide), hf.2.2 11 (by decide) (by decide)⟩ hf.2.1 (hw 25 (by decide)), ?_, ?_, ?_, ?_, ?_⟩, e86⟩
  · rw [hf.1 84 (by decide) (by decide) (by decide) (by decide)]
    exact ⟨rfl, rfl, rfl, rfl, rfl⟩
  · rw [hf.1 1 (by decide) (by decide) (by decide) (by decide)]; exact h2
  · rw [e86]; exact h3
  · rw [e86]; exact h4
  · rw [e86]
    exact z_rd_eq h5 (hf.1 24 (by decide) (by decide) (by decide) (by decide)) (hf.1 26 (by decide) (by decide) (by decide) (by decide)) (hf.1 27 (by decide) (by decide) (by decide) (by decide)) hf.2.1 (fun b hb => hf.1 b (by omega) (by omega) (by omega) (by omega)) (hw 25 (by decide)) (by rw [hf.1 23 (by decide) (by decide) (by decide) (by decide)]) (fun b b1 b2 => hf.1 b (by omega) (by omega) (by omega) (by omega)) h3.1
  · rw [e86]
    exact z_gs_eq h6 ⟨hf.2.2 8 (by decide) (by decide), hf.2.2 10 (by decide) (by decide), hf.2.2 11 (by decide) (by decide)⟩ (fun b b1 b2 => hf.1 b (by omega) (by omega) (by omega) (by omega))
theorem z_cfB_iff {K : Nat → Int32} {cell col : Nat} {g : Nat → Int32} : z_cfB K L nv cell g col = true ↔ ∀ c, c < 36 → z_alt K L nv cell col c = g c := @decide_eq_true_iff _ (Classical.propDecidable _)
theorem z_cfB_eq {K : Nat → Int32} {cell : Nat} {g g' : Nat → Int32} (h : ∀ c, c < 36 → g c = g' c) : z_cfB K L nv cell g = z_cfB K L nv cell g' := by
  funext col
  have a := z_cfB_iff (L := L) (nv := nv) (K := K) (cell := cell) (col := col) (g := g)
  have b := z_cfB_iff (L := L) (nv := nv) (K := K) (cell := cell) (col := col) (g := g')
  have : z_cfB K L nv cell g col = true ↔ z_cfB K L nv cell g' col = true := by
    rw [a, b]
    exact ⟨fun q c hc => by rw [q c hc, h c hc], fun q c hc => by rw [q c hc, h c hc]⟩
  cases h1 : z_cfB K L nv cell g col with
  | true => rw [this.mp h1]
  | false =>
    cases h2 : z_cfB K L nv cell g' col with
    | true =>
      rw [this.mpr h2] at h1
      cases h1
    | false => rfl
/-- the reference's tries -/
theorem z_triesA (hS : z_S T r) (hK : z_Kr (i 86) nv) (hLk : z_Lk (i 86) L) (hp : z_pl i) {cell col : Nat} (hc : cell < 36) (hcol : col < 8) {Q : kw_I → Prop} (hQ : ∀ i', z_gr 98 i i' → (∀ c, c < 36 → i' 98 (36 * nv + c) = z_alt (i 86) L nv cell col c) → Q i') : w_X10_tries 84 (nI cell) (nI col) T n r i w Q := by
  refine z_tries (L := L) (S := 0) (Wf := z_W0 (i 86)) (fx := z_nofx) hS hK hLk (z_mv_plain hK hp) hp.2.2.2.2.2 (fun v c x _ _ q => by cases q) (fun c hc _ => ⟨col, hcol, rfl⟩) fun i' a1 a2 => hQ i' a1 fun c hc => ?_
  rw [a2 nv (Nat.le_refl _) c hc]
  refine z_go_eq (fun c hc => ?_) nv c hc
  by_cases y : c = cell
  · rw [if_pos (by rw [y]), if_pos y]
  · rw [if_neg (fun z => y ((nI_eq (by omega) (by omega)).mp z)), if_neg y]
theorem z_pl_gr {a : Nat} {i' : kw_I} (h : z_pl i) (hg : z_gr a i i') : z_pl i' := by
  unfold z_pl at h ⊢
  rw [hg.2 27 (by decide) (by decide) (by decide), hg.2 28 (by decide) (by decide) (by decide), hg.2 29 (by decide) (by decide) (by decide), hg.2 30 (by decide) (by decide) (by decide), hg.2 31 (by decide) (by decide) (by decide), hg.2 32 (by decide) (by decide) (by decide)]
  exact h
theorem z_Inv_gr {a : Nat} {i' : kw_I} (h : z_Inv T n r i w) (ha : 96 ≤ a ∧ a ≤ 98) (hg : z_gr a i i') : z_Inv T n r i' w := z_Inv_gz h (fun b b1 b2 _ _ => hg.1 b b1 (by omega) (by omega)) (fun f f1 f2 f3 _ _ => hg.2 f f1 f2 f3) rfl
theorem z_Inv_gp {i' : kw_I} (h : z_Inv T n r i w) (hg : z_gp i i') : z_Inv T n r i' w := z_Inv_gz h (fun b b1 _ _ _ => hg.1 b b1) (fun f _ _ _ f4 _ => hg.2 f (by omega)) rfl
end ZLO
theorem z_C23 : lw_C23 z_Inv := by
  intro T n r i w x h hn
  have hS := h.1
  refine z_isCell9 (fun b => z_t2 (z_weaveIf h fun r' i' w' nv L hf o86 o2 => ?_)) (fun b => z_f2 ⟨z_T84 hS, z_isCell10 (fun q => absurd q b) (fun _ => z_f2 ⟨rfl, z_N h⟩)⟩)
  obtain ⟨cell, hc, rfl⟩ := b
  have hS' := hf.1.1
  have e10 : r' 10 ((2 : Int32)).toNatClampNeg = 13 := z_r10_2 hS'
  rw [z_r1_0 hS', z_r2_1 hS', e10, z_r1_5 hS']
  refine ⟨z_T2 hS', z_kin (k := 2) (z_T10 hS') (by decide) (by decide), z_T52 hS', z_coloursFor (z_fr_rows hf) hf.2.2.2.2.1.2.1 hc (z_T13 hS') (by decide) fun i2 w2 a1 a2 => ⟨z_T84 hS', ?_⟩⟩
  obtain ⟨hf2, e86⟩ := z_fr_fe hf a1 a2
  have eg : z_cfB (i' 86) L nv cell (i' 13) = z_cfB (i2 86) L nv cell (fun c => i2 86 (132 + c)) := by
    rw [e86]
    exact z_cfB_eq (fun c hc => hf.1.2.2.1.1.2.1 2 c (by decide) hc)
  rw [eg]
  have ⟨R, hR⟩ : ∃ R, R = nI (z_bits (z_cfB (i2 86) L nv cell (fun c => i2 86 (132 + c))) 8) := ⟨_, rfl⟩
  rw [← hR]
  refine z_isCell10 (fun _ => z_t2 (z_plain fun j p1 p2 => ⟨9, ?_⟩)) (fun q => absurd ⟨cell, hc, rfl⟩ q)
  have Ij := z_Inv_gp hf2.1 p1
  have f86 : j 86 = i2 86 := p1.1 86 (by decide)
  have loop : ∀ (d col : Nat) (m : kw_I), col + d = 8 → z_Inv T n r' m w2 → m 86 = i2 86 → z_pl m → w_X10_could_17 84 (nI cell) T n r' w2 (fun v2 i3 => R = v2 ∧ lw_N z_Inv n T n r' i3 w2) (d + 1) (nI (z_bits (z_cfB (i2 86) L nv cell (fun c => i2 86 (132 + c))) col)) (nI col) m := by
    intro d
    induction d with
    | zero =>
      intro col m hd g1 g2 g3
      have : col = 8 := by omega
      subst this
      exact ⟨fun _ => ⟨hR, g1, by omega⟩, fun q => absurd (by decide) q⟩
    | succ d ih =>
      intro col m hd g1 g2 g3
      refine ⟨fun q => absurd q (nI_ge (b := 8) (by omega) (by decide)), fun _ => ?_⟩
      refine z_triesA (L := L) (nv := nv) hS' (by rw [g2]; exact hf2.2.2.1) (by rw [g2]; exact hf2.2.2.2.1) g3 hc (by omega) fun m2 b1 b2 => z_villages hS' ?_
      have m86 : m2 86 = i2 86 := (b1.1 86 (by decide) (by decide) (by decide)).trans g2
      rw [m86, hf2.2.2.1.2.1, z_r84_24 hS', z_r84_2 hS', show (36 : Int32) * nI nv = nI (36 * nv) from pk_mul 36 nv]
      have hn10 := hf2.2.2.1.1
      refine z_like10 (fb := 132) (z_T98 hS') (z_T86 hS') (by omega) (by omega) (by decide) (by decide) ?_
      have iff : z_lk (fun c => m2 98 (36 * nv + c)) (fun c => m2 86 (132 + c)) = 36 ↔ z_cfB (i2 86) L nv cell (fun c => i2 86 (132 + c)) col = true := by
        rw [z_lk_36, z_cfB_iff, m86]
        rw [g2] at b2
        exact ⟨fun y c hc => by rw [← b2 c hc]; exact y c hc, fun y c hc => by rw [b2 c hc]; exact y c hc⟩
      have lle := z_lk_le (fun c => m2 98 (36 * nv + c)) (fun c => m2 86 (132 + c))
      have nx := ih (col + 1) m2 (by omega) (z_Inv_gr g1 (by decide) b1) m86 (z_pl_gr g3 b1)
      have eb : z_bits (z_cfB (i2 86) L nv cell (fun c => i2 86 (132 + c))) (col + 1) = if z_cfB (i2 86) L nv cell (fun c => i2 86 (132 + c)) col = true then z_bits (z_cfB (i2 86) L nv cell (fun c => i2 86 (132 + c))) col ||| 2 ^ col else z_bits (z_cfB (i2 86) L nv cell (fun c => i2 86 (132 + c))) col := rfl
      rw [eb] at nx
      refine ⟨fun y => ?_, fun y => ?_⟩
      · show w_X10_could_17 84 (nI cell) T n r' w2 _ (d + 1) (nI _ ||| nI 0) (nI col + 1) m2
        rw [fa_or, Nat.or_zero, nI_1]
        rw [if_neg (fun z => y (by rw [iff.mpr z]; rfl))] at nx
        exact nx
      · show w_X10_could_17 84 (nI cell) T n r' w2 _ (d + 1) (nI _ ||| (1 : Int32) <<< (nI col &&& 31)) (nI col + 1) m2
        rw [z_one_shl (by omega), fa_or, nI_1]
        rw [if_pos (iff.mp ((nI_eq (b := 36) (by omega) (by decide)).mp y))] at nx
        exact nx
  exact loop 8 0 j (by omega) Ij f86 p2
theorem z_pop_bits (p : Nat → Bool) : z_pop (z_bits p 8) = fb_ct p 8 := by
  have hlt : z_bits p 8 < 2 ^ 8 := z_bits_lt p 8
  unfold z_pop
  rw [fb_ct_succ, fb_ct_succ, Nat.testBit_lt_two_pow (i := 8) hlt, Nat.testBit_lt_two_pow (i := 9) (by omega)]
  exact fb_ct_cong (fun k hk => z_bits_test p 8 k hk)
theorem z_C19 : lw_C19 z_Inv := by
  intro T n r i w x h hn
  have hS := h.1
  refine z_isCell9 (fun b => z_t2 (z_weaveIf h fun r' i' w' nv L hf o86 o2 => ?_)) (fun b => z_f2 ⟨z_T84 hS, z_isCell10 (fun q => absurd q b) (fun _ => z_f2 ⟨rfl, z_N h⟩)⟩)
  obtain ⟨cell, hc, rfl⟩ := b
  have hS' := hf.1.1
  rw [z_r1_4 hS', z_r1_5 hS']
  refine ⟨z_T23 hS', z_last hf fun ga t1 t2 t3 => ⟨z_T52 hS', z_coloursFor (z_fr_rows hf) hf.2.2.2.2.1.2.1 hc t1 (by have := hf.2.2.1.1; omega) fun i2 w2 a1 a2 => ?_⟩⟩
  obtain ⟨hf2, e86⟩ := z_fr_fe hf a1 a2
  have hn10 := hf2.2.2.1.1
  have eg : z_cfB (i' 86) L nv cell (i' ga) = z_cfB (i2 86) L nv cell (z_on (i2 86) L nv) := by
    rw [e86]
    exact z_cfB_eq t2
  rw [eg]
  have ⟨P, hP⟩ : ∃ P, P = z_cfB (i2 86) L nv cell (z_on (i2 86) L nv) := ⟨_, rfl⟩
  rw [← hP]
  -- the colour that it has
  obtain ⟨k0, hk0, ek0⟩ := hf2.2.2.1.2.2.2.1 0 cell (by decide) hc
  have ek0 : i2 86 (60 + cell) = nI k0 := ek0
  have P0 : P k0 = true := by
    rw [hP, z_cfB_iff]
    refine z_go_eq (fun c hc => ?_) nv
    show (if c = cell then nI k0 else i2 86 (60 + c)) = i2 86 (60 + c)
    by_cases y : c = cell
    · rw [if_pos y, y, ek0]
    · rw [if_neg y]
  have cnt := fb_ct_upd P false hk0
  rw [if_pos P0] at cnt
  have lt8 : z_bits P 8 < 2 ^ 8 := z_bits_lt P 8
  refine z_bitCount (by omega) ⟨z_T84 hS', ?_⟩
  have cnt2 : fb_ct P 8 = fb_ct (fun k => if k = k0 then false else P k) 8 + 1 := by
    have e0 : (if (false : Bool) = true then 1 else 0) = 0 := rfl
    rw [e0] at cnt
    omega
  rw [z_pop_bits, cnt2, z_m1]
  have ⟨R, hR⟩ : ∃ R, R = nI (fb_ct (fun k => if k = k0 then false else P k) 8) := ⟨_, rfl⟩
  rw [← hR]
  refine z_isCell10 (fun _ => z_t2 (z_looksF hf2 fun j q1 q2 q3 q4 q5 => ⟨9, ?_⟩)) (fun q => absurd ⟨cell, hc, rfl⟩ q)
  have loop : ∀ (d col : Nat) (m : kw_I), col + d = 8 → z_Inv T n r' m w2 → m 86 = i2 86 → m 96 = j 96 → z_pl m → w_X10_lost_17 84 (nI cell) T n r' w2 (fun v2 i3 => R = v2 ∧ lw_N z_Inv n T n r' i3 w2) (d + 1) (nI (fb_ct (fun k => if k = k0 then false else P k) col)) (nI col) m := by
    intro d
    induction d with
    | zero =>
      intro col m hd g1 g2 g4 g3
      have : col = 8 := by omega
      subst this
      exact ⟨fun _ => ⟨hR, g1, by omega⟩, fun q => absurd (by decide) q⟩
    | succ d ih =>
      intro col m hd g1 g2 g4 g3
      refine ⟨fun q => absurd q (nI_ge (b := 8) (by omega) (by decide)), fun _ => ?_⟩
      rw [z_r84_2 hS', show (60 : Int32) + nI cell = nI (60 + cell) from nI_add 60 cell, nI_clamp (by omega), g2, ek0]
      refine ⟨z_kin (z_T86 hS') (by omega) (by decide), fun ne => ?_, fun eq => ?_⟩
      · have hne : col ≠ k0 := fun q => ne (by rw [q])
        refine z_triesA (L := L) (nv := nv) hS' (by rw [g2]; exact hf2.2.2.1) (by rw [g2]; exact hf2.2.2.2.1) g3 hc (by omega) fun m2 b1 b2 => z_villages hS' (z_villages hS' ?_)
        have m86 : m2 86 = i2 86 := (b1.1 86 (by decide) (by decide) (by decide)).trans g2
        have m96 : m2 96 = j 96 := (b1.1 96 (by decide) (by decide) (by decide)).trans g4
        rw [m86, hf2.2.2.1.2.1, z_r84_24 hS', z_r84_22 hS', show (36 : Int32) * nI nv = nI (36 * nv) from pk_mul 36 nv]
        refine z_like10 (z_T98 hS') (z_T96 hS') (by omega) (by omega) (by decide) (by decide) ?_
        have iff : z_lk (fun c => m2 98 (36 * nv + c)) (fun c => m2 96 (36 * nv + c)) = 36 ↔ P col = true := by
          rw [z_lk_36, hP, z_cfB_iff, m96]
          rw [g2] at b2
          exact ⟨fun y c hc => by rw [← b2 c hc, y c hc, q5 nv (Nat.le_refl _) c hc], fun y c hc => by rw [b2 c hc, y c hc, q5 nv (Nat.le_refl _) c hc]⟩
        have lle := z_lk_le (fun c => m2 98 (36 * nv + c)) (fun c => m2 96 (36 * nv + c))
        have nx := ih (col + 1) m2 (by omega) (z_Inv_gr g1 (by decide) b1) m86 m96 (z_pl_gr g3 b1)
        rw [fb_ct_succ, if_neg hne] at nx
        refine ⟨fun y => ?_, fun y => ?_⟩
        · unfold w_X10_lost_75 w_X10_lost_77
          rw [show (0 : Int32) = nI 0 from rfl, nI_add, nI_1]
          rw [if_neg (fun z => y (by rw [iff.mpr z]; rfl))] at nx
          exact nx
        · unfold w_X10_lost_75 w_X10_lost_77
          rw [nI_1, nI_1]
          rw [if_pos (iff.mp ((nI_eq (b := 36) (by omega) (by decide)).mp y))] at nx
          exact nx
      · have he : col = k0 := (nI_eq (by omega) (by omega)).mp eq
        have nx := ih (col + 1) m (by omega) g1 g2 g4 g3
        rw [fb_ct_succ, if_pos he] at nx
        show w_X10_lost_17 84 (nI cell) T n r' w2 _ (d + 1) (nI _) (nI col + 1) m
        rw [nI_1]
        exact nx
  exact loop 8 0 j (by omega) q3 q4 rfl q2
