-- CALLS THAT CHANGE THE STATE
theorem z_Inv_now {T : kw_T} {n : Nat} {r : kw_R} {i i' : kw_I} {w : kw_L} (h : z_Inv T n r i w) (hi : ∀ b, b ≠ 1 → (b < 2 ∨ 15 < b) → b ≠ 18 → b ≠ 19 → b ≠ 84 → b ≠ 86 → b ≠ 90 → i' b = i b) (h12 : i' 1 12 = 1) (h36 : i' 84 36 = i 84 36) (hnow : z_now T n r i') (htp : z_tp (i' 18 1) (i' 19) (i' 84 9) (i' 90)) (hsc : z_sc (i' 1 9) (i' 1 10) (i' 1 11) (i' 83) (i' 84 0) (i' 84 5) (i' 84 10) (i' 85)) : z_Inv T n r i' w := by
  obtain ⟨c1, c2, -, c4, -, -, c7, c8, c9, -⟩ := h
  have o : ∀ b, 16 ≤ b → b ≠ 18 → b ≠ 19 → b ≠ 84 → b ≠ 86 → b ≠ 90 → i' b = i b := fun b b1 b2 b3 b4 b5 b6 => hi b (by omega) (by omega) b2 b3 b4 b5 b6
  have hd : ∀ b, 103 ≤ b → i' b = i b := fun b hb => o b (by omega) (by omega) (by omega) (by omega) (by omega) (by omega)
  refine ⟨c1, c2, hnow, z_im_eq c4 (o 87 (by decide) (by decide) (by decide) (by decide) (by decide) (by decide)) (o 88 (by decide) (by decide) (by decide) (by decide) (by decide) (by decide)) hd, htp, hsc, ?_, ?_, ?_, fun q => ?_⟩
  · obtain ⟨d, d1, d2, d3, d4⟩ := c7
    refine ⟨d, d1, by rw [o 70 (by decide) (by decide) (by decide) (by decide) (by decide) (by decide)]; exact d2, by rw [h36]; exact d3, fun v hv => ?_⟩
    rw [o 82 (by decide) (by decide) (by decide) (by decide) (by decide) (by decide), o 100 (by decide) (by decide) (by decide) (by decide) (by decide) (by decide), o 99 (by decide) (by decide) (by decide) (by decide) (by decide) (by decide), o (72 + v) (by omega) (by omega) (by omega) (by omega) (by omega) (by omega)]
    exact d4 v hv
  · rw [o 89 (by decide) (by decide) (by decide) (by decide) (by decide) (by decide)]
    exact c8
  · rw [o 24 (by decide) (by decide) (by decide) (by decide) (by decide) (by decide)]
    exact c9
  · rw [h12] at q
    exact absurd q (by decide)
theorem z_laws_K {T : kw_T} {n : Nat} {r : kw_R} {i i' : kw_I} {ro : Nat → Nat} {K K' : Nat → Int32} (h : z_laws T n r i ro K) (h179 : K' 179 = K 179) (h181 : ∀ k, 181 ≤ k → K' k = K k) (h180 : K' 180 = K 180 ∨ K' 180 = -1 ∨ ∃ f, (∀ nl, nl ≤ 6 → K 179 = nI nl → f < nl) ∧ K' 180 = nI f) (hi : ∀ b, 103 ≤ b → i' b = i b) : z_laws T n r i' ro K' := by
  obtain ⟨h1, nl, h2, h3, h4, h5⟩ := h
  refine ⟨h1, nl, h2, h179.trans h3, ?_, fun j hj => ?_⟩
  · rcases h180 with e | e | ⟨f, hf, e⟩
    · rw [e]
      exact h4
    · exact Or.inl e
    · exact Or.inr ⟨f, hf nl h2 h3, e⟩
  · obtain ⟨g1, L, g2, g3⟩ := h5 j hj
    have := g2.1
    exact ⟨g1, L, z_lw_eq g2 (fun _ _ _ => rfl) rfl (fun b b1 b2 => hi b (by omega)), z_toks_eq g3 (h181 _ (by omega)) (fun p _ => ⟨h181 _ (by omega), h181 _ (by omega)⟩)⟩
theorem z_SK_tr {i i' : kw_I} {K K' : Nat → Int32} (h : z_SK i 2 K) {v : Nat} (hv : v < 10) {p : Nat → Bool} {new : Nat → Int32} (hrow : ∀ j v', j < 6 → i' (4 + j) v' = if v' = v ∧ p j = true then new j else i (4 + j) v') (hK : ∀ q, q < 181 → q ≠ 178 → K' q = if (6 * v ≤ q ∧ q < 6 * v + 6) ∧ p (q - 6 * v) = true then new (q - 6 * v) else K q) (hrest : ∀ b, 11 ≤ b → b ≤ 15 → i' b = i b) (h5 : i' 2 5 = K' 178) (h6 : i' 2 6 = i 2 6) (h7 : i' 2 7 = i 2 7) : z_SK i' 2 K' := by
  obtain ⟨a1, a2, a3, a4, a5, a6, a7⟩ := h
  refine ⟨fun j v' hj hv' => ?_, fun q c hq hc => ?_, fun c hc => ?_, fun t ht => ?_, h5, ?_, ?_⟩
  · rw [show 2 + 2 + j = 4 + j by omega, hrow j v' hj, hK _ (by omega) (by omega)]
    by_cases e : v' = v
    · subst e
      rw [show 6 * v' + j - 6 * v' = j by omega]
      by_cases q : p j = true
      · rw [if_pos ⟨rfl, q⟩, if_pos ⟨by omega, q⟩]
      · rw [if_neg (fun z => q z.2), if_neg (fun z => q z.2)]
        exact a1 j v' hj hv'
    · rw [if_neg (fun z => e z.1), if_neg (fun z => by omega)]
      exact a1 j v' hj hv'
  · rw [hrest _ (by omega) (by omega), hK _ (by omega) (by omega), if_neg (fun z => by omega)]; exact a2 q c hq hc
  · rw [hrest _ (by omega) (by omega), hK _ (by omega) (by omega), if_neg (fun z => by omega)]; exact a3 c hc
  · rw [hrest _ (by omega) (by omega), hK _ (by omega) (by omega), if_neg (fun z => by omega)]; exact a4 t ht
  · rw [h6, hK _ (by omega) (by omega), if_neg (fun z => by omega)]; exact a6
  · rw [h7, hK _ (by omega) (by omega), if_neg (fun z => by omega)]; exact a7
def z_str (a b : Int32) : Prop := ∃ x wd, 1 ≤ wd ∧ x + wd ≤ 6 ∧ a = nI x ∧ b = nI wd
section ZST
variable {T : kw_T} {n : Nat} {r : kw_R} {i : kw_I} {w : kw_L} {x1 x2 x3 x4 : Int32} {nv : Nat}
theorem z_isStr9 {Q : Int32 → Prop} (ht : z_str x1 x2 → Q 1) (hf : ¬ z_str x1 x2 → Q 0) : w_X9_isStretch x1 x2 T n r i w Q := by
  have pos : z_str x1 x2 → ¬ x1 < 0 ∧ ¬ (6 : Int32) ≤ x1 ∧ ¬ x2 < 1 ∧ ¬ (6 : Int32) < x2 ∧ ¬ (6 : Int32) < x1 + x2 := by
    rintro ⟨x, wd, h1, h2, rfl, rfl⟩
    refine ⟨nI_pos (by omega), nI_ge (b := 6) (by omega) (by decide), nI_nlt (b := 1) (by omega) (by omega), nI_nlt (a := 6) (by omega) (by decide), ?_⟩
    rw [nI_add]
    exact nI_nlt (a := 6) (by omega) (by decide)
  refine ⟨fun h => hf (fun c => (pos c).1 h), fun h1 => ⟨fun h => hf (fun c => (pos c).2.1 h), fun h2 => ⟨fun h => hf (fun c => (pos c).2.2.1 h), fun h3 => ⟨fun h => hf (fun c => (pos c).2.2.2.1 h), fun h4 => ⟨fun h => hf (fun c => (pos c).2.2.2.2 h), fun h5 => ht ?_⟩⟩⟩⟩⟩
  obtain ⟨x, hx, rfl⟩ := nI_of h1
  have b2 : ¬ x2 < 0 := by
    rw [fa_lt] at h3 ⊢
    have e1 : (1 : Int32).toInt = 1 := by decide
    have e0 : (0 : Int32).toInt = 0 := by decide
    omega
  obtain ⟨wd, hw, rfl⟩ := nI_of b2
  have g2 : x < 6 := by
    rcases Nat.lt_or_ge x 6 with q | q
    · exact q
    · exact absurd (nI_le (a := 6) q hx) h2
  have g4 : wd ≤ 6 := by
    rcases Nat.lt_or_ge 6 wd with q | q
    · exact absurd (nI_lt (a := 6) q hw) h4
    · exact q
  have g3 : 1 ≤ wd := by
    rcases Nat.lt_or_ge wd 1 with q | q
    · exact absurd (nI_lt (b := 1) q (by decide)) h3
    · exact q
  rw [nI_add] at h5
  refine ⟨x, wd, g3, ?_, rfl, rfl⟩
  rcases Nat.lt_or_ge 6 (x + wd) with q | q
  · exact absurd (nI_lt (a := 6) q (by omega)) h5
  · exact q
theorem z_isK9 {Q : Int32 → Prop} (ht : z_str x1 x3 → z_str x2 x4 → Q 1) (hf : ¬ (z_str x1 x3 ∧ z_str x2 x4) → Q 0) : w_X9_isKeyhole x1 x2 x3 x4 T n r i w Q :=
  z_isStr9 (fun a => z_t (z_isStr9 (fun b => z_t (ht a b)) (fun b => z_f (hf (fun q => b q.2))))) (fun a => z_f (hf (fun q => a q.1)))
theorem z_lies16 {x : Int32} {Q : Int32 → Prop} (ht : (∃ k, 1 ≤ k ∧ k ≤ 6 ∧ x = nI k) → Q 1) (hf : ¬ (∃ k, 1 ≤ k ∧ k ≤ 6 ∧ x = nI k) → Q 0) : w_X10_lies x 1 6 T n r i w Q := by
  by_cases hb : ∃ k, 1 ≤ k ∧ k ≤ 6 ∧ x = nI k
  · obtain ⟨k, h1, h2, e⟩ := hb
    refine z_lies_t ?_ ?_ (ht ⟨k, h1, h2, e⟩)
    · rw [e]; exact nI_nlt (b := 1) h1 (by omega)
    · rw [e]; exact nI_nlt (a := 6) h2 (by decide)
  · refine z_lies_f ?_ (hf hb)
    by_cases h1 : x < 1
    · exact Or.inl h1
    · by_cases h2 : 6 < x
      · exact Or.inr h2
      · exfalso
        have b2 : ¬ x < 0 := by
          rw [fa_lt] at h1 ⊢
          have e1 : (1 : Int32).toInt = 1 := by decide
          have e0 : (0 : Int32).toInt = 0 := by decide
          omega
        obtain ⟨k, hk, rfl⟩ := nI_of b2
        refine hb ⟨k, ?_, ?_, rfl⟩
        · rcases Nat.lt_or_ge k 1 with q | q
          · exact absurd (nI_lt (b := 1) q (by decide)) h1
          · exact q
        · rcases Nat.lt_or_ge 6 k with q | q
          · exact absurd (nI_lt (a := 6) q hk) h2
          · exact q
theorem z_isH10 {Q : Int32 → Prop} (ht : z_str x1 x3 → z_str x2 x4 → Q 1) (hf : ¬ (z_str x1 x3 ∧ z_str x2 x4) → Q 0) : w_X10_isHole x1 x2 x3 x4 T n r i w Q := by
  refine z_lies16 (fun a => z_t (z_lies16 (fun b => z_t ?_) (fun b => z_f (hf ?_)))) (fun a => z_f (hf ?_))
  · obtain ⟨wd, a1, a2, rfl⟩ := a
    obtain ⟨tl, b1, b2, rfl⟩ := b
    have e1 : (6 : Int32) - nI wd = nI (6 - wd) := pk_sub (a := 6) a2
    have e2 : (6 : Int32) - nI tl = nI (6 - tl) := pk_sub (a := 6) b2
    rw [e1, e2]
    have st : ∀ (y : Int32) (d : Nat), 1 ≤ d → d ≤ 6 → (z_str y (nI d) ↔ z_B y (6 - d + 1)) := by
      intro y d d1 d2
      constructor
      · rintro ⟨x, wd, h1, h2, rfl, e⟩
        have := (nI_eq (by omega) (by omega)).mp e
        exact ⟨x, by omega, rfl⟩
      · rintro ⟨x, h1, rfl⟩
        exact ⟨x, d, d1, by omega, rfl, rfl⟩
    refine z_lies (by omega) (fun c => z_t (z_lies (by omega) (fun d => z_t (ht ((st _ _ a1 a2).mpr c) ((st _ _ b1 b2).mpr d))) (fun d => z_f (hf (fun q => d ((st _ _ b1 b2).mp q.2)))))) (fun c => z_f (hf (fun q => c ((st _ _ a1 a2).mp q.1))))
  · rintro ⟨-, x, wd, h1, h2, -, e⟩
    exact b ⟨wd, h1, by omega, e⟩
  · rintro ⟨⟨x, wd, h1, h2, -, e⟩, -⟩
    exact a ⟨wd, h1, by omega, e⟩
theorem z_setKey (hS : z_S T r) {v : Nat} (hv : v < 10) {Q : kw_I → Prop} (hQ : Q (kw_st (kw_st (kw_st (kw_st i 4 v x1) 5 v x2) 6 v x3) 7 v x4)) : w_X6_setKeyhole 2 (nI v) x1 x2 x3 x4 T n r i w Q := by
  unfold w_X6_setKeyhole
  have r0 : r 3 ((0 : Int32)).toNatClampNeg = 4 := z_r3_0 hS
  have r1 : r 3 ((1 : Int32)).toNatClampNeg = 5 := z_r3_1 hS
  have r2 : r 3 ((2 : Int32)).toNatClampNeg = 6 := z_r3_2 hS
  have r3 : r 3 ((3 : Int32)).toNatClampNeg = 7 := z_r3_3 hS
  have k5 : ∀ k, k < 6 → kw_in T 5 3 (nI k) := fun k hk => z_kin (z_T3 hS) hk (by decide)
  rw [z_r2_0 hS, r0, r1, r2, r3, nI_clamp (by omega)]
  refine ⟨k5 0 (by decide), z_kin (z_T4 hS) hv (by decide), fun i1 e1 => ⟨k5 1 (by decide), z_kin (z_T5 hS) hv (by decide), fun i2 e2 => ⟨k5 2 (by decide), z_kin (z_T6 hS) hv (by decide), fun i3 e3 => ⟨k5 3 (by decide), z_kin (z_T7 hS) hv (by decide), fun i4 e4 => ?_⟩⟩⟩⟩
  rw [e4, e3, e2, e1]
  exact hQ
theorem z_cuts (hS : z_S T r) {v : Nat} (hv : v < 10) {Q : kw_I → Prop} (hQ : Q (kw_st (kw_st (kw_st (kw_st i 86 (6 * v) x1) 86 (6 * v + 1) x2) 86 (6 * v + 2) x3) 86 (6 * v + 3) x4)) : w_X10_cuts 84 (nI v) x1 x2 x3 x4 T n r i w Q := by
  unfold w_X10_cuts
  have e0 : (6 : Int32) * nI v = nI (6 * v) := pk_mul 6 v
  have e1 : nI (6 * v) + (1 : Int32) = nI (6 * v + 1) := nI_add _ 1
  have e2 : nI (6 * v) + (2 : Int32) = nI (6 * v + 2) := nI_add _ 2
  have e3 : nI (6 * v) + (3 : Int32) = nI (6 * v + 3) := nI_add _ 3
  rw [e0, e1, e2, e3, z_r84_2 hS, nI_clamp (by omega), nI_clamp (by omega), nI_clamp (by omega), nI_clamp (by omega)]
  have k86 : ∀ k, k < 4987 → kw_in T 1 86 (nI k) := fun k hk => z_kin (z_T86 hS) hk (by decide)
  refine ⟨k86 _ (by omega), fun i1 q1 => ⟨k86 _ (by omega), fun i2 q2 => ⟨k86 _ (by omega), fun i3 q3 => ⟨k86 _ (by omega), fun i4 q4 => ?_⟩⟩⟩⟩
  rw [q4, q3, q2, q1]
  exact hQ
end ZST
def z_new (x1 x2 x3 x4 x5 x6 : Int32) (j : Nat) : Int32 := if j = 0 then x1 else if j = 1 then x2 else if j = 2 then x3 else if j = 3 then x4 else if j = 4 then x5 else x6
theorem z_C0 : lw_C0 z_Inv := by
  intro T n r i w x1 x2 x3 x4 h hn
  have hS := h.1
  have h0 := z_T84 hS
  obtain ⟨nv, hv, e1, e2, hK⟩ := z_Inv_nv h
  unfold w_X9_village
  rw [z_r1_0 hS, e2]
  refine z_isK9 (fun a b => z_t2 ⟨z_T2 hS, fun c => ?_, fun c => ?_⟩) (fun a => z_f2 ?_)
  · have hlt : nv < 10 := (nI_ltI (b := 10) (by omega) (by decide)).mp c
    intro i55 e55
    refine z_setKey hS hlt ?_
    have r4 : r 3 ((4 : Int32)).toNatClampNeg = 8 := z_r3_4 hS
    have r5 : r 3 ((5 : Int32)).toNatClampNeg = 9 := z_r3_5 hS
    have k5 : ∀ k, k < 6 → kw_in T 5 3 (nI k) := fun k hk => z_kin (z_T3 hS) hk (by decide)
    rw [z_r2_0 hS, r4, r5, nI_clamp (by omega)]
    refine ⟨k5 4 (by decide), z_kin (z_T8 hS) hlt (by decide), fun i84 e84 => ⟨k5 5 (by decide), z_kin (z_T9 hS) hlt (by decide), fun i99 e99 j1 q1 j2 q2 => ⟨h0, ?_⟩⟩⟩
    have o86 : j2 86 = i 86 := by rw [q2, q1, e99, e84, e55]; simp [kw_st_offF]
    have o84 : j2 84 = i 84 := by rw [q2, q1, e99, e84, e55]; simp [kw_st_offF]
    refine z_isH10 (fun _ _ => z_t2 (z_villages hS ?_)) (fun q => absurd ⟨a, b⟩ q)
    rw [o86, e1]
    refine ⟨fun _ => z_cuts hS hlt ?_, fun e => absurd ((nI_eq (b := 10) (by omega) (by decide)).mp e) (by omega)⟩
    have m4 : (6 : Int32) * nI nv + (4 : Int32) = nI (6 * nv + 4) := by rw [show (6 : Int32) = nI 6 from rfl, pk_mul]; exact nI_add _ 4
    have m5 : (6 : Int32) * nI nv + (5 : Int32) = nI (6 * nv + 5) := by rw [show (6 : Int32) = nI 6 from rfl, pk_mul]; exact nI_add _ 5
    rw [z_r84_2 hS, m4, m5, nI_clamp (by omega), nI_clamp (by omega)]
    have k86 : ∀ k, k < 4987 → kw_in T 1 86 (nI k) := fun k hk => z_kin (z_T86 hS) hk (by decide)
    refine ⟨k86 _ (by omega), fun i60 e60 => ⟨k86 _ (by omega), fun i75 e75 => ⟨k86 178 (by decide), k86 178 (by decide), fun i87 e87 i91 e91 => ⟨rfl, ?_, by omega⟩⟩⟩⟩
    have K' : ∀ q, i91 86 q = if q = 178 then nI (nv + 1) else if 6 * nv ≤ q ∧ q < 6 * nv + 6 then z_new x1 x2 x3 x4 0 255 (q - 6 * nv) else i 86 q := by
      intro q
      have e178 : i75 86 178 = nI nv := by
        rw [e75, e60]
        simp only [kw_st_row, o86]
        rw [if_neg (by omega), if_neg (by omega), if_neg (by omega), if_neg (by omega), if_neg (by omega), if_neg (by omega)]
        exact e1
      have : i91 86 q = if q = 178 then nI nv + 1 else i75 86 q := by
        rw [e91, kw_st_off (by decide), e87]
        have : ((178 : Int32)).toNatClampNeg = 178 := rfl
        rw [this, kw_st_row, e178]
      rw [this, nI_1]
      by_cases c1 : q = 178
      · rw [if_pos c1, if_pos c1]
      · rw [if_neg c1, if_neg c1, e75, e60]
        simp only [kw_st_row, o86]
        unfold z_new
        by_cases c2 : 6 * nv ≤ q ∧ q < 6 * nv + 6
        · rw [if_pos c2]
          rcases (show q = 6 * nv ∨ q = 6 * nv + 1 ∨ q = 6 * nv + 2 ∨ q = 6 * nv + 3 ∨ q = 6 * nv + 4 ∨ q = 6 * nv + 5 by omega) with e | e | e | e | e | e <;> subst e <;> simp
        · rw [if_neg c2, if_neg (by omega), if_neg (by omega), if_neg (by omega), if_neg (by omega), if_neg (by omega), if_neg (by omega)]
    have rows : ∀ b, b ≠ 84 → b ≠ 86 → i91 b = j2 b := fun b b1 b2 => by
      rw [e91, kw_st_offF b1, e87, kw_st_offF b2, e75, kw_st_offF b2, e60, kw_st_offF b2, kw_st_offF b2, kw_st_offF b2, kw_st_offF b2, kw_st_offF b2]
    have tr : ∀ j v', j < 6 → i91 (4 + j) v' = if v' = nv ∧ (fun _ => true) j = true then z_new x1 x2 x3 x4 0 255 j else i (4 + j) v' := by
      intro j v' hj
      rw [rows _ (by omega) (by omega), q2, q1, e99, e84, e55]
      by_cases ev : v' = nv
      · rw [if_pos ⟨ev, rfl⟩, ev]
        rcases (show j = 0 ∨ j = 1 ∨ j = 2 ∨ j = 3 ∨ j = 4 ∨ j = 5 by omega) with rfl | rfl | rfl | rfl | rfl | rfl <;> simp [kw_st, z_new]
      · rw [if_neg (fun z => ev z.1)]
        rcases (show j = 0 ∨ j = 1 ∨ j = 2 ∨ j = 3 ∨ j = 4 ∨ j = 5 by omega) with rfl | rfl | rfl | rfl | rfl | rfl <;> simp [kw_st, ev]
    have old : ∀ b, b ≠ 1 → b ≠ 2 → (b < 4 ∨ 9 < b) → b ≠ 84 → b ≠ 86 → i91 b = i b := fun b b1 b2 b3 b4 b5 => by
      rw [rows b b4 b5, q2, kw_st_offF b1, q1, kw_st_offF b1, e99, kw_st_offF (by omega), e84, kw_st_offF (by omega), kw_st_offF (by omega), kw_st_offF (by omega), kw_st_offF (by omega), kw_st_offF (by omega), e55, kw_st_offF b2]
    have f1 : ∀ f, f ≠ 9 → f ≠ 12 → i91 1 f = i 1 f := fun f f1 f2 => by
      rw [rows 1 (by decide) (by decide), q2, kw_st_row, if_neg f1, q1, kw_st_row, if_neg f2, e99, e84, e55]
      simp [kw_st]
    have f84 : ∀ f, f ≠ 0 → i91 84 f = i 84 f := fun f f1 => by
      rw [e91, kw_st_row, if_neg f1, e87, e75, e60]
      simp only [kw_st_off (a := 86) (b := 84) (by decide)]
      rw [o84]
    have f2 : ∀ f, f ≠ 5 → i91 2 f = i 2 f := fun f f1 => by
      rw [rows 2 (by decide) (by decide), q2, q1, e99, e84, e55]
      simp [kw_st, f1]
    have f25 : i91 2 5 = nI (nv + 1) := by
      rw [rows 2 (by decide) (by decide), q2, q1, e99, e84, e55, nI_1]
      simp [kw_st]
    have s19 : i91 1 9 = 0 := by rw [rows 1 (by decide) (by decide), q2, kw_st_same]
    have s840 : i91 84 0 = 0 := by rw [e91, kw_st_same]
    obtain ⟨n1, -, n3⟩ := h.2.2.1
    refine z_Inv_now h (fun b b1 b2 b3 b4 b5 b6 b7 => old b b1 (by omega) (by omega) b5 b6) ?_ (f84 36 (by decide)) ⟨?_, ⟨nv + 1, ?_⟩, ?_⟩ ?_ ?_
    · rw [rows 1 (by decide) (by decide), q2, kw_st_row, if_neg (by decide), q1, kw_st_same]
    · refine z_SK_tr n1 hlt (p := fun _ => true) tr (fun q hq1 hq2 => ?_) (fun b b1 b2 => old b (by omega) (by omega) (by omega) (by omega) (by omega)) ?_ (f2 6 (by decide)) (f2 7 (by decide))
      · rw [K' q, if_neg hq2]
        by_cases c2 : 6 * nv ≤ q ∧ q < 6 * nv + 6
        · rw [if_pos c2, if_pos ⟨c2, rfl⟩]
        · rw [if_neg c2, if_neg (fun z => c2 z.1)]
      · rw [f25, K', if_pos rfl]
    · obtain ⟨k1, k2, k3, k4, k5', k6, k7⟩ := hK
      refine ⟨by omega, by rw [K', if_pos rfl], fun v hv' => ?_, fun q c hq hc => ?_, fun c hc => ?_, ?_, ?_⟩
      · have ee : ∀ j, j < 6 → i91 86 (6 * v + j) = if v = nv then z_new x1 x2 x3 x4 0 255 j else i 86 (6 * v + j) := by
          intro j hj
          rw [K', if_neg (by omega)]
          by_cases ev : v = nv
          · subst ev
            rw [if_pos (by omega), if_pos rfl, show 6 * v + j - 6 * v = j by omega]
          · rw [if_neg (by omega), if_neg ev]
        have e0 := ee 0 (by decide)
        rw [show 6 * v + 0 = 6 * v by omega] at e0
        rw [e0, ee 1 (by decide), ee 2 (by decide), ee 3 (by decide), ee 4 (by decide), ee 5 (by decide)]
        by_cases ev : v = nv
        · simp only [if_pos ev]
          obtain ⟨x, wd, a1, a2, a3, a4⟩ := a
          obtain ⟨y, tl, b1, b2, b3, b4⟩ := b
          exact ⟨⟨x, y, wd, tl, a1, b1, a2, b2, a3, b3, a4, b4⟩, ⟨0, by decide, rfl⟩, 255, by decide, by decide, rfl⟩
        · simp only [if_neg ev]
          exact k3 v (by omega)
      · rw [K', if_neg (by omega), if_neg (by omega)]; exact k4 q c hq hc
      · rw [K', if_neg (by omega), if_neg (by omega)]; exact k5' c hc
      · rw [K', if_neg (by omega), if_neg (by omega)]; exact k6
      · rw [K', if_neg (by omega), if_neg (by omega)]; exact k7
    · exact z_laws_K n3 (by rw [K', if_neg (by omega), if_neg (by omega)]) (fun k hk => by rw [K', if_neg (by omega), if_neg (by omega)]) (Or.inl (by rw [K', if_neg (by omega), if_neg (by omega)])) (fun b hb => old b (by omega) (by omega) (by omega) (by omega) (by omega))
    · rw [old 18 (by decide) (by decide) (by decide) (by decide) (by decide), old 19 (by decide) (by decide) (by decide) (by decide) (by decide), f84 9 (by decide), old 90 (by decide) (by decide) (by decide) (by decide) (by decide)]
      exact h.2.2.2.2.1
    · obtain ⟨s1, s2, s3, s4⟩ := h.2.2.2.2.2.1
      rw [s19, s840, f1 10 (by decide) (by decide), f1 11 (by decide) (by decide), old 83 (by decide) (by decide) (by decide) (by decide) (by decide), f84 5 (by decide), f84 10 (by decide), old 85 (by decide) (by decide) (by decide) (by decide) (by decide)]
      exact ⟨rfl, s2, s3, s4⟩
  · have h10 : nv = 10 := by
      rcases Nat.lt_or_ge nv 10 with q | q
      · exact absurd (nI_lt (b := 10) q (by decide)) c
      · omega
    refine z_refb h (x := -5) (k := 2) (k' := 5) (Or.inr (Or.inr (Or.inl ⟨rfl, rfl, rfl⟩))) (m10 := fun i1 Q => w_X10_village 84 x1 x2 x3 x4 T n r i1 w Q) (fun i1 Q o hQ => ?_)
    refine z_isH10 (fun _ _ => z_t2 (z_villages hS ?_)) (fun q => absurd ⟨a, b⟩ q)
    rw [o 86 (by decide) (by decide), e1, h10]
    exact ⟨fun e => absurd rfl e, fun _ => z_ref10e hS (Or.inr (Or.inr (Or.inl ⟨rfl, rfl, rfl⟩))) (k := 2) hQ⟩
  · refine z_refb h (x := -1) (k := 0) (k' := 1) (Or.inl ⟨rfl, rfl, rfl⟩) (m10 := fun i1 Q => w_X10_village 84 x1 x2 x3 x4 T n r i1 w Q) (fun i1 Q o hQ => ?_)
    exact z_isH10 (fun p q => absurd ⟨p, q⟩ a) (fun _ => z_f2 (z_ref10e hS (Or.inl ⟨rfl, rfl, rfl⟩) (k := 0) hQ))
