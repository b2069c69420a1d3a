theorem z_C7 : lw_C7 z_Inv := by
  intro T n r i w x1 x2 h hn
  have hS := h.1
  have h0 := z_T84 hS
  obtain ⟨nv, hv, e1, e2, hK⟩ := z_Inv_nv h
  have k86 : ∀ k, k < 4987 → kw_in T 1 86 (nI k) := fun k hk => z_kin (z_T86 hS) hk (by decide)
  have bad : ¬ ((x1 = 0 ∧ z_B x2 101) ∨ (x1 = 1 ∧ z_B x2 100)) → w_X9_refuse 1 (-1) T n r i w (fun v i1 => T 84 = (0, 10) ∧ w_X10_terms 84 x1 x2 T n r i1 w (fun v2 i2 => v = v2 ∧ lw_N z_Inv n T n r i2 w)) := by
    intro hb
    refine z_refb h z_rf1 (m10 := fun i1 Q => w_X10_terms 84 x1 x2 T n r i1 w Q) (fun i1 Q o hQ => ?_)
    refine z_lies (m := 1) (by decide) (fun a => z_t ⟨fun e => ?_, fun e => ?_⟩) (fun _ => z_f (z_ref10e hS z_rf1 hQ))
    · obtain ⟨k, hk, rfl⟩ := a
      have : k = 1 := by
        rcases (show k = 0 ∨ k = 1 by omega) with rfl | rfl
        · exact absurd rfl e
        · rfl
      subst this
      exact z_lies (m := 99) (by decide) (fun q => absurd (Or.inr ⟨rfl, q⟩) hb) (fun _ => z_f2 (z_ref10e hS z_rf1 hQ))
    · exact z_lies (m := 100) (by decide) (fun q => absurd (Or.inl ⟨e, q⟩) hb) (fun _ => z_f2 (z_ref10e hS z_rf1 hQ))
  have good : ∀ k : Nat, k < 2 → x1 = nI k → (k = 0 → z_B x2 101) → (k = 1 → z_B x2 100) → w_X9_terms_57 1 x1 x2 T n r w (fun v i1 => T 84 = (0, 10) ∧ w_X10_terms 84 x1 x2 T n r i1 w (fun v2 i2 => v = v2 ∧ lw_N z_Inv n T n r i2 w)) i := by
    intro k hk ek t0 t1
    subst ek
    unfold w_X9_terms_57
    rw [z_r1_0 hS, z_r2_3 hS, nI_clamp (by omega)]
    have k15 : kw_in T 1 15 (nI k) := z_kin (z_T15 hS) hk (by decide)
    refine ⟨z_T2 hS, k15, k15, fun i40 e40 j1 q1 j2 q2 => ⟨h0, ?_⟩⟩
    have o86 : j2 86 = i 86 := by rw [q2, q1, e40, kw_st_offF (by decide), kw_st_offF (by decide), kw_st_offF (by decide)]
    have o84 : j2 84 = i 84 := by rw [q2, q1, e40, kw_st_offF (by decide), kw_st_offF (by decide), kw_st_offF (by decide)]
    have fin : ∀ m : Nat, m < 1000 → z_B x2 (m + 1) → w_X10_terms_22 84 (nI k) x2 T n r w (fun v2 i2 => i 15 k = v2 ∧ lw_N z_Inv n T n r i2 w) x2 0 (nI m) j2 := by
      intro m hm hb
      refine z_lies (by omega) (fun _ => z_t2 ?_) (fun q => absurd hb q)
      have e176 : (176 : Int32) + nI k = nI (176 + k) := nI_add 176 k
      rw [e176, z_r84_2 hS, nI_clamp (by omega), o86]
      refine ⟨k86 _ (by omega), k86 _ (by omega), fun i42 e42 i9 e9 => ⟨h.2.2.1.1.2.2.2.1 k hk, ?_, by omega⟩⟩
      have K' : ∀ p, i9 86 p = if p = 176 + k then x2 else i 86 p := by
        intro p
        rw [e9, kw_st_off (by decide), e42, kw_st_row, o86]
      have rows : ∀ b, b ≠ 84 → b ≠ 86 → i9 b = j2 b := fun b b1 b2 => by rw [e9, kw_st_offF b1, e42, kw_st_offF b2]
      have old : ∀ b, b ≠ 1 → b ≠ 15 → b ≠ 84 → b ≠ 86 → i9 b = i b := fun b b1 b3 b4 b5 => by
        rw [rows b b4 b5, q2, kw_st_offF b1, q1, kw_st_offF b1, e40, kw_st_offF b3]
      have r15 : ∀ p, i9 15 p = if p = k then x2 else i 15 p := fun p => by
        rw [rows _ (by decide) (by decide), q2, kw_st_off (by decide), q1, kw_st_off (by decide), e40, kw_st_row]
      have kk : ∀ p, p ≠ 176 + k → i9 86 p = i 86 p := fun p hp => by rw [K', if_neg hp]
      obtain ⟨s1, s2, s3, s4, s5, s6, s7⟩ := h.2.2.1.1
      refine z_Inv_ch h (fun b b1 b2 b4 b5 => old b b1 (by omega) b4 b5) ?_ ?_ (fun f f1 f2 => ?_) ?_ (fun f f1 => ?_) ⟨?_, ?_, ?_, ?_, ?_, ?_, ?_⟩ ⟨nv, ?_⟩ (kk 179 (by omega)) (fun k hk => kk k (by omega)) (Or.inl (kk 180 (by omega)))
      · rw [rows 1 (by decide) (by decide), q2, kw_st_row, if_neg (by decide), q1, kw_st_same]
      · rw [rows 1 (by decide) (by decide), q2, kw_st_same]
      · rw [rows 1 (by decide) (by decide), q2, kw_st_row, if_neg f1, q1, kw_st_row, if_neg f2, e40, kw_st_off (by decide)]
      · rw [e9, kw_st_same]
      · rw [e9, kw_st_row, if_neg f1, e42, kw_st_off (by decide), o84]
      · intro j v hj hv'
        rw [old _ (by omega) (by omega) (by omega) (by omega), kk _ (by omega)]
        exact s1 j v hj hv'
      · intro q' c' hq' hc'
        rw [old _ (by omega) (by omega) (by omega) (by omega), kk _ (by omega)]
        exact s2 q' c' hq' hc'
      · intro c' hc'
        rw [old _ (by omega) (by omega) (by omega) (by omega), kk _ (by omega)]
        exact s3 c' hc'
      · intro t ht
        rw [show 2 + 13 = 15 by omega, r15, K']
        by_cases et : t = k
        · rw [if_pos et, if_pos (by omega)]
        · rw [if_neg et, if_neg (by omega)]
          exact s4 t ht
      · rw [old 2 (by decide) (by decide) (by decide) (by decide), kk 178 (by omega)]; exact s5
      · rw [old 2 (by decide) (by decide) (by decide) (by decide), kk 179 (by omega)]; exact s6
      · rw [old 2 (by decide) (by decide) (by decide) (by decide), kk 180 (by omega)]; exact s7
      · obtain ⟨k1, k2, k3, k4, k5', k6, k7⟩ := hK
        refine ⟨k1, by rw [kk 178 (by omega)]; exact k2, fun v' hv' => ?_, fun q' c' hq' hc' => by rw [kk _ (by omega)]; exact k4 q' c' hq' hc', fun c hc => by rw [kk _ (by omega)]; exact k5' c hc, ?_, ?_⟩
        · rw [kk _ (by omega), kk _ (by omega), kk _ (by omega), kk _ (by omega), kk _ (by omega), kk _ (by omega)]
          exact k3 v' hv'
        · rw [K']
          by_cases et : 176 = 176 + k
          · rw [if_pos et]
            exact t0 (by omega)
          · rw [if_neg et]
            exact k6
        · rw [K']
          by_cases et : 177 = 176 + k
          · rw [if_pos et]
            exact t1 (by omega)
          · rw [if_neg et]
            exact k7
    refine z_lies (m := 1) (by decide) (fun _ => z_t ⟨fun e => ?_, fun e => ?_⟩) (fun q => absurd ⟨k, by omega, rfl⟩ q)
    · have : k = 1 := by
        rcases (show k = 0 ∨ k = 1 by omega) with rfl | rfl
        · exact absurd rfl e
        · rfl
      subst this
      exact fin 99 (by decide) (t1 rfl)
    · have : k = 0 := (nI_eq (b := 0) (by omega) (by decide)).mp e
      subst this
      exact fin 100 (by decide) (t0 rfl)
  have B101 := z_B_le (x := x2) (m := 100) (by decide)
  have B100 := z_B_le (x := x2) (m := 99) (by decide)
  have c40 : ∀ x3 s0 : Int32, ((x3 = 1 ∧ x1 = 0 ∧ z_B x2 101) ∨ (x3 = 0 ∧ s0 = 1 ∧ x1 = 1 ∧ z_B x2 100) ∨ (x3 = 0 ∧ s0 = 0 ∧ ¬ ((x1 = 0 ∧ z_B x2 101) ∨ (x1 = 1 ∧ z_B x2 100)))) → w_X9_terms_40 1 x1 x2 T n r w (fun v i1 => T 84 = (0, 10) ∧ w_X10_terms 84 x1 x2 T n r i1 w (fun v2 i2 => v = v2 ∧ lw_N z_Inv n T n r i2 w)) x3 s0 i := by
    intro x3 s0 hx
    refine ⟨fun c => ?_, fun c => ⟨fun c2 => ?_, fun c2 => ?_⟩⟩
    · rcases hx with ⟨_, q, t⟩ | ⟨q, _⟩ | ⟨q, _⟩
      · exact good 0 (by decide) q (fun _ => t) (fun z => by omega)
      · exact absurd q c
      · exact absurd q c
    · rcases hx with ⟨q, _⟩ | ⟨_, _, q, t⟩ | ⟨_, q, _⟩
      · rw [c] at q
        exact absurd q (by decide)
      · exact good 1 (by decide) q (fun z => by omega) (fun _ => t)
      · exact absurd q c2
    · rcases hx with ⟨q, _⟩ | ⟨_, q, _⟩ | ⟨_, _, t⟩
      · rw [c] at q
        exact absurd q (by decide)
      · rw [c2] at q
        exact absurd q (by decide)
      · exact bad t
  have c19 : ∀ s0 : Int32, ((s0 = 1 ∧ x1 = 0 ∧ z_B x2 101) ∨ (s0 = 0 ∧ ¬ (x1 = 0 ∧ z_B x2 101))) → w_X9_terms_19 1 x1 x2 T n r w (fun v i1 => T 84 = (0, 10) ∧ w_X10_terms 84 x1 x2 T n r i1 w (fun v2 i2 => v = v2 ∧ lw_N z_Inv n T n r i2 w)) s0 i := by
    intro s0 hx
    have n39 : ¬ (x1 = 1 ∧ z_B x2 100) → w_X9_terms_39 1 x1 x2 T n r w (fun v i1 => T 84 = (0, 10) ∧ w_X10_terms 84 x1 x2 T n r i1 w (fun v2 i2 => v = v2 ∧ lw_N z_Inv n T n r i2 w)) s0 i := by
      intro hq
      refine c40 s0 0 ?_
      rcases hx with q | ⟨q, q2⟩
      · exact Or.inl q
      · exact Or.inr (Or.inr ⟨q, rfl, fun z => z.elim q2 hq⟩)
    refine ⟨fun c => n39 (fun q => c q.1), fun c => ⟨fun c2 => n39 (fun q => (B100.mp q.2).1 c2), fun c2 => ⟨fun c3 => n39 (fun q => absurd c3 (Int32.not_lt.mpr (B100.mp q.2).2)), fun c3 => c40 s0 1 ?_⟩⟩⟩
    rcases hx with ⟨_, q, _⟩ | ⟨q, _⟩
    · rw [c] at q
      exact absurd q (by decide)
    · exact Or.inr (Or.inl ⟨q, rfl, c, B100.mpr ⟨c2, Int32.not_lt.mp c3⟩⟩)
  refine ⟨fun c => c19 0 (Or.inr ⟨rfl, fun q => c q.1⟩), fun c => ⟨fun c2 => c19 0 (Or.inr ⟨rfl, fun q => (B101.mp q.2).1 c2⟩), fun c2 => ⟨fun c3 => c19 0 (Or.inr ⟨rfl, fun q => absurd c3 (Int32.not_lt.mpr (B101.mp q.2).2)⟩), fun c3 => c19 1 (Or.inl ⟨rfl, c, B101.mpr ⟨c2, Int32.not_lt.mp c3⟩⟩)⟩⟩⟩
theorem z_C6 : lw_C6 z_Inv := by
  intro T n r i w x1 x2 h hn
  have hS := h.1
  have h0 := z_T84 hS
  obtain ⟨nv, hv, e1, e2, hK⟩ := z_Inv_nv h
  have k86 : ∀ k, k < 4987 → kw_in T 1 86 (nI k) := fun k hk => z_kin (z_T86 hS) hk (by decide)
  have bad : ¬ (z_B x1 8 ∧ z_B x2 100) → w_X9_price_17 1 x1 x2 T n r w (fun v i1 => T 84 = (0, 10) ∧ w_X10_price 84 x1 x2 T n r i1 w (fun v2 i2 => v = v2 ∧ lw_N z_Inv n T n r i2 w)) i := by
    intro hb
    refine z_refb h z_rf1 (m10 := fun i1 Q => w_X10_price 84 x1 x2 T n r i1 w Q) (fun i1 Q o hQ => ?_)
    exact z_isColour10 (fun a => z_t (z_lies (m := 99) (by decide) (fun b => absurd ⟨a, b⟩ hb) (fun _ => z_f2 (z_ref10e hS z_rf1 hQ)))) (fun _ => z_f (z_ref10e hS z_rf1 hQ))
  have B100 := z_B_le (x := x2) (m := 99) (by decide)
  unfold w_X9_price
  rw [z_r1_0 hS, z_r2_2 hS]
  refine z_isColour9 (fun a => z_t ⟨fun c => bad (fun q => (B100.mp q.2).1 c), fun c => ⟨fun c2 => ?_, fun c2 => bad (fun q => c2 (B100.mp q.2).2)⟩⟩) (fun a => z_f (bad (fun q => a q.1)))
  have b := B100.mpr ⟨c, c2⟩
  have a0 := a
  obtain ⟨k, hk, rfl⟩ := a
  rw [nI_clamp (by omega)]
  have k14 : kw_in T 1 14 (nI k) := z_kin (z_T14 hS) hk (by decide)
  refine ⟨z_T2 hS, k14, k14, fun i40 e40 j2 q2 => ⟨h0, ?_⟩⟩
  have o86 : j2 86 = i 86 := by rw [q2, e40, kw_st_offF (by decide), kw_st_offF (by decide)]
  have o84 : j2 84 = i 84 := by rw [q2, e40, kw_st_offF (by decide), kw_st_offF (by decide)]
  refine z_isColour10 (fun _ => z_t (z_lies (m := 99) (by decide) (fun _ => z_t2 ?_) (fun q => absurd b q))) (fun q => absurd a0 q)
  have e168 : (168 : Int32) + nI k = nI (168 + k) := nI_add 168 k
  rw [e168, z_r84_2 hS, nI_clamp (by omega), o86]
  refine ⟨k86 _ (by omega), k86 _ (by omega), fun i42 e42 i9 e9 => ⟨h.2.2.1.1.2.2.1 k hk, ?_, by omega⟩⟩
  have K' : ∀ p, i9 86 p = if p = 168 + k then x2 else i 86 p := by
    intro p
    rw [e9, kw_st_off (by decide), e42, kw_st_row, o86]
  have rows : ∀ b, b ≠ 84 → b ≠ 86 → i9 b = j2 b := fun b b1 b2 => by rw [e9, kw_st_offF b1, e42, kw_st_offF b2]
  have old : ∀ b, b ≠ 1 → b ≠ 14 → b ≠ 84 → b ≠ 86 → i9 b = i b := fun b b1 b3 b4 b5 => by
    rw [rows b b4 b5, q2, kw_st_offF b1, e40, kw_st_offF b3]
  have r14 : ∀ p, i9 14 p = if p = k then x2 else i 14 p := fun p => by
    rw [rows _ (by decide) (by decide), q2, kw_st_off (by decide), e40, kw_st_row]
  have kk : ∀ p, p ≠ 168 + k → i9 86 p = i 86 p := fun p hp => by rw [K', if_neg hp]
  have f1 : ∀ f, f ≠ 9 → i9 1 f = i 1 f := fun f f1 => by rw [rows 1 (by decide) (by decide), q2, kw_st_row, if_neg f1, e40, kw_st_off (by decide)]
  have f84 : ∀ f, f ≠ 0 → i9 84 f = i 84 f := fun f f1 => by rw [e9, kw_st_row, if_neg f1, e42, kw_st_off (by decide), o84]
  have hd : ∀ b, 103 ≤ b → i9 b = i b := fun b hb => old b (by omega) (by omega) (by omega) (by omega)
  obtain ⟨c1, c2', ⟨⟨s1, s2, s3, s4, s5, s6, s7⟩, n2, n3⟩, c4, c5, c6, c7, c8, c9, c10⟩ := h
  refine ⟨c1, c2', ⟨⟨?_, ?_, ?_, ?_, ?_, ?_, ?_⟩, ⟨nv, ?_⟩, ?_⟩, ?_, ?_, ?_, ?_, ?_, ?_, ?_⟩
  · intro j v hj hv'
    rw [old _ (by omega) (by omega) (by omega) (by omega), kk _ (by omega)]
    exact s1 j v hj hv'
  · intro q' c' hq' hc'
    rw [old _ (by omega) (by omega) (by omega) (by omega), kk _ (by omega)]
    exact s2 q' c' hq' hc'
  · intro c' hc'
    rw [show 2 + 12 = 14 by omega, r14, K']
    by_cases et : c' = k
    · rw [if_pos et, if_pos (by omega)]
    · rw [if_neg et, if_neg (by omega)]
      exact s3 c' hc'
  · intro t ht
    rw [old _ (by omega) (by omega) (by omega) (by omega), kk _ (by omega)]
    exact s4 t ht
  · rw [old 2 (by decide) (by decide) (by decide) (by decide), kk 178 (by omega)]; exact s5
  · rw [old 2 (by decide) (by decide) (by decide) (by decide), kk 179 (by omega)]; exact s6
  · rw [old 2 (by decide) (by decide) (by decide) (by decide), kk 180 (by omega)]; exact s7
  · obtain ⟨k1, k2, k3, k4, k5', k6, k7⟩ := hK
    refine ⟨k1, by rw [kk 178 (by omega)]; exact k2, fun v' hv' => ?_, fun q' c' hq' hc' => by rw [kk _ (by omega)]; exact k4 q' c' hq' hc', fun c hc => ?_, by rw [kk _ (by omega)]; exact k6, by rw [kk _ (by omega)]; exact k7⟩
    · rw [kk _ (by omega), kk _ (by omega), kk _ (by omega), kk _ (by omega), kk _ (by omega), kk _ (by omega)]
      exact k3 v' hv'
    · rw [K']
      by_cases et : 168 + c = 168 + k
      · rw [if_pos et]
        exact b
      · rw [if_neg et]
        exact k5' c hc
  · exact z_laws_K n3 (kk 179 (by omega)) (fun k hk => kk k (by omega)) (Or.inl (kk 180 (by omega))) hd
  · exact z_im_eq c4 (old 87 (by decide) (by decide) (by decide) (by decide)) (old 88 (by decide) (by decide) (by decide) (by decide)) hd
  · rw [old 18 (by decide) (by decide) (by decide) (by decide), old 19 (by decide) (by decide) (by decide) (by decide), f84 9 (by decide), old 90 (by decide) (by decide) (by decide) (by decide)]
    exact c5
  · obtain ⟨a1, a2, a3, a4⟩ := c6
    refine ⟨by rw [rows 1 (by decide) (by decide), q2, kw_st_same, e9, kw_st_same], by rw [f1 10 (by decide), f84 5 (by decide)]; exact a2, by rw [f1 11 (by decide), f84 10 (by decide)]; exact a3, ?_⟩
    rw [old 83 (by decide) (by decide) (by decide) (by decide), old 85 (by decide) (by decide) (by decide) (by decide)]
    exact a4
  · obtain ⟨d, d1, d2, d3, d4⟩ := c7
    refine ⟨d, d1, by rw [old 70 (by decide) (by decide) (by decide) (by decide)]; exact d2, by rw [f84 36 (by decide)]; exact d3, fun v hv => ?_⟩
    rw [old 82 (by decide) (by decide) (by decide) (by decide), old 100 (by decide) (by decide) (by decide) (by decide), old 99 (by decide) (by decide) (by decide) (by decide), old (72 + v) (by omega) (by omega) (by omega) (by omega)]
    exact d4 v hv
  · rw [old 89 (by decide) (by decide) (by decide) (by decide)]
    exact c8
  · rw [old 24 (by decide) (by decide) (by decide) (by decide)]
    exact c9
  · intro q
    rw [f1 12 (by decide)] at q
    obtain ⟨nv', L, k1, k2, k3, k4⟩ := c10 q
    have hrel : z_rel (i 86) (i9 86) := ⟨fun p hp => kk p (by omega), kk 177 (by omega), kk 178 (by omega), kk 180 (by omega)⟩
    have enn := z_nv_one k1 hK
    subst enn
    refine ⟨nv', L, ?_, fun q => ?_, ?_, ?_⟩
    · obtain ⟨k1, k2, k3, k4, k5', k6, k7⟩ := hK
      refine ⟨k1, by rw [kk 178 (by omega)]; exact k2, fun v' hv' => ?_, fun q' c' hq' hc' => by rw [kk _ (by omega)]; exact k4 q' c' hq' hc', fun c hc => ?_, by rw [kk _ (by omega)]; exact k6, by rw [kk _ (by omega)]; exact k7⟩
      · rw [kk _ (by omega), kk _ (by omega), kk _ (by omega), kk _ (by omega), kk _ (by omega), kk _ (by omega)]
        exact k3 v' hv'
      · rw [K']
        by_cases et : 168 + c = 168 + k
        · rw [if_pos et]
          exact b
        · rw [if_neg et]
          exact k5' c hc
    · rw [kk 180 (by omega)] at q ⊢
      obtain ⟨j, j1, j2, j3⟩ := k2 q
      exact ⟨j, j1, j2, z_toks_eq j3 (kk _ (by omega)) (fun p _ => ⟨kk _ (by omega), kk _ (by omega)⟩)⟩
    · exact z_rd_rel (z_rd_eq k3 (old 24 (by decide) (by decide) (by decide) (by decide)) (old 26 (by decide) (by decide) (by decide) (by decide)) (old 27 (by decide) (by decide) (by decide) (by decide)) (by rw [old 29 (by decide) (by decide) (by decide) (by decide)]) hd rfl (by rw [old 23 (by decide) (by decide) (by decide) (by decide)]) (fun b b1 b2 => old b (by omega) (by omega) (by omega) (by omega)) k1.1) hrel k1.1
    · exact z_gs_rel (z_gs_eq k4 (by rw [old 52 (by decide) (by decide) (by decide) (by decide)]; exact ⟨rfl, rfl, rfl⟩) (fun b b1 b2 => old b (by omega) (by omega) (by omega) (by omega))) hrel k1.1
theorem z_C9 : lw_C9 z_Inv := by
  intro T n r i w x h hn
  have hS := h.1
  have h0 := z_T84 hS
  obtain ⟨sz, t1, t2, t3, t4⟩ := h.2.2.2.2.1
  have hb := z_B_le (x := x) (m := sz) (by omega)
  have no : ¬ z_B x (sz + 1) → T 84 = (0, 10) ∧ w_X10_end 84 x T n r i w (fun v2 i2 => -1 = v2 ∧ lw_N z_Inv n T n r i2 w) := by
    intro hq
    refine ⟨h0, ?_⟩
    unfold w_X10_end
    rw [t3]
    exact z_lies (by omega) (fun q => absurd q hq) (fun _ => z_f2 ⟨rfl, z_N h⟩)
  unfold w_X9_end
  rw [z_r1_2 hS, t2]
  refine ⟨fun c => no (fun q => (hb.mp q).1 c), fun c => ⟨z_T18 hS, fun c2 i22 e22 => ⟨h0, ?_⟩, fun c2 => no (fun q => c2 (hb.mp q).2)⟩⟩
  have bx := hb.mpr ⟨c, c2⟩
  have bx0 := bx
  obtain ⟨k, hk, rfl⟩ := bx
  have o84 : i22 84 = i 84 := by rw [e22, kw_st_offF (by decide)]
  unfold w_X10_end
  rw [o84, t3]
  refine z_lies (by omega) (fun _ => z_t2 (fun i16 e16 => ⟨rfl, ?_, by omega⟩)) (fun q => absurd bx0 q)
  have old : ∀ b, b ≠ 18 → b ≠ 84 → i16 b = i b := fun b b1 b2 => by rw [e16, kw_st_offF b2, e22, kw_st_offF b1]
  have f84 : ∀ f, f ≠ 9 → i16 84 f = i 84 f := fun f hf => by rw [e16, kw_st_row, if_neg hf, o84]
  refine z_Inv_sc h (fun b b1 b2 _ _ b5 _ _ _ => old b b2 b5) (by rw [old 1 (by decide) (by decide)]) (f84 36 (by decide)) ?_ ?_
  · refine ⟨k, by omega, ?_, ?_, ?_⟩
    · rw [e16, kw_st_off (by decide), e22, kw_st_same]
    · rw [e16, kw_st_same]
    · rw [old 19 (by decide) (by decide), old 90 (by decide) (by decide)]
      exact t4
  · rw [old 1 (by decide) (by decide), old 83 (by decide) (by decide), f84 0 (by decide), f84 5 (by decide), f84 10 (by decide), old 85 (by decide) (by decide)]
    exact h.2.2.2.2.2.1
