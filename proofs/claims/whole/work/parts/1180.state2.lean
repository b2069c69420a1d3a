-- MORE CALLS THAT CHANGE THE STATE
theorem z_Inv_ch {T : kw_T} {n : Nat} {r : kw_R} {i i' : kw_I} {w : kw_L} (h : z_Inv T n r i w) (old : ∀ b, b ≠ 1 → (b < 2 ∨ 15 < b) → b ≠ 84 → b ≠ 86 → i' b = i b) (h12 : i' 1 12 = 1) (h9 : i' 1 9 = 0) (f1 : ∀ f, f ≠ 9 → f ≠ 12 → i' 1 f = i 1 f) (h0 : i' 84 0 = 0) (f84 : ∀ f, f ≠ 0 → i' 84 f = i 84 f) (hSK : z_SK i' 2 (i' 86)) (hKr : ∃ nv, z_Kr (i' 86) nv) (h179 : i' 86 179 = i 86 179) (h181 : ∀ k, 181 ≤ k → i' 86 k = i 86 k) (h180 : i' 86 180 = i 86 180 ∨ i' 86 180 = -1 ∨ ∃ f, (∀ nl, nl ≤ 6 → i 86 179 = nI nl → f < nl) ∧ i' 86 180 = nI f) : z_Inv T n r i' w := by
  obtain ⟨n1, -, n3⟩ := h.2.2.1
  refine z_Inv_now h (fun b b1 b2 _ _ b5 b6 _ => old b b1 b2 b5 b6) h12 (f84 36 (by decide)) ⟨hSK, hKr, z_laws_K n3 h179 h181 h180 (fun b hb => old b (by omega) (by omega) (by omega) (by omega))⟩ ?_ ?_
  · rw [old 18 (by decide) (by decide) (by decide) (by decide), old 19 (by decide) (by decide) (by decide) (by decide), f84 9 (by decide), old 90 (by decide) (by decide) (by decide) (by decide)]
    exact h.2.2.2.2.1
  · obtain ⟨s1, s2, s3, s4⟩ := h.2.2.2.2.2.1
    rw [h9, h0, f1 10 (by decide) (by decide), f1 11 (by decide) (by decide), old 83 (by decide) (by decide) (by decide) (by decide), f84 5 (by decide), f84 10 (by decide), old 85 (by decide) (by decide) (by decide) (by decide)]
    exact ⟨rfl, s2, s3, s4⟩
theorem z_ref_in (x : Int32) : z_rfs (-1) 0 1 ∧ z_rfs (-2) 1 2 ∧ z_rfs (-5) 2 5 ∧ z_rfs (-6) 3 6 := ⟨Or.inl ⟨rfl, rfl, rfl⟩, Or.inr (Or.inl ⟨rfl, rfl, rfl⟩), Or.inr (Or.inr (Or.inl ⟨rfl, rfl, rfl⟩)), Or.inr (Or.inr (Or.inr ⟨rfl, rfl, rfl⟩))⟩
theorem z_rf1 : z_rfs (-1) 0 1 := (z_ref_in 0).1
theorem z_rf2 : z_rfs (-2) 1 2 := (z_ref_in 0).2.1
theorem z_rf5 : z_rfs (-5) 2 5 := (z_ref_in 0).2.2.1
theorem z_rf6 : z_rfs (-6) 3 6 := (z_ref_in 0).2.2.2
theorem z_C2 : lw_C2 z_Inv := by
  intro T n r i w x1 x2 x3 x4 x5 h hn
  have hS := h.1
  have h0 := z_T84 hS
  obtain ⟨nv, hv, e1, e2, hK⟩ := z_Inv_nv h
  unfold w_X9_hole
  rw [z_r1_0 hS]
  refine z_isK9 (fun a b => z_t2 (z_isV9 hS e2 hv (fun bv => z_t2 ⟨z_T2 hS, ?_⟩) (fun bv => z_f2 ?_))) (fun a => z_f2 ?_)
  · obtain ⟨v, hv2, rfl⟩ := bv
    refine z_setKey hS (by omega) (fun j1 q1 j2 q2 => ⟨h0, ?_⟩)
    have o86 : j2 86 = i 86 := by rw [q2, q1]; simp [kw_st_offF]
    have o84 : j2 84 = i 84 := by rw [q2, q1]; simp [kw_st_offF]
    refine z_isH10 (fun _ _ => z_t2 (z_isV10 hS (by rw [o86]; exact e1) hv (fun _ => z_t2 (z_cuts hS (by omega) (fun i9 e9 => ⟨rfl, ?_, by omega⟩))) (fun q => absurd ⟨v, hv2, rfl⟩ q))) (fun q => absurd ⟨a, b⟩ q)
    have K' : ∀ q, i9 86 q = if (6 * v ≤ q ∧ q < 6 * v + 6) ∧ (fun j => decide (j < 4)) (q - 6 * v) = true then z_new x2 x3 x4 x5 0 0 (q - 6 * v) else i 86 q := by
      intro q
      rw [e9, kw_st_off (by decide)]
      simp only [kw_st_row, o86, decide_eq_true_iff]
      unfold z_new
      by_cases c2 : (6 * v ≤ q ∧ q < 6 * v + 6) ∧ q - 6 * v < 4
      · rw [if_pos c2]
        rcases (show q = 6 * v ∨ q = 6 * v + 1 ∨ q = 6 * v + 2 ∨ q = 6 * v + 3 by omega) with e | e | e | e <;> subst e <;> simp
      · rw [if_neg c2, if_neg (by omega), if_neg (by omega), if_neg (by omega), if_neg (by omega)]
    have rows : ∀ b, b ≠ 84 → b ≠ 86 → i9 b = j2 b := fun b b1 b2 => by
      rw [e9, kw_st_offF b1, kw_st_offF b2, kw_st_offF b2, kw_st_offF b2, kw_st_offF b2]
    have tr : ∀ j v', j < 6 → i9 (4 + j) v' = if v' = v ∧ (fun j => decide (j < 4)) j = true then z_new x2 x3 x4 x5 0 0 j else i (4 + j) v' := by
      intro j v' hj
      rw [rows _ (by omega) (by omega), q2, q1]
      by_cases ev : v' = v
      · subst ev
        rcases (show j = 0 ∨ j = 1 ∨ j = 2 ∨ j = 3 ∨ j = 4 ∨ j = 5 by omega) with rfl | rfl | rfl | rfl | rfl | rfl <;> simp [kw_st, z_new]
      · rw [if_neg (fun z => ev z.1)]
        rcases (show j = 0 ∨ j = 1 ∨ j = 2 ∨ j = 3 ∨ j = 4 ∨ j = 5 by omega) with rfl | rfl | rfl | rfl | rfl | rfl <;> simp [kw_st, ev]
    have old : ∀ b, b ≠ 1 → (b < 4 ∨ 7 < b) → b ≠ 84 → b ≠ 86 → i9 b = i b := fun b b1 b3 b4 b5 => by
      rw [rows b b4 b5, q2, kw_st_offF b1, q1, kw_st_offF b1, kw_st_offF (by omega), kw_st_offF (by omega), kw_st_offF (by omega), kw_st_offF (by omega)]
    have kk : ∀ q, 60 ≤ q → i9 86 q = i 86 q := fun q hq => by rw [K', if_neg (fun z => by omega)]
    refine z_Inv_ch h (fun b b1 b2 b4 b5 => old b b1 (by omega) b4 b5) ?_ ?_ (fun f f1 f2 => ?_) ?_ (fun f f1 => ?_) ?_ ⟨nv, ?_⟩ (kk 179 (by decide)) (fun k hk => kk k (by omega)) (Or.inl (kk 180 (by decide)))
    · rw [rows 1 (by decide) (by decide), q2, kw_st_row, if_neg (by decide), q1, kw_st_same]
    · rw [rows 1 (by decide) (by decide), q2, kw_st_same]
    · rw [rows 1 (by decide) (by decide), q2, kw_st_row, if_neg f1, q1, kw_st_row, if_neg f2]
      simp [kw_st]
    · rw [e9, kw_st_same]
    · rw [e9, kw_st_row, if_neg f1]
      simp only [kw_st_off (a := 86) (b := 84) (by decide)]
      rw [o84]
    · exact z_SK_tr h.2.2.1.1 (by omega) (p := fun j => decide (j < 4)) tr (fun q _ _ => K' q) (fun b b1 b2 => old b (by omega) (by omega) (by omega) (by omega)) (by rw [old 2 (by decide) (by decide) (by decide) (by decide), kk 178 (by decide)]; exact h.2.2.1.1.2.2.2.2.1) (by rw [old 2 (by decide) (by decide) (by decide) (by decide)]) (by rw [old 2 (by decide) (by decide) (by decide) (by decide)])
    · obtain ⟨k1, k2, k3, k4, k5', k6, k7⟩ := hK
      refine ⟨k1, by rw [kk 178 (by decide)]; exact k2, fun v' hv' => ?_, fun q c hq hc => by rw [kk _ (by omega)]; exact k4 q c hq hc, fun c hc => by rw [kk _ (by omega)]; exact k5' c hc, by rw [kk _ (by decide)]; exact k6, by rw [kk _ (by decide)]; exact k7⟩
      have ee : ∀ j, j < 6 → i9 86 (6 * v' + j) = if v' = v ∧ j < 4 then z_new x2 x3 x4 x5 0 0 j else i 86 (6 * v' + j) := by
        intro j hj
        rw [K']
        simp only [decide_eq_true_iff]
        by_cases ev : v' = v
        · subst ev
          rw [show 6 * v' + j - 6 * v' = j by omega]
          by_cases j4 : j < 4
          · rw [if_pos (by omega), if_pos ⟨rfl, j4⟩]
          · rw [if_neg (by omega), if_neg (by omega)]
        · rw [if_neg (by omega), if_neg (by omega)]
      have e0 := ee 0 (by decide)
      rw [show 6 * v' + 0 = 6 * v' by omega] at e0
      rw [e0, ee 1 (by decide), ee 2 (by decide), ee 3 (by decide), ee 4 (by decide), ee 5 (by decide)]
      by_cases ev : v' = v
      · subst ev
        obtain ⟨x, wd, a1, a2, a3, a4⟩ := a
        obtain ⟨y, tl, b1, b2, b3, b4⟩ := b
        exact ⟨⟨x, y, wd, tl, a1, b1, a2, b2, by simp [z_new, a3], by simp [z_new, b3], by simp [z_new, a4], by simp [z_new, b4]⟩, by simp; exact (k3 v' hv').2.1, by simp; exact (k3 v' hv').2.2⟩
      · simp only [ev, false_and, if_false]
        exact k3 v' hv'
  · refine z_refb h z_rf2 (m10 := fun i1 Q => w_X10_hole 84 x1 x2 x3 x4 x5 T n r i1 w Q) (fun i1 Q o hQ => ?_)
    exact z_isH10 (fun _ _ => z_t2 (z_isV10 hS (by rw [o 86 (by decide) (by decide)]; exact e1) hv (fun q => absurd q bv) (fun _ => z_f2 (z_ref10e hS z_rf2 hQ)))) (fun q => absurd ⟨a, b⟩ q)
  · refine z_refb h z_rf1 (m10 := fun i1 Q => w_X10_hole 84 x1 x2 x3 x4 x5 T n r i1 w Q) (fun i1 Q o hQ => ?_)
    exact z_isH10 (fun p q => absurd ⟨p, q⟩ a) (fun _ => z_f2 (z_ref10e hS z_rf1 hQ))
theorem z_C4 : lw_C4 z_Inv := by
  intro T n r i w x1 x2 x3 h hn
  have hS := h.1
  have h0 := z_T84 hS
  obtain ⟨nv, hv, e1, e2, hK⟩ := z_Inv_nv h
  have no : ¬ (z_B x1 3 ∧ z_B x2 36 ∧ z_B x3 8) → w_X9_paint_21 1 x1 x2 x3 T n r w (fun v i1 => T 84 = (0, 10) ∧ w_X10_paint 84 x1 x2 x3 T n r i1 w (fun v2 i2 => v = v2 ∧ lw_N z_Inv n T n r i2 w)) i := by
    intro hq
    refine z_refb h z_rf1 (m10 := fun i1 Q => w_X10_paint 84 x1 x2 x3 T n r i1 w Q) (fun i1 Q o hQ => ?_)
    exact z_lies (m := 2) (by decide) (fun a => z_t (z_isCell10 (fun b => z_t (z_isColour10 (fun c => absurd ⟨a, b, c⟩ hq) (fun _ => z_f2 (z_ref10e hS z_rf1 hQ)))) (fun _ => z_f (z_ref10e hS z_rf1 hQ)))) (fun _ => z_f (z_ref10e hS z_rf1 hQ))
  unfold w_X9_paint
  rw [z_r1_0 hS, z_r2_1 hS]
  refine z_isPicture9 (fun a => z_t (z_isCell9 (fun b => z_t (z_isColour9 (fun c => z_t2 ?_) (fun c => z_f2 (no (fun q => c q.2.2))))) (fun b => z_f (no (fun q => b q.2.1))))) (fun a => z_f (no (fun q => a q.1)))
  have b0 := b
  have c0 := c
  have a0 := a
  obtain ⟨q, hq, rfl⟩ := a
  obtain ⟨cl, hcl, rfl⟩ := b
  rw [nI_clamp (by omega), nI_clamp (by omega), z_rprow hS hq]
  have k10 : kw_in T 5 10 (nI q) := z_kin (z_T10 hS) hq (by decide)
  have kp : kw_in T 1 (11 + q) (nI cl) := z_kin (z_Tprow hS hq) hcl (by decide)
  refine ⟨z_T2 hS, k10, kp, k10, kp, fun i51 e51 j1 q1 j2 q2 => ⟨h0, ?_⟩⟩
  have o86 : j2 86 = i 86 := by rw [q2, q1, e51, kw_st_offF (by decide), kw_st_offF (by decide), kw_st_offF (by omega)]
  have o84 : j2 84 = i 84 := by rw [q2, q1, e51, kw_st_offF (by decide), kw_st_offF (by decide), kw_st_offF (by omega)]
  refine z_lies (m := 2) (by decide) (fun _ => z_t (z_isCell10 (fun _ => z_t (z_isColour10 (fun _ => z_t2 ?_) (fun p => absurd c0 p))) (fun p => absurd b0 p))) (fun p => absurd a0 p)
  have e : (60 : Int32) + (36 : Int32) * nI q + nI cl = nI (60 + 36 * q + cl) := by rw [show (36 : Int32) = nI 36 from rfl, show (60 : Int32) = nI 60 from rfl, pk_mul, nI_add, nI_add]
  rw [e, z_r84_2 hS, nI_clamp (by omega), o86]
  have k86 : kw_in T 1 86 (nI (60 + 36 * q + cl)) := z_kin (z_T86 hS) (by omega) (by decide)
  refine ⟨k86, k86, fun i56 e56 i9 e9 => ⟨h.2.2.1.1.2.1 q cl hq hcl, ?_, by omega⟩⟩
  have K' : ∀ p, i9 86 p = if p = 60 + 36 * q + cl then x3 else i 86 p := by
    intro p
    rw [e9, kw_st_off (by decide), e56, kw_st_row, o86]
  have rows : ∀ b, b ≠ 84 → b ≠ 86 → i9 b = j2 b := fun b b1 b2 => by rw [e9, kw_st_offF b1, e56, kw_st_offF b2]
  have old : ∀ b, b ≠ 1 → b ≠ 11 + q → b ≠ 84 → b ≠ 86 → i9 b = i b := fun b b1 b3 b4 b5 => by
    rw [rows b b4 b5, q2, kw_st_offF b1, q1, kw_st_offF b1, e51, kw_st_offF b3]
  have rp : ∀ p, i9 (11 + q) p = if p = cl then x3 else i (11 + q) p := fun p => by
    rw [rows _ (by omega) (by omega), q2, kw_st_off (by omega), q1, kw_st_off (by omega), e51, kw_st_row]
  have kk : ∀ p, p < 60 ∨ 168 ≤ p → i9 86 p = i 86 p := fun p hp => by rw [K', if_neg (by omega)]
  obtain ⟨s1, s2, s3, s4, s5, s6, s7⟩ := h.2.2.1.1
  refine z_Inv_ch h (fun b b1 b2 b4 b5 => old b b1 (by omega) b4 b5) ?_ ?_ (fun f f1 f2 => ?_) ?_ (fun f f1 => ?_) ⟨?_, ?_, ?_, ?_, ?_, ?_, ?_⟩ ⟨nv, ?_⟩ (kk 179 (by decide)) (fun k hk => kk k (by omega)) (Or.inl (kk 180 (by decide)))
  · rw [rows 1 (by decide) (by decide), q2, kw_st_row, if_neg (by decide), q1, kw_st_same]
  · rw [rows 1 (by decide) (by decide), q2, kw_st_same]
  · rw [rows 1 (by decide) (by decide), q2, kw_st_row, if_neg f1, q1, kw_st_row, if_neg f2, e51, kw_st_off (by omega)]
  · rw [e9, kw_st_same]
  · rw [e9, kw_st_row, if_neg f1, e56, kw_st_off (by decide), o84]
  · intro j v hj hv'
    rw [old _ (by omega) (by omega) (by omega) (by omega), kk _ (by omega)]
    exact s1 j v hj hv'
  · intro q' c' hq' hc'
    rw [show 2 + 9 + q' = 11 + q' by omega, K']
    by_cases eq : q' = q
    · subst eq
      rw [rp]
      by_cases ec : c' = cl
      · rw [if_pos ec, if_pos (by omega)]
      · rw [if_neg ec, if_neg (by omega)]
        exact s2 q' c' hq' hc'
    · rw [old _ (by omega) (by omega) (by omega) (by omega), if_neg (by omega)]
      exact s2 q' c' hq' hc'
  · intro c' hc'
    rw [old _ (by omega) (by omega) (by omega) (by omega), kk _ (by omega)]
    exact s3 c' hc'
  · intro t ht
    rw [old _ (by omega) (by omega) (by omega) (by omega), kk _ (by omega)]
    exact s4 t ht
  · rw [old 2 (by decide) (by omega) (by decide) (by decide), kk 178 (by decide)]; exact s5
  · rw [old 2 (by decide) (by omega) (by decide) (by decide), kk 179 (by decide)]; exact s6
  · rw [old 2 (by decide) (by omega) (by decide) (by decide), kk 180 (by decide)]; exact s7
  · obtain ⟨k1, k2, k3, k4, k5', k6, k7⟩ := hK
    refine ⟨k1, by rw [kk 178 (by decide)]; exact k2, fun v' hv' => ?_, fun q' c' hq' hc' => ?_, fun c hc => by rw [kk _ (by omega)]; exact k5' c hc, by rw [kk _ (by decide)]; exact k6, by rw [kk _ (by decide)]; exact k7⟩
    · rw [kk _ (by omega), kk _ (by omega), kk _ (by omega), kk _ (by omega), kk _ (by omega), kk _ (by omega)]
      exact k3 v' hv'
    · rw [K']
      by_cases ec : 60 + 36 * q' + c' = 60 + 36 * q + cl
      · rw [if_pos ec]
        exact c0
      · rw [if_neg ec]
        exact k4 q' c' hq' hc'
