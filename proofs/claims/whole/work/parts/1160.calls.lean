-- CALLS THAT ONLY TELL
section ZTL
variable {T : kw_T} {n : Nat} {r : kw_R} {i : kw_I} {w : kw_L} {x : Int32} {nv : Nat}
theorem z_isV9 (hS : z_S T r) (h5 : i 2 5 = nI nv) (hn : nv ≤ 10) {Q : Int32 → Prop} (ht : z_B x nv → Q 1) (hf : ¬ z_B x nv → Q 0) : w_X9_isVillage 1 x T n r i w Q := by
  unfold w_X9_isVillage
  rw [z_r1_0 hS, h5]
  have hb := z_B_iff (x := x) (m := nv) (by omega)
  refine ⟨fun h => hf (fun c => (hb.mp c).1 h), fun h => ⟨z_T2 hS, fun h2 => hf (fun c => absurd h2 (Int32.not_le.mpr (hb.mp c).2)), fun h2 => ht (hb.mpr ⟨h, Int32.not_le.mp h2⟩)⟩⟩
theorem z_lies0 {m : Nat} (hm : m < 2 ^ 31) {Q : Int32 → Prop} (ht : z_B x m → Q 1) (hf : ¬ z_B x m → Q 0) : w_X10_lies x 0 (nI m - 1) T n r i w Q := by
  rcases Nat.eq_zero_or_pos m with q | q
  · subst q
    refine z_lies_f ?_ (hf (fun ⟨k, hk, _⟩ => by omega))
    by_cases h : x < 0
    · exact Or.inl h
    · right
      show (-1 : Int32) < x
      rw [fa_lt] at h ⊢
      have e1 : (-1 : Int32).toInt = -1 := by decide
      have e0 : (0 : Int32).toInt = 0 := by decide
      omega
  · have e : nI m - 1 = nI (m - 1) := pk_sub (b := 1) q
    rw [e]
    have em : m - 1 + 1 = m := by omega
    exact z_lies (m := m - 1) (by omega) (by rw [em]; exact ht) (by rw [em]; exact hf)
theorem z_isV10 (hS : z_S T r) (h5 : i 86 178 = nI nv) (hn : nv ≤ 10) {Q : Int32 → Prop} (ht : z_B x nv → Q 1) (hf : ¬ z_B x nv → Q 0) : w_X10_isVillage 84 x T n r i w Q := by
  refine z_villages hS ?_
  rw [h5]
  exact z_lies0 (by omega) (fun h => ⟨z_b1, ht h⟩) (fun h => ⟨z_b0, hf h⟩)
theorem z_Inv_nv (h : z_Inv T n r i w) : ∃ nv, nv ≤ 10 ∧ i 86 178 = nI nv ∧ i 2 5 = nI nv ∧ z_Kr (i 86) nv := by
  obtain ⟨n1, ⟨nv, hK⟩, -⟩ := h.2.2.1
  exact ⟨nv, hK.1, hK.2.1, by rw [n1.2.2.2.2.1]; exact hK.2.1, hK⟩
theorem z_N (h : z_Inv T n r i w) : lw_N z_Inv n T n r i w := ⟨h, by omega⟩
theorem z_lt0_iff {m : Nat} (hm : m < 2 ^ 31) : (¬ x < 0 ∧ x < nI m) ↔ z_B x m := (z_B_iff hm).symm
end ZTL
theorem z_C3 : lw_C3 z_Inv := by
  intro T n r i w x1 x2 h hn
  have hS := h.1
  obtain ⟨nv, hv, e1, e2, hK⟩ := z_Inv_nv h
  have no : ∀ Q : Int32 → Prop, ¬ (z_B x1 nv ∧ z_B x2 6) → Q (-1) → w_X10_of 84 x1 x2 T n r i w Q := by
    intro Q hq hQ
    refine z_isV10 hS e1 hv (fun b1 => z_t ?_) (fun _ => z_f hQ)
    exact z_lies (m := 5) (by decide) (fun b2 => absurd ⟨b1, b2⟩ hq) (fun _ => z_f hQ)
  refine z_isV9 hS e2 hv (fun b1 => z_t ?_) (fun b1 => z_f ⟨z_T84 hS, no _ (fun c => b1 c.1) ⟨rfl, z_N h⟩⟩)
  have hb := z_B_iff (x := x2) (m := 6) (by decide)
  refine ⟨fun c => ⟨z_T84 hS, no _ (fun q => (hb.mp q.2).1 c) ⟨rfl, z_N h⟩⟩, fun c => ⟨fun c2 => ?_, fun c2 => ⟨z_T84 hS, no _ (fun q => c2 (hb.mp q.2).2) ⟨rfl, z_N h⟩⟩⟩⟩
  have b2 := hb.mpr ⟨c, c2⟩
  obtain ⟨v, hv2, rfl⟩ := b1
  obtain ⟨k, hk, rfl⟩ := b2
  rw [z_r1_0 hS, z_r2_0 hS, nI_clamp (by omega), nI_clamp (by omega)]
  have er : r 3 k = 4 + k := by
    rcases (show k = 0 ∨ k = 1 ∨ k = 2 ∨ k = 3 ∨ k = 4 ∨ k = 5 by omega) with rfl | rfl | rfl | rfl | rfl | rfl
    · exact z_r3_0 hS
    · exact z_r3_1 hS
    · exact z_r3_2 hS
    · exact z_r3_3 hS
    · exact z_r3_4 hS
    · exact z_r3_5 hS
  have eT : T (4 + k) = (1, 10) := by
    rcases (show k = 0 ∨ k = 1 ∨ k = 2 ∨ k = 3 ∨ k = 4 ∨ k = 5 by omega) with rfl | rfl | rfl | rfl | rfl | rfl
    · exact z_T4 hS
    · exact z_T5 hS
    · exact z_T6 hS
    · exact z_T7 hS
    · exact z_T8 hS
    · exact z_T9 hS
  rw [er]
  refine ⟨z_T2 hS, z_kin (z_T3 hS) hk (by decide), z_kin eT (by omega) (by decide), z_T84 hS, ?_⟩
  refine z_isV10 hS e1 hv (fun _ => z_t ?_) (fun b => absurd ⟨v, hv2, rfl⟩ b)
  refine z_lies (m := 5) (by decide) (fun _ => z_t (z_factOf hS (by omega) hk ⟨?_, z_N h⟩)) (fun b => absurd ⟨k, hk, rfl⟩ b)
  exact h.2.2.1.1.1 k v hk (by omega)
theorem z_C5 : lw_C5 z_Inv := by
  intro T n r i w x1 x2 h hn
  have hS := h.1
  have no : ∀ Q : Int32 → Prop, ¬ (z_B x1 3 ∧ z_B x2 36) → Q (-1) → w_X10_told 84 x1 x2 T n r i w Q := by
    intro Q hq hQ
    refine z_lies (m := 2) (by decide) (fun b1 => z_t ?_) (fun _ => z_f hQ)
    exact z_isCell10 (fun b2 => absurd ⟨b1, b2⟩ hq) (fun _ => z_f hQ)
  refine z_isPicture9 (fun b1 => z_t (z_isCell9 (fun b2 => z_t2 ?_) (fun b2 => z_f2 ⟨z_T84 hS, no _ (fun q => b2 q.2) ⟨rfl, z_N h⟩⟩))) (fun b1 => z_f ⟨z_T84 hS, no _ (fun q => b1 q.1) ⟨rfl, z_N h⟩⟩)
  obtain ⟨q, hq, rfl⟩ := b1
  obtain ⟨c, hc, rfl⟩ := b2
  rw [z_r1_0 hS, z_r2_1 hS, nI_clamp (by omega), nI_clamp (by omega), z_rprow hS hq]
  refine ⟨z_T2 hS, z_kin (z_T10 hS) hq (by decide), z_kin (z_Tprow hS hq) hc (by decide), z_T84 hS, ?_⟩
  refine z_lies (m := 2) (by decide) (fun _ => z_t (z_isCell10 (fun _ => z_t ?_) (fun b => absurd ⟨c, hc, rfl⟩ b))) (fun b => absurd ⟨q, hq, rfl⟩ b)
  have e : (60 : Int32) + (36 : Int32) * nI q + nI c = nI (60 + 36 * q + c) := by rw [show (36 : Int32) = nI 36 from rfl, show (60 : Int32) = nI 60 from rfl, pk_mul, nI_add, nI_add]
  rw [e, z_r84_2 hS, nI_clamp (by omega)]
  refine ⟨z_kin (z_T86 hS) (by omega) (by decide), ?_, z_N h⟩
  exact h.2.2.1.1.2.1 q c hq hc
theorem z_C11 : lw_C11 z_Inv := fun _ _ _ _ _ h _ => ⟨z_T84 h.1, h.2.2.2.2.2.1.2.1, z_N h⟩
theorem z_C13 : lw_C13 z_Inv := fun _ _ _ _ _ h _ => ⟨z_T84 h.1, h.2.2.2.2.2.1.2.2.1, z_N h⟩
theorem z_C32 : lw_C32 z_Inv := fun _ _ _ _ _ h _ => ⟨z_T84 h.1, h.2.2.2.2.2.1.1, z_N h⟩
theorem z_C31 : lw_C31 z_Inv := by
  intro T n r i w x h hn
  have hS := h.1
  have h0 := z_T84 hS
  obtain ⟨nv, hv, e1, e2, hK⟩ := z_Inv_nv h
  obtain ⟨s1, s2, s3, s4, s5, s6, s7⟩ := h.2.2.2.2.2.1
  obtain ⟨sz, t1, t2, t3, t4⟩ := h.2.2.2.2.1
  obtain ⟨k1, k2, k3, k4, k5, k6, k7⟩ := h.2.2.1.1
  have n2 := z_T2 hS
  have k83 : ∀ k, k < 4 → kw_in T 1 83 (nI k) := fun k hk => z_kin (z_T83 hS) hk (by decide)
  have k85 : ∀ k, k < 7 → kw_in T 1 85 (nI k) := fun k hk => z_kin (z_T85 hS) hk (by decide)
  have k86 : ∀ k, k < 4987 → kw_in T 1 86 (nI k) := fun k hk => z_kin (z_T86 hS) hk (by decide)
  -- the reference, at each number
  have m10 : ∀ (Q : Int32 → Prop), (x = 0 → Q (i 86 178)) → (x = 1 → Q (i 86 179)) → (x = 2 → Q (i 84 9)) → (x = 3 → Q (i 85 1)) → (x = 4 → Q (i 85 2)) → (x = 5 → Q (i 85 5)) → (x = 6 → Q (i 85 6)) → (x = 7 → Q (i 86 180)) → (x = 8 → Q (i 86 176)) → (x = 9 → Q (i 86 177)) → (x.toInt < 0 ∨ 9 < x.toInt → Q (-1)) → w_X10_count 84 x T n r i w Q := by
    intro Q q0 q1 q2 q3 q4 q5 q6 q7 q8 q9 q10
    unfold w_X10_count
    rw [z_r84_1 hS, z_r84_2 hS]
    refine ⟨fun e => z_villages hS (q0 e), fun e => ⟨k86 179 (by decide), q1 e⟩, q2, fun e => ?_, fun e => ?_, fun e => ?_, fun e => ?_, fun e => ⟨k86 180 (by decide), q7 e⟩, fun e => ?_, fun e => ?_, q10⟩
    · have := q3 e; subst e; exact ⟨k85 1 (by decide), this⟩
    · have := q4 e; subst e; exact ⟨k85 2 (by decide), this⟩
    · have := q5 e; subst e; exact ⟨k85 5 (by decide), this⟩
    · have := q6 e; subst e; exact ⟨k85 6 (by decide), this⟩
    · have := q8 e; subst e; exact ⟨k86 176 (by decide), this⟩
    · have := q9 e; subst e; exact ⟨k86 177 (by decide), this⟩
  have fin : ∀ v : Int32, (x = 0 → v = i 86 178) → (x = 1 → v = i 86 179) → (x = 2 → v = i 84 9) → (x = 3 → v = i 85 1) → (x = 4 → v = i 85 2) → (x = 5 → v = i 85 5) → (x = 6 → v = i 85 6) → (x = 7 → v = i 86 180) → (x = 8 → v = i 86 176) → (x = 9 → v = i 86 177) → (x.toInt < 0 ∨ 9 < x.toInt → v = -1) → T 84 = (0, 10) ∧ w_X10_count 84 x T n r i w (fun v2 => v = v2 ∧ lw_N z_Inv n T n r i w) :=
    fun v q0 q1 q2 q3 q4 q5 q6 q7 q8 q9 q10 => ⟨h0, m10 _ (fun e => ⟨q0 e, z_N h⟩) (fun e => ⟨q1 e, z_N h⟩) (fun e => ⟨q2 e, z_N h⟩) (fun e => ⟨q3 e, z_N h⟩) (fun e => ⟨q4 e, z_N h⟩) (fun e => ⟨q5 e, z_N h⟩) (fun e => ⟨q6 e, z_N h⟩) (fun e => ⟨q7 e, z_N h⟩) (fun e => ⟨q8 e, z_N h⟩) (fun e => ⟨q9 e, z_N h⟩) (fun e => ⟨q10 e, z_N h⟩)⟩
  unfold w_X9_count
  rw [z_r1_0 hS, z_r1_2 hS, z_r1_8 hS, z_r2_3 hS]
  have fin0 : ∀ (k : Nat) (v : Int32), k < 10 → x = nI k → v = (if k = 0 then i 86 178 else if k = 1 then i 86 179 else if k = 2 then i 84 9 else if k = 3 then i 85 1 else if k = 4 then i 85 2 else if k = 5 then i 85 5 else if k = 6 then i 85 6 else if k = 7 then i 86 180 else if k = 8 then i 86 176 else i 86 177) → T 84 = (0, 10) ∧ w_X10_count 84 x T n r i w (fun v2 => v = v2 ∧ lw_N z_Inv n T n r i w) := by
    intro k v hk hx hv
    have hne : ∀ j, j < 10 → x = nI j → j = k := fun j hj e => (nI_eq (by omega) (by omega)).mp (e.symm.trans hx)
    refine fin v ?_ ?_ ?_ ?_ ?_ ?_ ?_ ?_ ?_ ?_ ?_
    · intro e; have := hne 0 (by decide) e; subst this; exact hv
    · intro e; have := hne 1 (by decide) e; subst this; exact hv
    · intro e; have := hne 2 (by decide) e; subst this; exact hv
    · intro e; have := hne 3 (by decide) e; subst this; exact hv
    · intro e; have := hne 4 (by decide) e; subst this; exact hv
    · intro e; have := hne 5 (by decide) e; subst this; exact hv
    · intro e; have := hne 6 (by decide) e; subst this; exact hv
    · intro e; have := hne 7 (by decide) e; subst this; exact hv
    · intro e; have := hne 8 (by decide) e; subst this; exact hv
    · intro e; have := hne 9 (by decide) e; subst this; exact hv
    · intro e
      rw [hx, nI_toInt (by omega)] at e
      omega
  refine ⟨fun e => ⟨n2, fin0 0 _ (by decide) e k5⟩, fun e => ⟨n2, fin0 1 _ (by decide) e k6⟩, fun e => ⟨z_T18 hS, fin0 2 _ (by decide) e (t2.trans t3.symm)⟩, fun e => ?_, fun e => ?_, fun e => ?_, fun e => ?_, fun e => ⟨n2, fin0 7 _ (by decide) e k7⟩, fun e => ⟨n2, z_kin (k := 0) (z_T15 hS) (by decide) (by decide), fin0 8 _ (by decide) e (k4 0 (by decide))⟩, fun e => ⟨n2, z_kin (k := 1) (z_T15 hS) (by decide) (by decide), fin0 9 _ (by decide) e (k4 1 (by decide))⟩, fun e => ?_⟩
  · have g := fin0 3 (i 83 0) (by decide) e s4
    subst e
    exact ⟨k83 0 (by decide), g⟩
  · have g := fin0 4 (i 83 1) (by decide) e s5
    subst e
    exact ⟨k83 1 (by decide), g⟩
  · have g := fin0 5 (i 83 2) (by decide) e s6
    subst e
    exact ⟨k83 2 (by decide), g⟩
  · have g := fin0 6 (i 83 3) (by decide) e s7
    subst e
    exact ⟨k83 3 (by decide), g⟩
  · have no : ∀ k, k < 10 → x = nI k → (-1 : Int32) = i 86 178 → False ∨ True := fun _ _ _ _ => Or.inr trivial
    have ne : ∀ k, k < 10 → x ≠ nI k := by
      intro k hk q
      rw [q, nI_toInt (by omega)] at e
      omega
    exact fin (-1) (fun q => absurd q (ne 0 (by decide))) (fun q => absurd q (ne 1 (by decide))) (fun q => absurd q (ne 2 (by decide))) (fun q => absurd q (ne 3 (by decide))) (fun q => absurd q (ne 4 (by decide))) (fun q => absurd q (ne 5 (by decide))) (fun q => absurd q (ne 6 (by decide))) (fun q => absurd q (ne 7 (by decide))) (fun q => absurd q (ne 8 (by decide))) (fun q => absurd q (ne 9 (by decide))) (fun _ => rfl)
theorem z_C28 : lw_C28 z_Inv := by
  intro T n r i w x1 x2 h hn
  have hS := h.1
  obtain ⟨d, d1, d2, d3, d4⟩ := h.2.2.2.2.2.2.1
  have no : ∀ Q : Int32 → Prop, ¬ (z_B x1 d ∧ (x2 = -1 ∨ z_B x2 36)) → Q (-1) → w_X10_drawn 84 x1 x2 T n r i w Q := by
    intro Q hq hQ
    unfold w_X10_drawn
    rw [d3]
    refine z_lies0 (by omega) (fun b1 => z_t ⟨fun e => absurd ⟨b1, Or.inl e⟩ hq, fun _ => z_isCell10 (fun b2 => absurd ⟨b1, Or.inr b2⟩ hq) (fun _ => z_f2 hQ)⟩) (fun _ => z_f hQ)
  have hb := z_B_iff (x := x1) (m := d) (by omega)
  unfold w_X9_drawn
  rw [z_r1_7 hS, d2, z_r70_0 hS, z_r70_1 hS]
  refine ⟨fun c => ⟨z_T84 hS, no _ (fun q => (hb.mp q.1).1 c) ⟨rfl, z_N h⟩⟩, fun c => ⟨z_T70 hS, fun c2 => ?_, fun c2 => ⟨z_T84 hS, no _ (fun q => c2 (hb.mp q.1).2) ⟨rfl, z_N h⟩⟩⟩⟩
  have b1 := hb.mpr ⟨c, c2⟩
  have b1' := b1
  obtain ⟨v, hv, rfl⟩ := b1
  have yes : ∀ Q : Int32 → Prop, (x2 = -1 → Q (i 100 v)) → (∀ c, c < 36 → x2 = nI c → Q (i 99 (36 * (v + 1) + c))) → (x2 = -1 ∨ z_B x2 36) → w_X10_drawn 84 (nI v) x2 T n r i w Q := by
    intro Q q1 q2 hx
    have c28 : w_X10_drawn_28 84 (nI v) x2 T n r i w Q := by
      unfold w_X10_drawn_28
      rw [z_r84_25 hS, z_r84_26 hS, nI_clamp (by omega)]
      refine ⟨fun e => ?_, fun e => ⟨z_kin (z_T100 hS) (by omega) (by decide), q1 e⟩⟩
      obtain ⟨c, hc, rfl⟩ := hx.resolve_left e
      have e2 : (36 : Int32) * (nI v + 1) + nI c = nI (36 * (v + 1) + c) := by rw [nI_1, show (36 : Int32) = nI 36 from rfl, pk_mul, nI_add]
      rw [e2, nI_clamp (by omega)]
      exact ⟨z_kin (z_T99 hS) (by omega) (by decide), q2 c hc rfl⟩
    unfold w_X10_drawn
    rw [d3]
    refine z_lies0 (by omega) (fun _ => z_t ⟨fun _ => c28, fun e => z_isCell10 (fun _ => z_t2 c28) (fun b => absurd (hx.resolve_left e) b)⟩) (fun b => absurd b1' b)
  refine ⟨fun e => z_isCell9 (fun b2 => z_t ?_) (fun b2 => z_f ⟨z_T84 hS, no _ (fun q => q.2.elim e b2) ⟨rfl, z_N h⟩⟩), fun e => ?_⟩
  · obtain ⟨c, hc, rfl⟩ := b2
    rw [nI_clamp (by omega), nI_clamp (by omega), z_rwrow hS (by omega)]
    refine ⟨z_kin (z_T71 hS) (by omega) (by decide), z_kin (z_Twrow hS (by omega)) hc (by decide), z_T84 hS, ?_⟩
    refine yes _ (fun q => absurd q e) (fun c' hc' q => ⟨?_, z_N h⟩) (Or.inr ⟨c, hc, rfl⟩)
    rw [← (nI_eq (by omega) (by omega)).mp q]
    exact (d4 v hv).2 c hc
  · rw [nI_clamp (by omega)]
    exact ⟨z_kin (z_T82 hS) (by omega) (by decide), z_T84 hS, yes _ (fun _ => ⟨(d4 v hv).1, z_N h⟩) (fun c hc q => absurd (q.symm.trans e) (z_m1ne (by omega))) (Or.inl e)⟩
