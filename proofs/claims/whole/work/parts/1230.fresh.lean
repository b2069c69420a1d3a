-- THE ROAD IS WOVEN WHERE IT IS ASKED FOR
def z_fr (T : kw_T) (n : Nat) (r : kw_R) (i : kw_I) (w : kw_L) (nv : Nat) (L : List z_Sm) : Prop := z_Inv T n r i w ∧ i 1 12 = 0 ∧ z_Kr (i 86) nv ∧ z_Lk (i 86) L ∧ z_rd T r i w (i 86) nv L ∧ z_gs i (i 86) nv L
theorem z_im_r {T : kw_T} {n : Nat} {r r' : kw_R} {i : kw_I} (h : z_im T n r i) (h17 : r' 17 = r 17) (hd : ∀ b, 103 ≤ b → r' b = r b) : z_im T n r' i := by
  obtain ⟨h1, h2⟩ := h
  refine ⟨fun k hk => ?_, by rw [h17]; exact h2⟩
  obtain ⟨g1, g2, g3⟩ := h1 k hk
  rw [h17]
  refine ⟨g1, g2, fun q => ?_⟩
  obtain ⟨a1, a2, ⟨b1, b2, b3, b4, b5, b6, b7, b8, b9, b10, b11, b12, b13⟩, a4, a5, a6⟩ := g3 q
  refine ⟨a1, a2, ⟨b1, b2, fun j hj => ⟨(b3 j hj).1, by rw [hd _ (by omega)]; exact (b3 j hj).2⟩, b4, fun j hj => ⟨(b5 j hj).1, by rw [hd _ (by omega)]; exact (b5 j hj).2⟩, b6, b7, b8, ?_, ?_, ?_, ?_, ?_⟩, a4, a5, z_laws_eq a6 (fun j _ => by rw [hd _ (by omega)]) (fun b hb _ => hd b hb) (fun _ _ _ _ _ _ => rfl)⟩
  · rw [hd _ a1]; exact b9
  · rw [hd _ a1]; exact b10
  · rw [hd _ a1]; exact b11
  · rw [hd _ a1]; exact b12
  · rw [hd _ a1]; exact b13
theorem z_laws_in {T : kw_T} {n : Nat} {r : kw_R} {i : kw_I} {K : Nat → Int32} (h : z_laws T n r i (r 16) K) : ∃ L la, z_inF T r i K L la ∧ z_Lk K L := by
  obtain ⟨-, nl, h2, h3, h4, h5⟩ := h
  rcases h4 with e | ⟨f, hf, e⟩
  · exact ⟨[], 0, Or.inl ⟨e, rfl⟩, fun q => absurd e q⟩
  · obtain ⟨-, L, g2, g3⟩ := h5 f hf
    exact ⟨L, r 16 f, Or.inr ⟨f, nl, hf, h2, e, h3, rfl, g2⟩, fun _ => ⟨f, by omega, e, g3⟩⟩
section ZFR
variable {T : kw_T} {n : Nat} {r : kw_R} {i : kw_I} {w : kw_L} {nv : Nat} {L : List z_Sm}
theorem z_forget (hS : z_S T r) {Q : kw_I → Prop} (hQ : ∀ i', (∀ b, b ≠ 52 → b ≠ 61 → i' b = i b) → (∀ s, s < 4 → i' 61 s = 0) → i' 52 8 = 0 → i' 52 11 = 0 → Q i') : w_X0_forget 52 T n r i w Q := by
  have loop : ∀ (d s : Nat) (j : kw_I), s + d = 4 → z_io 61 i j → (∀ s', s' < s → j 61 s' = 0) → w_X0_forget_2 52 T n r w Q (d + 1) (nI s) j := by
    intro d
    induction d with
    | zero =>
      intro s j hs h1 h2
      have : s = 4 := by omega
      subst this
      refine ⟨fun _ j1 e1 j2 e2 => hQ j2 (fun b b1 b2 => by rw [e2, kw_st_offF b1, e1, kw_st_offF b1, h1 b b2]) (fun s hs => by rw [e2, kw_st_off (by decide), e1, kw_st_off (by decide)]; exact h2 s hs) ?_ ?_, fun h => absurd (by decide) h⟩
      · rw [e2, kw_st_row, if_neg (by decide), e1, kw_st_same]
      · rw [e2, kw_st_same]
    | succ d ih =>
      intro s j hs h1 h2
      refine ⟨fun h => absurd h (nI_nlt (a := 3) (by omega) (by decide)), fun _ => ?_⟩
      rw [z_r52_6 hS, nI_clamp (by omega), nI_1]
      refine ⟨z_kin (z_T61 hS) (by omega) (by decide), fun j1 e1 => ih (s + 1) j1 (by omega) (by rw [e1]; exact z_io_st h1) (fun s' hs' => ?_)⟩
      rw [e1, kw_st_row]
      by_cases q : s' = s
      · rw [if_pos q]
      · rw [if_neg q]
        exact h2 s' (by omega)
  exact ⟨5, loop 4 0 i (by omega) (fun _ _ => rfl) (fun s' hs' => absurd hs' (Nat.not_lt_zero s'))⟩
theorem z_weaveIf (h : z_Inv T n r i w) {Q : kw_R → kw_I → kw_L → Prop} (hQ : ∀ r' i' w' nv L, z_fr T n r' i' w' nv L → i' 86 = i 86 → i' 2 = i 2 → Q r' i' w') : w_X9_weaveIfStale 1 T n r i w Q := by
  have hS := h.1
  refine ⟨fun c => ?_, fun c => ?_⟩
  · obtain ⟨n1, ⟨nv, hK⟩, n3⟩ := h.2.2.1
    obtain ⟨L, la, hL, hLk⟩ := z_laws_in n3
    rw [z_r1_4 hS, z_r1_0 hS]
    refine ⟨z_T23 hS, z_weaveAll hS n1 hK hL h.2.2.2.2.2.2.2.2.1 fun i1 w1 a1 a2 a3 a4 a5 => ?_⟩
    have rr : ∀ b, b ≠ 23 → b ≠ 24 → kw_st (kw_st r 23 3 10) 24 7 la b = r b := fun b b1 b2 => by rw [kw_st_offF b2, kw_st_offF b1]
    have hS1 : z_S T (kw_st (kw_st r 23 3 10) 24 7 la) := z_S_eq hS (fun a k h1 h2 _ _ _ => by
      by_cases q : a = 24
      · subst q
        rw [kw_st_row, if_neg (fun e => h2 (by rw [e])), kw_st_off (by decide)]
      · rw [kw_st_off q]
        by_cases q2 : a = 23
        · subst q2
          rw [kw_st_row, if_neg (fun e => h1 (by rw [e]))]
        · rw [kw_st_off q2])
    have e15 : kw_st (kw_st r 23 3 10) 24 7 la 1 5 = 52 := z_r1_5 hS1
    rw [e15]
    refine ⟨z_T52 hS, z_forget hS1 fun i2 b1 b2 b3 b4 i3 e3 => ?_⟩
    have o3 : ∀ b, b ≠ 1 → b ≠ 52 → b ≠ 61 → i3 b = i1 b := fun b c1 c2 c3 => by rw [e3, kw_st_offF c1, b1 b c2 c3]
    have o : ∀ b, b ≠ 1 → b ≠ 52 → b ≠ 61 → (b < 23 ∨ 40 < b) → i3 b = i b := fun b c1 c2 c3 c4 => by rw [o3 b c1 c2 c3, a1 b c4]
    have e86 : i3 86 = i 86 := o 86 (by decide) (by decide) (by decide) (by decide)
    have hd : ∀ b, 103 ≤ b → i3 b = i b := fun b hb => o b (by omega) (by omega) (by omega) (by omega)
    have f1 : ∀ f, f ≠ 12 → i3 1 f = i 1 f := fun f hf => by rw [e3, kw_st_row, if_neg hf, b1 1 (by decide) (by decide), a1 1 (by decide)]
    have f12 : i3 1 12 = 0 := by rw [e3, kw_st_same]
    have rd : z_rd T (kw_st (kw_st r 23 3 10) 24 7 la) i3 w1 (i 86) nv L := z_rd_eq a4 (o3 24 (by decide) (by decide) (by decide)) (o3 26 (by decide) (by decide) (by decide)) (o3 27 (by decide) (by decide) (by decide)) (by rw [o3 29 (by decide) (by decide) (by decide)]) (fun b hb => o3 b (by omega) (by omega) (by omega)) rfl (by rw [o3 23 (by decide) (by decide) (by decide)]) (fun b c1 c2 => o3 b (by omega) (by omega) (by omega)) hK.1
    have gs : z_gs i3 (i 86) nv L := by
      refine ⟨fun s hs q => absurd ?_ q, fun q => absurd ?_ q, fun q => absurd ?_ q⟩
      · rw [e3, kw_st_off (by decide)]
        exact b2 s hs
      · rw [e3, kw_st_off (by decide)]
        exact b3
      · rw [e3, kw_st_off (by decide)]
        exact b4
    refine hQ _ i3 w1 nv L ⟨⟨hS1, h.2.1, ⟨?_, ?_, ?_⟩, ?_, ?_, ?_, ?_, ?_, ?_, ?_⟩, f12, by rw [e86]; exact hK, by rw [e86]; exact hLk, by rw [e86]; exact rd, by rw [e86]; exact gs⟩ e86 (o 2 (by decide) (by decide) (by decide) (by decide))
    · rw [e86]
      exact z_SK_eq n1 (by rw [o 2 (by decide) (by decide) (by decide) (by decide)]; exact ⟨rfl, rfl, rfl⟩) (fun b c1 c2 => o b (by omega) (by omega) (by omega) (by omega)) (fun _ _ => rfl)
    · rw [e86]
      exact ⟨nv, hK⟩
    · rw [e86]
      exact z_laws_eq n3 (fun j _ => by rw [rr 16 (by decide) (by decide)]) (fun b hb _ => rr b (by omega) (by omega)) (fun a b ha _ c1 _ => hd b (by omega))
    · exact z_im_r (z_im_eq h.2.2.2.1 (o 87 (by decide) (by decide) (by decide) (by decide)) (o 88 (by decide) (by decide) (by decide) (by decide)) hd) (rr 17 (by decide) (by decide)) (fun b hb => rr b (by omega) (by omega))
    · rw [o 18 (by decide) (by decide) (by decide) (by decide), o 19 (by decide) (by decide) (by decide) (by decide), o 84 (by decide) (by decide) (by decide) (by decide), o 90 (by decide) (by decide) (by decide) (by decide)]
      exact h.2.2.2.2.1
    · rw [f1 9 (by decide), f1 10 (by decide), f1 11 (by decide), o 83 (by decide) (by decide) (by decide) (by decide), o 84 (by decide) (by decide) (by decide) (by decide), o 85 (by decide) (by decide) (by decide) (by decide)]
      exact h.2.2.2.2.2.1
    · obtain ⟨d, d1, d2, d3, d4⟩ := h.2.2.2.2.2.2.1
      refine ⟨d, d1, by rw [o 70 (by decide) (by decide) (by decide) (by decide)]; exact d2, by rw [o 84 (by decide) (by decide) (by decide) (by decide)]; exact d3, fun v hv => ?_⟩
      rw [o 82 (by decide) (by decide) (by decide) (by decide), o 100 (by decide) (by decide) (by decide) (by decide), o 99 (by decide) (by decide) (by decide) (by decide), o (72 + v) (by omega) (by omega) (by omega) (by omega)]
      exact d4 v hv
    · rw [o 89 (by decide) (by decide) (by decide) (by decide)]
      exact h.2.2.2.2.2.2.2.1
    · exact rd.2.2.1
    · intro _
      exact ⟨nv, L, by rw [e86]; exact hK, by rw [e86]; exact hLk, by rw [e86]; exact rd, by rw [e86]; exact gs⟩
  · obtain ⟨nv, L, k1, k2, k3, k4⟩ := h.2.2.2.2.2.2.2.2.2 c
    exact hQ r i w nv L ⟨h, c, k1, k2, k3, k4⟩ rfl rfl
/-- the picture of a village on the road, or the first -/
theorem z_picture (h : z_fr T n r i w nv L) {x : Int32} {m : Nat} (hx : (x < 0 ∧ m = 0) ∨ (∃ v, v < nv ∧ x = nI v ∧ m = v + 1)) {Q : Nat → Prop} (hQ : ∀ a, T a = (1, 36) → (∀ c, c < 36 → i a c = z_on (i 86) L m c) → ((m = 0 ∧ a = 11) ∨ (1 ≤ m ∧ a = 30 + m)) → Q a) : w_X5_picture 23 x T n r i w Q := by
  have hS := h.1.1
  obtain ⟨rd1, rd2, rd3, rd4, rd5⟩ := h.2.2.2.2.1
  have hn := h.2.2.1.1
  unfold w_X5_picture
  have e10 : r 10 ((0 : Int32)).toNatClampNeg = 11 := z_r10_0 hS
  rw [rd1, e10, z_r23_0 hS, z_r23_1 hS]
  have k10 : kw_in T 5 10 (0 : Int32) := z_kin (k := 0) (z_T10 hS) (by decide) (by decide)
  have first : m = 0 → Q 11 := fun em => hQ 11 (z_T11 hS) (fun c hc => by rw [em]; exact h.1.2.2.1.1.2.1 0 c (by decide) hc) (Or.inl ⟨em, rfl⟩)
  rcases hx with ⟨hx, em⟩ | ⟨v, hv, rfl, em⟩
  · exact ⟨fun _ => ⟨k10, first em⟩, fun q => absurd hx q⟩
  · refine ⟨fun q => absurd q (nI_pos (by omega)), fun _ => ⟨z_T24 hS, fun q => absurd q (by rw [rd2.1.1]; exact nI_ge hv (by omega)), fun _ => ?_⟩⟩
    rw [nI_clamp (by omega), z_rorow hS (by omega)]
    exact ⟨z_kin (z_T30 hS) (by omega) (by decide), hQ (31 + v) (z_Torow hS (by omega)) (fun c hc => by rw [em]; exact rd4 v hv c hc) (Or.inr (by omega))⟩
theorem z_last (h : z_fr T n r i w nv L) {Q : Nat → Prop} (hQ : ∀ a, T a = (1, 36) → (∀ c, c < 36 → i a c = z_on (i 86) L nv c) → ((nv = 0 ∧ a = 11) ∨ (1 ≤ nv ∧ a = 30 + nv)) → Q a) : w_X5_last 23 T n r i w Q := by
  have hS := h.1.1
  have hn := h.2.2.1.1
  unfold w_X5_last
  rw [z_r23_0 hS, h.2.2.2.2.1.2.1.1.1]
  refine ⟨z_T24 hS, z_picture h (m := nv) ?_ hQ⟩
  rcases Nat.eq_zero_or_pos nv with q | q
  · left
    rw [q]
    exact ⟨by decide, rfl⟩
  · right
    exact ⟨nv - 1, by omega, pk_sub (b := 1) q, by omega⟩
/-- backwards -/
theorem z_backward (h : z_fr T n r i w nv L) {Q : Nat → kw_I → kw_L → Prop} (hQ : ∀ i' w', z_fr T n r i' w' nv L → i' 86 = i 86 → i' 2 = i 2 → i' 23 4 ≠ 0 → (∀ v, v < nv → ∀ c, c < 36 → i' (42 + v) c = z_rw (i 86) L nv v c) → Q 41 i' w') : w_X5_backward 23 T n r i w Q := by
  have hS := h.1.1
  have h' := h
  obtain ⟨hI, c12, hK, hLk, rd, gs⟩ := h
  obtain ⟨rd1, rd2, rd3, rd4, rd5⟩ := rd
  have hn := hK.1
  unfold w_X5_backward
  rw [z_r23_2 hS, rd1, z_r23_0 hS]
  have e10 : r 10 ((1 : Int32)).toNatClampNeg = 12 := z_r10_1 hS
  rw [e10]
  refine ⟨fun c => hQ i w h' rfl rfl c (rd5 c), fun c => ⟨z_kin (k := 1) (z_T10 hS) (by decide) (by decide), z_T24 hS, nv + 1, ?_⟩⟩
  rw [rd2.1.1]
  have loop : ∀ (d m sa : Nat) (j : kw_I) (u : kw_L), m + d = nv → (sa = if m = 0 then 12 else 42 + d) → (∀ b, b ≠ 29 → (b < 42 ∨ 51 < b) → j b = i b) → j 29 8 = i 29 8 → z_wo 28 w u → (∀ v, d ≤ v → v < nv → ∀ c, c < 36 → j (42 + v) c = z_rw (i 86) L nv v c) → w_X5_backward_24 23 T n r Q (d + 1) sa (nI d - 1) j u := by
    intro d
    induction d with
    | zero =>
      intro m sa j u hd hsa h1 h2 h3 h4
      refine ⟨fun _ i58 e58 => ?_, fun q => absurd (by decide) q⟩
      rw [z_r23_2 hS]
      have o : ∀ b, b ≠ 23 → b ≠ 29 → (b < 42 ∨ 51 < b) → i58 b = i b := fun b b1 b2 b3 => by rw [e58, kw_st_offF b1, h1 b b2 b3]
      have o2 : ∀ b, b ≠ 23 → i58 b = j b := fun b b1 => by rw [e58, kw_st_offF b1]
      have e86 : i58 86 = i 86 := o 86 (by decide) (by decide) (by decide)
      have e4 : i58 23 4 = 1 := by rw [e58, kw_st_same]
      have e29 : i58 29 8 = i 29 8 := by rw [o2 29 (by decide)]; exact h2
      have rows : ∀ v, v < nv → ∀ c, c < 36 → i58 (42 + v) c = z_rw (i 86) L nv v c := fun v hv c hc => by rw [o2 _ (by omega)]; exact h4 v (Nat.zero_le _) hv c hc
      have rd' : z_rd T r i58 u (i 86) nv L := by
        refine ⟨rd1, z_lE_io rd2 (o 24 (by decide) (by decide) (by decide)) (o 26 (by decide) (by decide) (by decide)) (o 27 (by decide) (by decide) (by decide)) e29 (fun b hb => o b (by omega) (by omega) (by omega)) (h3 25 (by decide)), by rw [o 24 (by decide) (by decide) (by decide)]; exact rd3, fun v hv => ?_, fun _ => rows⟩
        rw [o _ (by omega) (by omega) (by omega)]
        exact rd4 v hv
      have gs' : z_gs i58 (i 86) nv L := z_gs_eq gs (by rw [o 52 (by decide) (by decide) (by decide)]; exact ⟨rfl, rfl, rfl⟩) (fun b b1 b2 => o b (by omega) (by omega) (by omega))
      obtain ⟨c1, c2, ⟨n1, n2, n3⟩, c4, c5, c6, c7, c8, c9, c10⟩ := hI
      refine hQ i58 u ⟨⟨c1, c2, ⟨?_, ?_, ?_⟩, ?_, ?_, ?_, ?_, ?_, ?_, ?_⟩, ?_, ?_, ?_, ?_, ?_⟩ e86 (o 2 (by decide) (by decide) (by decide)) (by rw [e4]; decide) rows
      · rw [e86]
        exact z_SK_eq n1 (by rw [o 2 (by decide) (by decide) (by decide)]; exact ⟨rfl, rfl, rfl⟩) (fun b b1 b2 => o b (by omega) (by omega) (by omega)) (fun _ _ => rfl)
      · rw [e86]; exact n2
      · rw [e86]
        exact z_laws_eq n3 (fun _ _ => rfl) (fun _ _ _ => rfl) (fun a b ha _ c1 _ => o b (by omega) (by omega) (by omega))
      · exact z_im_eq c4 (o 87 (by decide) (by decide) (by decide)) (o 88 (by decide) (by decide) (by decide)) (fun b hb => o b (by omega) (by omega) (by omega))
      · rw [o 18 (by decide) (by decide) (by decide), o 19 (by decide) (by decide) (by decide), o 84 (by decide) (by decide) (by decide), o 90 (by decide) (by decide) (by decide)]
        exact c5
      · rw [o 1 (by decide) (by decide) (by decide), o 83 (by decide) (by decide) (by decide), o 84 (by decide) (by decide) (by decide), o 85 (by decide) (by decide) (by decide)]
        exact c6
      · obtain ⟨d, d1, d2, d3, d4⟩ := c7
        refine ⟨d, d1, by rw [o 70 (by decide) (by decide) (by decide)]; exact d2, by rw [o 84 (by decide) (by decide) (by decide)]; exact d3, fun v hv => ?_⟩
        rw [o 82 (by decide) (by decide) (by decide), o 100 (by decide) (by decide) (by decide), o 99 (by decide) (by decide) (by decide), o (72 + v) (by omega) (by omega) (by omega)]
        exact d4 v hv
      · rw [o 89 (by decide) (by decide) (by decide)]; exact c8
      · rw [o 24 (by decide) (by decide) (by decide)]; exact c9
      · intro _
        rw [e86]
        exact ⟨nv, L, hK, hLk, rd', gs'⟩
      · rw [o 1 (by decide) (by decide) (by decide)]; exact c12
      · rw [e86]; exact hK
      · rw [e86]; exact hLk
      · rw [e86]; exact rd'
      · rw [e86]; exact gs'
    | succ d ih =>
      intro m sa j u hd hsa h1 h2 h3 h4
      rw [z_m1]
      refine ⟨fun q => absurd q (nI_pos (by omega)), fun _ => ?_⟩
      rw [z_r23_2 hS, z_r23_0 hS, nI_clamp (by omega), z_rrrow hS (by omega)]
      have k41 : kw_in T 5 41 (nI d) := z_kin (z_T41 hS) (by omega) (by decide)
      have hEj : z_lE T r j u nv (z_E0 (i 86) L) := z_lE_io rd2 (h1 24 (by decide) (by decide)) (h1 26 (by decide) (by decide)) (h1 27 (by decide) (by decide)) h2 (fun b hb => h1 b (by omega) (by omega)) (h3 25 (by decide))
      have hTsa : T sa = (1, 36) := by
        rw [hsa]
        by_cases q : m = 0
        · rw [if_pos q]
          exact z_T12 hS
        · rw [if_neg q]
          exact z_Trrow hS (by omega)
      have hsrc : ∀ c, c < 36 → j sa c = z_bk (z_E0 (i 86) L) (fun c => i 86 (96 + c)) nv m c := by
        intro c hc
        rw [hsa]
        by_cases q : m = 0
        · rw [if_pos q, h1 12 (by decide) (by decide), q]
          exact hI.2.2.1.1.2.1 1 c (by decide) hc
        · rw [if_neg q, h4 (d + 1) (by omega) (by omega) c hc]
          unfold z_rw
          rw [show nv - (d + 1) = m by omega]
      refine ⟨k41, z_T24 hS, z_weaveE hS hEj (by omega) hTsa (z_Trrow hS (by omega)) (by rw [hsa]; by_cases q : m = 0 <;> simp [q] <;> omega) (by rw [hsa]; by_cases q : m = 0 <;> simp [q] <;> omega) (by omega) fun j2 u2 a1 a2 a3 a4 => ⟨k41, ?_⟩⟩
      have nx := ih (m + 1) (42 + d) j2 u2 (by omega) (by rw [if_neg (by omega)]) (fun b b1 b2 => by rw [a1 b b1 (by omega)]; exact h1 b b1 b2) (by rw [a2]; exact h2) (fun b hb => (a3 b hb).trans (h3 b hb)) (fun v v1 v2 c hc => ?_)
      · rw [Int32.sub_eq_add_neg] at nx
        exact nx
      · rcases Nat.lt_or_ge d v with q | q
        · rw [a1 _ (by omega) (by omega)]
          exact h4 v (by omega) v2 c hc
        · have : v = d := by omega
          subst this
          rw [a4 c hc]
          unfold z_rw
          rw [show nv - v = m + 1 by omega]
          show _ = z_wv (z_E0 (i 86) L) (nv - 1 - m) _ c
          rw [show nv - 1 - m = v by omega]
          exact z_wv_eq hsrc c hc
  exact loop nv 0 12 i w (by omega) rfl (fun _ _ _ => rfl) rfl (fun _ _ => rfl) (fun v v1 v2 => by omega)
end ZFR
