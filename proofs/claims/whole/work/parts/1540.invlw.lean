-- WHAT HOLDS BEHIND A LAW'S READING
def z_lx (b : Nat) : Prop := b = 1 ∨ b = 2 ∨ b = 18 ∨ (20 ≤ b ∧ b ≤ 22) ∨ (83 ≤ b ∧ b ≤ 86) ∨ (92 ≤ b ∧ b ≤ 94)
theorem z_nlx {b : Nat} (h : ¬ (b = 1 ∨ b = 2 ∨ b = 18 ∨ (20 ≤ b ∧ b ≤ 22) ∨ (83 ≤ b ∧ b ≤ 86) ∨ (92 ≤ b ∧ b ≤ 94))) : ¬ z_lx b := h
theorem z_Inv_lw {T T' : kw_T} {n n' : Nat} {r r' : kw_R} {i i' : kw_I} {w : kw_L} {nl : Nat} (h : z_Inv T n r i w) (hn : n ≤ n') (hT : ∀ b, b < n → T' b = T b) (hTn : ∀ b, (T' b).1 < 8 → b < n') (hr : ∀ b, b < n → b ≠ 16 → b ≠ 20 → r' b = r b) (hr20 : ∀ f, f ≠ 2 → r' 20 f = r 20 f) (hi0 : ∀ b, b < n → ¬ z_lx b → i' b = i b) (h2 : ∀ f, f ≠ 6 → i' 2 f = i 2 f) (h26 : i' 2 6 = i' 86 179) (h12 : i' 1 12 = i 1 12) (h36 : i' 84 36 = i 84 36) (hK : ∀ k, k < 179 ∨ k = 180 → i' 86 k = i 86 k) (hnl : i 86 179 = nI nl) (hnl6 : nl ≤ 6) (htk : ∀ j L, j < nl → z_toks (i 86) j L → z_toks (i' 86) j L) (hlw : z_laws T' n' r' i' (r' 16) (i' 86)) (htp : z_tp (i' 18 1) (i' 19) (i' 84 9) (i' 90)) (hsc : z_sc (i' 1 9) (i' 1 10) (i' 1 11) (i' 83) (i' 84 0) (i' 84 5) (i' 84 10) (i' 85)) : z_Inv T' n' r' i' w := by
  have n103 := h.2.1.1
  have hi : ∀ b, b < n → ¬ (b = 1 ∨ b = 2 ∨ b = 18 ∨ (20 ≤ b ∧ b ≤ 22) ∨ (83 ≤ b ∧ b ≤ 86) ∨ (92 ≤ b ∧ b ≤ 94)) → i' b = i b := hi0
  have hS := h.1
  have hS' : z_S T' r' := by
    refine ⟨fun a ha => by rw [hT a (by omega)]; exact hS.1 a ha, fun q hq => ?_⟩
    have hg : ∀ q ∈ z_rl, q.1 < 103 ∧ q.1 ≠ 16 ∧ ¬ (q.1 = 20 ∧ q.2.1 = 2) := by decide +kernel
    obtain ⟨g1, g2, g3⟩ := hg q hq
    by_cases y : q.1 = 20
    · rw [y, hr20 _ (fun z => g3 ⟨y, z⟩), ← y]
      exact hS.2 q hq
    · rw [hr _ (by omega) g2 y]
      exact hS.2 q hq
  obtain ⟨c1, c2, ⟨n1, ⟨nv, hKr⟩, n3⟩, c4, c5, c6, c7, c8, c9, c10⟩ := h
  have lawmv : ∀ (ro ro' : Nat → Nat) (K K' : Nat → Int32), z_laws T n r i ro K → (∀ j, j < 6 → ro' j = ro j) → (∀ p, 179 ≤ p → p < 4987 → K' p = K p) → z_laws T' n' r' i' ro' K' := fun ro ro' K K' hl hro hK => z_laws_mv hl hn hT hro (fun b b1 b2 _ => hr b b2 (by omega) (by omega)) (fun a b a1 a2 _ _ _ b1 b2 => hi b (by omega) (by omega)) hK
  refine ⟨hS', ⟨by omega, hTn⟩, ⟨?_, ⟨nv, z_Kr_eq hKr (fun k hk => hK k (Or.inl hk))⟩, hlw⟩, ⟨fun k hk => ?_, ?_⟩, htp, hsc, ?_, ?_, ?_, ?_⟩
  · obtain ⟨a1, a2, a3, a4, a5, a6, a7⟩ := n1
    refine ⟨fun j v hj hv => ?_, fun q c hq hc => ?_, fun c hc => ?_, fun t ht => ?_, ?_, h26, ?_⟩
    · rw [hi _ (by omega) (by omega), hK _ (by omega)]; exact a1 j v hj hv
    · rw [hi _ (by omega) (by omega), hK _ (by omega)]; exact a2 q c hq hc
    · rw [hi _ (by omega) (by omega), hK _ (by omega)]; exact a3 c hc
    · rw [hi _ (by omega) (by omega), hK _ (by omega)]; exact a4 t ht
    · rw [h2 5 (by decide), hK 178 (by omega)]; exact a5
    · rw [h2 7 (by decide), hK 180 (by omega)]; exact a7
  · obtain ⟨a1, a2, a3⟩ := c4.1 k hk
    rw [hi 88 (by omega) (by omega), hr 17 (by omega) (by decide) (by decide)]
    refine ⟨a1, a2, fun z => ?_⟩
    obtain ⟨b1, b2, b3, b4, ⟨nv', b5⟩, b6⟩ := a3 z
    have iKe : z_iK i' k = z_iK i k := by
      unfold z_iK
      rw [hi 87 (by omega) (by omega)]
    rw [iKe]
    refine ⟨b1, by omega, z_sh_mv b3 (fun b x1 x2 => hT b (by omega)) (fun b x1 x2 => hr b (by omega) (by omega) (by omega)), z_SK_eq b4 (by rw [hi _ (by omega) (by omega)]; exact ⟨rfl, rfl, rfl⟩) (fun b x1 x2 => hi b (by omega) (by omega)) (fun _ _ => rfl), ⟨nv', b5⟩, lawmv _ _ _ _ b6 (fun j _ => by rw [hr _ (by omega) (by omega) (by omega)]) (fun _ _ _ => rfl)⟩
  · rw [hr 17 (by omega) (by decide) (by decide)]
    exact c4.2
  · obtain ⟨d, d1, d2, d3, d4⟩ := c7
    refine ⟨d, d1, by rw [hi 70 (by omega) (by omega)]; exact d2, by rw [h36]; exact d3, fun v hv => ?_⟩
    rw [hi 82 (by omega) (by omega), hi 100 (by omega) (by omega), hi 99 (by omega) (by omega), hi (72 + v) (by omega) (by omega)]
    exact d4 v hv
  · rw [hi 89 (by omega) (by omega)]; exact c8
  · rw [hi 24 (by omega) (by omega)]; exact c9
  · intro q
    rw [h12] at q
    obtain ⟨nv2, L, k1, k2, ⟨d1, ⟨⟨l1, l2, l3, l4, cd, st, nc, l5, l6⟩, d3, d4, d5⟩, d6, d7, d8⟩, k4⟩ := c10 q
    have hn10 := k1.1
    have e24 : i' 24 = i 24 := hi 24 (by omega) (by omega)
    have r24 : r' 24 = r 24 := hr 24 (by omega) (by decide) (by decide)
    have r23 : r' 23 = r 23 := hr 23 (by omega) (by decide) (by decide)
    have E10 := z_E0_10 (L := L) hK
    refine ⟨nv2, L, z_Kr_eq k1 (fun k hk => hK k (Or.inl hk)), fun z => ?_, ⟨by rw [r23]; exact d1, ⟨⟨by rw [e24]; exact l1, l2, fun v hv => ?_, fun v c hv hc => ?_, cd, st, nc, fun z => ?_, fun ask d => ?_⟩, fun v hv => ?_, ?_, fun v c => rfl⟩, by rw [e24]; exact d6, fun v hv c hc => ?_, fun z v hv c hc => ?_⟩, z_gs_eq (z_gs_K hK hn10 k4) (by rw [hi 52 (by omega) (by omega)]; exact ⟨rfl, rfl, rfl⟩) (fun b b1 b2 => hi b (by omega) (by omega))⟩
    · rw [hK 180 (Or.inr rfl)] at z
      obtain ⟨j, j1, j2, j3⟩ := k2 z
      refine ⟨j, j1, by rw [hK 180 (Or.inr rfl)]; exact j2, htk j L ?_ j3⟩
      obtain ⟨-, nl', m1, m2, m3, -⟩ := n3
      have enl : nl' = nl := (nI_eq (by omega) (by omega)).mp (m2.symm.trans hnl)
      rcases m3 with m3 | ⟨f, f1, f2⟩
      · exact absurd m3 z
      · have : f = j := (nI_eq (by omega) (by omega)).mp (f2.symm.trans j2)
        omega
    · rw [hi 26 (by omega) (by omega), (E10.1 v (by omega)).1]
      exact l3 v hv
    · rw [(E10.1 v (by omega)).2.1 c]
      unfold z_seesC
      rw [e24]
      exact l4 v c hv hc
    · rw [r24] at z ⊢
      obtain ⟨⟨x1, x2, x3, x4, x5, x6, ⟨mm, x7, x8, x9, x10⟩, x11⟩, x12⟩ := l5 z
      have b1 : r 24 7 < n := c2.2 _ (by rw [x1]; decide)
      have b2 : r 24 7 + 1 < n := c2.2 _ (by rw [x6]; exact (by decide : 1 < 8))
      have b3 : r 24 7 + 2 < n := c2.2 _ (by rw [x7]; exact (by decide : 1 < 8))
      have im : ∀ b, r 24 7 ≤ b → b ≤ r 24 7 + 2 → i' b = i b := fun b y1 y2 => hi b (by omega) (by omega)
      have rla : r' (r 24 7) = r (r 24 7) := hr _ b1 (by omega) (by omega)
      exact ⟨⟨by rw [hT _ b1]; exact x1, by rw [rla]; exact x2, by rw [rla]; exact x3, x4, by rw [im _ (Nat.le_refl _) (by omega)]; exact x5, by rw [hT _ b2]; exact x6, ⟨mm, by rw [hT _ b3]; exact x7, x8, by rw [im _ (by omega) (Nat.le_refl _)]; exact x9, x10⟩, by rw [im _ (by omega) (by omega)]; exact x11⟩, x12⟩
    · rw [E10.2.2, r24]
      exact l6 ask d
    · rw [hi 27 (by omega) (by omega), (E10.1 v (by omega)).2.2.1]
      exact d3 v hv
    · rw [hi 29 (by omega) (by omega), E10.2.1]
      exact d4
    · rw [hi (31 + v) (by omega) (by omega), z_on_10 hK (by omega) c hc]
      exact d7 v hv c hc
    · rw [hi 23 (by omega) (by omega)] at z
      rw [hi (42 + v) (by omega) (by omega), z_rw_10 hK hn10 c hc]
      exact d8 z v hv c hc
