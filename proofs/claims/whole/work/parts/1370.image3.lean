-- AN IMAGE IS KEPT
section ZIM
variable {T T' : kw_T} {n n' : Nat} {r r' : kw_R} {i i' : kw_I} {w : kw_L}
theorem z_imgE (h : z_Inv T n r i w) {k s : Nat} (hk : k < 2) (hn : n ≤ n') (hn2 : n' ≤ n + 20) (hT : ∀ b, b < n → T' b = T b) (hTn : ∀ b, (T' b).1 < 8 → b < n') (hr : ∀ b, b < n → b ≠ 17 → r' b = r b) (hr17 : ∀ q, q ≠ k → r' 17 q = r 17 q) (hi : ∀ b, b < n → i' b = i b) (es : r' 17 k = s) (hsh : z_sh T' r' s) (hs : 103 ≤ s) (hs2 : s + 14 < n') (hold : n ≤ s ∨ (r 17 k = s ∧ s + 14 < n)) : w_X9_image_37 1 (nI k) w (fun v T1 n1 r1 i1 => T1 84 = (0, 10) ∧ w_X10_image 84 (nI k) T1 n1 r1 i1 w (fun v2 i2 => v = v2 ∧ lw_N z_Inv n T1 n1 r1 i2 w)) T' n' r' i' := by
  have n103 := h.2.1.1
  have hS := h.1
  have hS' : z_S T' r' := ⟨fun a ha => by rw [hT a (by omega)]; exact hS.1 a ha, (z_S_eq hS (fun a k _ _ ha _ h17 => by rw [hr a (by omega) h17])).2⟩
  unfold w_X9_image_37
  rw [z_r1_1 hS', z_r1_0 hS', nI_clamp (by omega), es]
  have elr : ∀ j, j < 6 → kw_el T' 1 (r' (2 + 14) j) := fun j hj => by
    have e : r' (2 + 14) = r 16 := hr 16 (by omega) (by decide)
    rw [e]
    obtain ⟨a, b⟩ := h.2.2.1.2.2.1 j hj
    rcases a with a | a
    · exact Or.inl a
    · right
      rw [hT _ b]
      exact a
  refine ⟨z_T1 hS', z_kin (z_T17 hS') hk (by decide), hsh.1, z_copyFrom hsh (z_sh_2 hS') (by omega) elr fun r2 i2 q1 q2 q3 i3 e3 => ?_⟩
  have hS2 : z_S T' r2 := z_S_eq hS' (fun a k _ _ ha _ _ => by rw [q1 a (by omega)])
  have o3 : ∀ b, b ≠ 1 → b < n → (b < s ∨ s + 13 < b) → i3 b = i b := fun b b1 b2 b3 => by rw [e3, kw_st_offF b1, q3.1 b b3, hi b b2]
  have f3 : ∀ b, b ≠ 1 → b < 103 → i3 b = i b := fun b b1 b2 => o3 b b1 (by omega) (by omega)
  refine ⟨z_T84 hS', z_lies (m := 1) (by decide) (fun _ => z_t2 ⟨4988, ?_⟩) (fun q => absurd ⟨k, hk, rfl⟩ q)⟩
  have loop : ∀ (d p : Nat) (m : kw_I), p + d = 4987 → z_io 87 i3 m → (∀ p', m 87 p' = if 4987 * k ≤ p' ∧ p' < 4987 * k + p then i 86 (p' - 4987 * k) else i 87 p') → w_X10_image_17 84 (nI k) T' n' r2 w (fun v2 i2 => (0 : Int32) = v2 ∧ lw_N z_Inv n T' n' r2 i2 w) (d + 1) (nI p) m := by
    intro d
    induction d with
    | zero =>
      intro p m hd g1 g2
      have : p = 4987 := by omega
      subst this
      show s_X10_image_17 84 (nI k) T' n' r2 w _ _ (nI 4987) m
      unfold s_X10_image_17
      rw [z_r84_4 hS2, nI_clamp (show k < 2 ^ 31 by omega)]
      refine ⟨fun _ => ⟨z_kin (z_T88 hS2) hk (by decide), fun m2 f2 m3 f3' => ⟨rfl, ?_, by omega⟩⟩, fun q => absurd (by decide) q⟩
      have o5 : ∀ b, b ≠ 84 → b ≠ 87 → b ≠ 88 → m3 b = i3 b := fun b b1 b2 b3 => by rw [f3', kw_st_offF b1, f2, kw_st_offF b3, g1 b b2]
      have o6 : ∀ b, b ≠ 1 → b < 103 → b ≠ 84 → b ≠ 87 → b ≠ 88 → m3 b = i b := fun b b1 b2 b3 b4 b5 => by rw [o5 b b3 b4 b5, f3 b b1 b2]
      have o7 : ∀ b, 103 ≤ b → b < n → (b < s ∨ s + 13 < b) → m3 b = i b := fun b b1 b2 b3 => by rw [o5 b (by omega) (by omega) (by omega), o3 b (by omega) b2 b3]
      have p84 : ∀ f, f ≠ 0 → m3 84 f = i 84 f := fun f hf => by rw [f3', kw_st_row, if_neg hf, f2, kw_st_off (by decide), g1 84 (by decide), f3 84 (by decide) (by decide)]
      have p1 : ∀ f, f ≠ 9 → m3 1 f = i 1 f := fun f hf => by rw [o5 1 (by decide) (by decide) (by decide), e3, kw_st_row, if_neg hf, q3.1 1 (by omega), hi 1 (by omega)]
      have e86 : m3 86 = i 86 := o6 86 (by decide) (by decide) (by decide) (by decide) (by decide)
      have n87 : ∀ p', m3 87 p' = if 4987 * k ≤ p' ∧ p' < 4987 * k + 4987 then i 86 (p' - 4987 * k) else i 87 p' := fun p' => by rw [f3', kw_st_off (by decide), f2, kw_st_off (by decide)]; exact g2 p'
      have n88 : ∀ q, m3 88 q = if q = k then 1 else i 88 q := fun q => by rw [f3', kw_st_off (by decide), f2, kw_st_row, g1 88 (by decide), f3 88 (by decide) (by decide)]
      have r2n : ∀ b, b < n → b ≠ 17 → b ≠ s + 14 → r2 b = r b := fun b b1 b2 b3 => by rw [q1 b b3, hr b b1 b2]
      have r217 : r2 17 k = s := by rw [q1 17 (by omega)]; exact es
      have r217' : ∀ q, q ≠ k → r2 17 q = r 17 q := fun q hq => by rw [q1 17 (by omega)]; exact hr17 q hq
      -- laws stay
      have lawmv : ∀ (ro ro' : Nat → Nat) (K K' : Nat → Int32), z_laws T n r i ro K → (∀ j, j < 6 → ro' j = ro j) → (∀ p, 179 ≤ p → p < 4987 → K' p = K p) → z_laws T' n' r2 m3 ro' K' := by
        intro ro ro' K K' hl hro hK
        refine z_laws_mv hl hn hT hro (fun b b1 b2 b3 => r2n b b2 (by omega) (fun e => ?_)) (fun a b b1 b2 b3 b4 b5 b6 b7 => ?_) hK
        · have := hsh.2.2.2.2.2.2.2.1
          rw [← e, hT b b2, b3] at this
          cases this
        · refine o7 b (by omega) (by omega) ?_
          have := z_sh_no (a := a) (b := b) hsh (by rw [hT _ (by omega)]; exact b3) (by rw [hT _ (by omega)]; exact b4) (by rw [hT _ (by omega)]; exact b5) b6 b7
          omega
      obtain ⟨c1, c2, ⟨n1, ⟨nv, hK⟩, n3⟩, c4, c5, c6, c7, c8, c9, c10⟩ := h
      have now1 : z_SK m3 2 (m3 86) := by
        rw [e86]
        exact z_SK_eq n1 (by rw [o6 2 (by decide) (by decide) (by decide) (by decide) (by decide)]; exact ⟨rfl, rfl, rfl⟩) (fun b b1 b2 => o6 b (by omega) (by omega) (by omega) (by omega) (by omega)) (fun _ _ => rfl)
      have r16 : r2 16 = r 16 := r2n 16 (by omega) (by decide) (by omega)
      refine ⟨hS2, ⟨by omega, hTn⟩, ⟨now1, by rw [e86]; exact ⟨nv, hK⟩, by rw [e86, r16]; exact lawmv _ _ _ _ n3 (fun _ _ => rfl) (fun _ _ _ => rfl)⟩, ⟨fun q hq => ?_, ?_⟩, ?_, ?_, ?_, ?_, ?_, ?_⟩
      · by_cases y : q = k
        · subst y
          have iKe : ∀ p, p < 4987 → z_iK m3 q p = i 86 p := fun p hp => by
            unfold z_iK
            rw [n87, if_pos (by omega), show 4987 * q + p - 4987 * q = p by omega]
          rw [n88, if_pos rfl, r217]
          refine ⟨z_b1, fun z => absurd z (by decide), fun _ => ⟨hs, hs2, z_sh_mv hsh (fun _ _ _ => rfl) (fun b b1 b2 => q1 b (by omega)), ?_, ⟨nv, z_Kr_eq hK (fun p hp => iKe p (by omega))⟩, ?_⟩⟩
          · have sk2 : z_SK i' 2 (i 86) := z_SK_eq n1 (by rw [hi 2 (by omega)]; exact ⟨rfl, rfl, rfl⟩) (fun b b1 b2 => hi b (by omega)) (fun _ _ => rfl)
            have sks : z_SK i2 s (i 86) := z_SK_cpd sk2 q3
            refine z_SK_eq sks ⟨?_, ?_, ?_⟩ (fun b b1 b2 => ?_) (fun p hp => iKe p (by omega))
            · rw [o5 s (by omega) (by omega) (by omega), e3, kw_st_off (by omega)]
            · rw [o5 s (by omega) (by omega) (by omega), e3, kw_st_off (by omega)]
            · rw [o5 s (by omega) (by omega) (by omega), e3, kw_st_off (by omega)]
            · rw [o5 b (by omega) (by omega) (by omega), e3, kw_st_offF (by omega)]
          · refine lawmv _ _ _ _ n3 (fun j hj => ?_) (fun p _ hp => iKe p hp)
            rw [q2 j hj, show 2 + 14 = 16 from rfl, hr 16 (by omega) (by decide)]
        · obtain ⟨a1, a2, a3⟩ := c4.1 q hq
          have iKe : z_iK m3 q = z_iK i q ∨ True := Or.inr trivial
          have iKe : ∀ p, p < 4987 → z_iK m3 q p = z_iK i q p := fun p hp => by
            unfold z_iK
            rw [n87, if_neg (by omega)]
          rw [n88, if_neg y, r217' q y]
          refine ⟨a1, a2, fun z => ?_⟩
          obtain ⟨b1, b2, b3, b4, ⟨nv', b5⟩, b6⟩ := a3 z
          -- the other one lies elsewhere
          have ne : r 17 q ≠ s := by
            intro e
            rcases hold with z1 | ⟨z1, _⟩
            · omega
            · have := c4.2
              rcases (show (q = 0 ∧ k = 1) ∨ (q = 1 ∧ k = 0) by omega) with ⟨y1, y2⟩ | ⟨y1, y2⟩
              · subst y1 y2
                have := this (e.trans z1.symm)
                omega
              · subst y1 y2
                have := this (z1.trans e.symm)
                omega
          have ap1 := z_sh_ap hsh (t := r 17 q) (by rw [hT _ (by omega)]; exact b3.1) ne
          have ap2 : s < r 17 q ∨ r 17 q + 14 < s := by
            rcases Nat.lt_or_ge s n with z1 | z1
            · exact z_sh_ap b3 (t := s) (by rw [← hT s z1]; exact hsh.1) (fun e => ne e.symm)
            · omega
          have iq : ∀ b, r 17 q ≤ b → b ≤ r 17 q + 14 → m3 b = i b := fun b x1 x2 => o7 b (by omega) (by omega) (by omega)
          refine ⟨b1, by omega, z_sh_mv b3 (fun b x1 x2 => hT b (by omega)) (fun b x1 x2 => r2n b (by omega) (by omega) (by omega)), z_SK_eq b4 (by rw [iq _ (Nat.le_refl _) (by omega)]; exact ⟨rfl, rfl, rfl⟩) (fun b x1 x2 => iq b (by omega) (by omega)) (fun p hp => iKe p (by omega)), ⟨nv', z_Kr_eq b5 (fun p hp => iKe p (by omega))⟩, lawmv _ _ _ _ b6 (fun j _ => by rw [r2n _ (by omega) (by omega) (by omega)]) (fun p _ hp => iKe p hp)⟩
      · intro e
        exfalso
        rcases (show k = 0 ∨ k = 1 by omega) with y | y
        · rw [← y, r217, r217' 1 (by omega)] at e
          rcases hold with z1 | ⟨z1, _⟩
          · obtain ⟨a1, a2, a3⟩ := c4.1 1 (by decide)
            by_cases z : i 88 1 = 0
            · have := a2 z
              omega
            · have := (a3 z).2.1
              omega
          · have := c4.2 (by rw [← y, z1]; exact e)
            rw [← y] at this
            omega
        · rw [← y, r217, r217' 0 (by omega)] at e
          rcases hold with z1 | ⟨z1, _⟩
          · obtain ⟨a1, a2, a3⟩ := c4.1 0 (by decide)
            by_cases z : i 88 0 = 0
            · have := a2 z
              omega
            · have := (a3 z).2.1
              omega
          · have := c4.2 (by rw [← y, z1]; exact e)
            omega
      · rw [o6 18 (by decide) (by decide) (by decide) (by decide) (by decide), o6 19 (by decide) (by decide) (by decide) (by decide) (by decide), p84 9 (by decide), o6 90 (by decide) (by decide) (by decide) (by decide) (by decide)]
        exact c5
      · obtain ⟨b1, b2, b3, b4⟩ := c6
        refine ⟨?_, by rw [p1 10 (by decide), p84 5 (by decide)]; exact b2, by rw [p1 11 (by decide), p84 10 (by decide)]; exact b3, ?_⟩
        · rw [o5 1 (by decide) (by decide) (by decide), e3, kw_st_same, f3', kw_st_same]
        · rw [o6 83 (by decide) (by decide) (by decide) (by decide) (by decide), o6 85 (by decide) (by decide) (by decide) (by decide) (by decide)]
          exact b4
      · obtain ⟨d, d1, d2, d3, d4⟩ := c7
        refine ⟨d, d1, by rw [o6 70 (by decide) (by decide) (by decide) (by decide) (by decide)]; exact d2, by rw [p84 36 (by decide)]; exact d3, fun v hv => ?_⟩
        rw [o6 82 (by decide) (by decide) (by decide) (by decide) (by decide), o6 100 (by decide) (by decide) (by decide) (by decide) (by decide), o6 99 (by decide) (by decide) (by decide) (by decide) (by decide), o6 (72 + v) (by omega) (by omega) (by omega) (by omega) (by omega)]
        exact d4 v hv
      · rw [o6 89 (by decide) (by decide) (by decide) (by decide) (by decide)]; exact c8
      · rw [o6 24 (by decide) (by decide) (by decide) (by decide) (by decide)]; exact c9
      · intro q
        rw [p1 12 (by decide)] at q
        obtain ⟨nv2, L, k1, k2, ⟨d1, ⟨⟨l1, l2, l3, l4, cd, st, nc, l5, l6⟩, d3, d4, d5⟩, d6, d7, d8⟩, k4⟩ := c10 q
        have hn10 := k1.1
        have e24 : m3 24 = i 24 := o6 24 (by decide) (by decide) (by decide) (by decide) (by decide)
        have r24 : r2 24 = r 24 := r2n 24 (by omega) (by decide) (by omega)
        have r23 : r2 23 = r 23 := r2n 23 (by omega) (by decide) (by omega)
        rw [e86]
        refine ⟨nv2, L, k1, k2, ⟨by rw [r23]; exact d1, ⟨⟨by rw [e24]; exact l1, l2, fun v hv => by rw [o6 26 (by decide) (by decide) (by decide) (by decide) (by decide)]; exact l3 v hv, fun v c hv hc => by unfold z_seesC; rw [e24]; exact l4 v c hv hc, cd, st, nc, fun z => ?_, by rw [r24]; exact l6⟩, fun v hv => by rw [o6 27 (by decide) (by decide) (by decide) (by decide) (by decide)]; exact d3 v hv, by rw [o6 29 (by decide) (by decide) (by decide) (by decide) (by decide)]; exact d4, d5⟩, by rw [e24]; exact d6, fun v hv => by rw [o6 (31 + v) (by omega) (by omega) (by omega) (by omega) (by omega)]; exact d7 v hv, fun z v hv => ?_⟩, z_gs_eq k4 (by rw [o6 52 (by decide) (by decide) (by decide) (by decide) (by decide)]; exact ⟨rfl, rfl, rfl⟩) (fun b b1 b2 => o6 b (by omega) (by omega) (by omega) (by omega) (by omega))⟩
        · rw [r24] at z ⊢
          obtain ⟨⟨x1, x2, x3, x4, x5, x6, ⟨mm, x7, x8, x9, x10⟩, x11⟩, x12⟩ := l5 z
          have b1 : r 24 7 < n := c2.2 _ (by rw [x1]; decide)
          have b2 : r 24 7 + 1 < n := c2.2 _ (by rw [x6]; exact (by decide : 1 < 8))
          have b3 : r 24 7 + 2 < n := c2.2 _ (by rw [x7]; exact (by decide : 1 < 8))
          have nosh : ∀ b, r 24 7 ≤ b → b ≤ r 24 7 + 2 → b < s ∨ s + 14 < b := fun b y1 y2 => z_sh_no hsh (by rw [hT _ b1]; exact x1) (by rw [hT _ b2, x6]) (by rw [hT _ b3, x7]) y1 y2
          have im : ∀ b, r 24 7 ≤ b → b ≤ r 24 7 + 2 → m3 b = i b := fun b y1 y2 => o7 b (by omega) (by omega) (by have := nosh b y1 y2; omega)
          have rla : r2 (r 24 7) = r (r 24 7) := r2n _ b1 (by omega) (by have := nosh (r 24 7) (Nat.le_refl _) (by omega); omega)
          refine ⟨⟨by rw [hT _ b1]; exact x1, by rw [rla]; exact x2, by rw [rla]; exact x3, x4, by rw [im _ (Nat.le_refl _) (by omega)]; exact x5, by rw [hT _ b2]; exact x6, ⟨mm, by rw [hT _ b3]; exact x7, x8, by rw [im _ (by omega) (Nat.le_refl _)]; exact x9, x10⟩, by rw [im _ (by omega) (by omega)]; exact x11⟩, x12⟩
        · rw [o6 23 (by decide) (by decide) (by decide) (by decide) (by decide)] at z
          rw [o6 (42 + v) (by omega) (by omega) (by omega) (by omega) (by omega)]
          exact d8 z v hv
    | succ d ih =>
      intro p m hd g1 g2
      show s_X10_image_17 84 (nI k) T' n' r2 w _ _ (nI p) m
      unfold s_X10_image_17
      rw [z_r84_3 hS2, z_r84_2 hS2, show (4987 : Int32) * nI k = nI (4987 * k) from pk_mul 4987 k, nI_add, nI_clamp (show p < 2 ^ 31 by omega), nI_clamp (show 4987 * k + p < 2 ^ 31 by omega), nI_1]
      refine ⟨fun q => absurd q (nI_ge (b := 4987) (by omega) (by decide)), fun _ => ⟨z_kin (z_T86 hS2) (by omega) (by decide), z_kin (z_T87 hS2) (by omega) (by decide), fun m2 f2 => ih (p + 1) m2 (by omega) (by rw [f2]; exact z_io_st g1) (fun p' => ?_)⟩⟩
      rw [f2, kw_st_row, g1 86 (by decide), f3 86 (by decide) (by decide)]
      by_cases q : p' = 4987 * k + p
      · rw [if_pos q, if_pos (by omega), q, show 4987 * k + p - 4987 * k = p by omega]
      · rw [if_neg q, g2 p']
        by_cases z : 4987 * k ≤ p' ∧ p' < 4987 * k + p
        · rw [if_pos z, if_pos (by omega)]
        · rw [if_neg z, if_neg (by omega)]
  refine loop 4987 0 i3 (by omega) (fun _ _ => rfl) (fun p' => ?_)
  rw [if_neg (by omega), f3 87 (by decide) (by decide)]
end ZIM
theorem z_C29 : lw_C29 z_Inv := by
  intro T n r i w x h hn
  have hS := h.1
  have n103 := h.2.1.1
  have hb := z_B_iff (x := x) (m := 2) (by decide)
  have no : ¬ z_B x 2 → w_X9_image_9 1 x w (fun v T1 n1 r1 i1 => T1 84 = (0, 10) ∧ w_X10_image 84 x T1 n1 r1 i1 w (fun v2 i2 => v = v2 ∧ lw_N z_Inv n T1 n1 r1 i2 w)) T n r i := by
    intro hq
    exact ⟨z_T1 hS, z_refb h z_rf1 (m10 := fun i1 Q => w_X10_image 84 x T n r i1 w Q) (fun i1 Q o hQ => z_lies (m := 1) (by decide) (fun a => absurd a hq) (fun _ => z_f2 (z_ref10e hS z_rf1 hQ)))⟩
  unfold w_X9_image
  rw [z_r1_1 hS]
  refine ⟨fun c => no (fun z => (hb.mp z).1 c), fun c => ⟨fun c2 => ?_, fun c2 => no (fun z => c2 (hb.mp z).2)⟩⟩
  obtain ⟨k, hk, rfl⟩ : z_B x 2 := hb.mpr ⟨c, c2⟩
  rw [nI_clamp (by omega)]
  have sb : n + 100 ≤ kw_SB := by unfold kw_SB; omega
  refine ⟨z_kin (z_T17 hS) hk (by decide), fun e0 => ⟨⟨by omega, by omega⟩, fun T2 r2 i2 eT er ei => ?_⟩, fun e0 => ?_⟩
  · have tn : T2 n = (0, 6) := by rw [eT]; exact if_pos rfl
    refine z_init6 (by omega) (by omega) tn fun T3 r3 i3 a1 a2 a3 a4 a5 a6 a7 => ?_
    have oT : ∀ b, b < n → T3 b = T b := fun b hb => by rw [a1 b (by omega), eT]; exact if_neg (by omega)
    have oR : ∀ b, b < n → r3 b = r b := fun b hb => by rw [a4 b (by omega), er]; exact if_neg (by omega)
    have oI : ∀ b, b < n → i3 b = i b := fun b hb => by rw [a6 b (by omega), ei]; exact if_neg (by omega)
    have T17 : T3 17 = (6, 2) := by rw [oT 17 (by omega)]; exact z_T17 hS
    refine ⟨z_kin T17 hk (by decide), Or.inr a2.1, fun r4 f4 => ?_⟩
    refine z_imgE h (s := n) hk (by omega) (by omega) oT (fun b hb => ?_) (fun b b1 b2 => by rw [f4, kw_st_offF b2]; exact oR b b1) (fun q hq => by rw [f4, kw_st_row, if_neg hq, oR 17 (by omega)]) oI (by rw [f4, kw_st_same]) (z_sh_mv a2 (fun _ _ _ => rfl) (fun b b1 b2 => by rw [f4, kw_st_offF (by omega)])) n103 (by omega) (Or.inl (Nat.le_refl _))
    rcases Nat.lt_or_ge b (n + 15) with y | y
    · exact y
    · rw [a1 b (by omega), eT] at hb
      have e : kw_row T n (0, 6) b = T b := if_neg (by omega)
      rw [e] at hb
      have := h.2.1.2 b hb
      omega
  · obtain ⟨im1, im2, im3⟩ := h.2.2.2.1.1 k hk
    have e88 : i 88 k ≠ 0 := fun q => e0 (im2 q)
    obtain ⟨b1, b2, b3, b4, b5, b6⟩ := im3 e88
    exact z_imgE h (s := r 17 k) hk (Nat.le_refl _) (by omega) (fun _ _ => rfl) h.2.1.2 (fun _ _ _ => rfl) (fun _ _ => rfl) (fun _ _ => rfl) rfl b3 b1 b2 (Or.inr ⟨rfl, b2⟩)
