-- SLIPS, BY THE REFERENCE
def z_slR (K : Nat → Int32) (L : List z_Sm) (nv : Nat) (x R : Int32) : Prop := (x = -1 ∧ R = nI (fb_ct (z_slpB K L nv) (288 * nv))) ∨ ∃ q, q < 2 ^ 31 ∧ x = nI q ∧ ((fb_ct (z_slpB K L nv) (288 * nv) ≤ q ∧ R = -1) ∨ ∃ k, k < 288 * nv ∧ z_slpB K L nv k = true ∧ fb_ct (z_slpB K L nv) k = q ∧ R = nI k)
section ZSM
variable {T : kw_T} {n : Nat} {r : kw_R} {i : kw_I} {w : kw_L} {nv : Nat} {L : List z_Sm}
theorem z_slips10 (h : z_fr T n r i w nv L) {x R : Int32} (hx : (-1 : Int32) ≤ x) (hR : z_slR (i 86) L nv x R) : w_X10_slips 84 x T n r i w (fun v2 i2 => R = v2 ∧ lw_N z_Inv n T n r i2 w) := by
  have hS := h.1.1
  have hK := h.2.2.1
  have hn := hK.1
  have cl : fb_ct (z_slpB (i 86) L nv) (288 * nv) ≤ 288 * nv := fb_ct_le _ _
  refine ⟨fun _ => z_looksF h fun j q1 q2 q3 q4 q5 => ⟨36 * (nv + 1) + 1, ?_⟩, fun y => absurd hx y⟩
  have Bon : ∀ m, m ≤ nv → ∀ c, c < 36 → z_B (z_on (i 86) L m c) 8 := fun m hm c hc => z_go_B (fun c hc => hK.2.2.2.1 0 c (by decide) hc) (fun v hv => (z_Kr_W hK hv).1) (fun v c x _ _ q => by cases q) m (by omega) c hc
  -- what stays
  have ⟨P, hP⟩ : ∃ P : Nat → kw_I → Prop, P = fun v m => z_Inv T n r m w ∧ m 86 = i 86 ∧ m 96 = j 96 ∧ (m 84 27 = 0 ∧ m 84 28 = -1 ∧ m 84 29 = 0 ∧ m 84 32 = 0) ∧ ∀ u, u ≤ v → ∀ c, c < 36 → m 98 (36 * u + c) = z_on (i 86) L u c := ⟨_, rfl⟩
  have road : ∀ u, u ≤ nv → ∀ c, c < 36 → j 96 (36 * u + c) = z_on (i 86) L u c := q5
  have e36 : ∀ v, (36 : Int32) * nI v = nI (36 * v) := fun v => pk_mul 36 v
  -- the villages
  have vil : ∀ (d v : Nat) (m : kw_I), v + d = nv → P v m → (∀ k, k < 288 * v → z_slpB (i 86) L nv k = true → nI (fb_ct (z_slpB (i 86) L nv) k) ≠ x) → w_X10_slips_48 84 x T n r w (fun v2 i2 => R = v2 ∧ lw_N z_Inv n T n r i2 w) (d + 1) (nI (fb_ct (z_slpB (i 86) L nv) (288 * v))) (nI v) m := by
    intro d
    induction d with
    | zero =>
      intro v m hd hPm hno
      have : v = nv := by omega
      subst this
      rw [hP] at hPm
      obtain ⟨g1, g2, g3, g4, g5⟩ := hPm
      show s_X10_slips_48 84 x T n r w _ _ _ (nI _) m
      unfold s_X10_slips_48
      refine z_villages hS ?_
      rw [g2, hK.2.1]
      refine ⟨fun _ => ⟨fun y => ?_, fun y => ?_⟩, fun y => absurd (nI_le (Nat.le_refl _) (by omega)) y⟩
      · rcases hR with ⟨e, _⟩ | ⟨q, hq, e, ⟨_, h2⟩ | ⟨k, k1, k2, k3, _⟩⟩
        · exact absurd e y
        · exact ⟨h2, g1, by omega⟩
        · exact absurd (by rw [k3, e]) (hno k k1 k2)
      · rcases hR with ⟨_, e⟩ | ⟨q, hq, e, _⟩
        · exact ⟨e, g1, by omega⟩
        · rw [e] at y
          exact absurd y (z_m1ne hq)
    | succ d ih =>
      intro v m hd hPm hno
      have hv : v < nv := by omega
      rw [hP] at hPm
      show s_X10_slips_48 84 x T n r w _ _ _ (nI _) m
      unfold s_X10_slips_48
      refine z_villages hS ?_
      rw [hPm.2.1, hK.2.1]
      refine ⟨fun y => absurd y (nI_ge hv (by omega)), fun _ => ⟨289, ?_⟩⟩
      -- back to the road
      have rest : ∀ (e c : Nat) (m : kw_I), c + e = 36 → P v m → (∀ c', c' < c → m 98 (36 * (v + 1) + c') = z_on (i 86) L (v + 1) c') → (∀ k, k < 288 * (v + 1) → z_slpB (i 86) L nv k = true → nI (fb_ct (z_slpB (i 86) L nv) k) ≠ x) → w_X10_slips_178 84 x T n r w (fun v2 i2 => R = v2 ∧ lw_N z_Inv n T n r i2 w) (w_X10_slips_48 84 x T n r w (fun v2 i2 => R = v2 ∧ lw_N z_Inv n T n r i2 w) (d + 1)) (e + 1) (nI (fb_ct (z_slpB (i 86) L nv) (288 * (v + 1)))) (nI v) (nI c) m := by
        intro e
        induction e with
        | zero =>
          intro c m hc hPm hrow hno
          have : c = 36 := by omega
          subst this
          show s_X10_slips_178 84 x T n r w _ _ _ _ (nI v) (nI 36) m
          unfold s_X10_slips_178
          rw [nI_1]
          refine ⟨fun _ => ih (v + 1) m (by omega) ?_ hno, fun y => absurd (by decide) y⟩
          rw [hP] at hPm ⊢
          obtain ⟨g1, g2, g3, g4, g5⟩ := hPm
          refine ⟨g1, g2, g3, g4, fun u hu c hc => ?_⟩
          rcases Nat.lt_or_ge u (v + 1) with y | y
          · exact g5 u (by omega) c hc
          · rw [show u = v + 1 by omega]
            exact hrow c hc
        | succ e ihe =>
          intro c m hc hPm hrow hno
          have hc36 : c < 36 := by omega
          show s_X10_slips_178 84 x T n r w _ _ _ _ (nI v) (nI c) m
          unfold s_X10_slips_178
          rw [nI_1, nI_1, e36, nI_add, z_r84_22 hS, z_r84_24 hS, nI_clamp (by omega)]
          refine ⟨fun y => absurd y (nI_ge (b := 36) hc36 (by decide)), fun _ => ⟨z_kin (z_T96 hS) (by omega) (by decide), z_kin (z_T98 hS) (by omega) (by decide), fun m2 f2 => ?_⟩⟩
          have o2 : ∀ b, b ≠ 98 → m2 b = m b := fun b hb => by rw [f2, kw_st_offF hb]
          have r98 : ∀ k, m2 98 k = if k = 36 * (v + 1) + c then z_on (i 86) L (v + 1) c else m 98 k := fun k => by
            rw [hP] at hPm
            rw [f2, kw_st_row, hPm.2.2.1, road (v + 1) (by omega) c hc36]
          refine ihe (c + 1) m2 (by omega) ?_ (fun c' hc' => ?_) hno
          · rw [hP] at hPm ⊢
            obtain ⟨g1, g2, g3, g4, g5⟩ := hPm
            refine ⟨z_Inv_gz g1 (fun b _ b2 _ _ => o2 b (by omega)) (fun f _ _ _ _ _ => by rw [o2 84 (by decide)]) rfl, by rw [o2 86 (by decide)]; exact g2, by rw [o2 96 (by decide)]; exact g3, by rw [o2 84 (by decide)]; exact g4, fun u hu c2 hc2 => ?_⟩
            rw [r98, if_neg (by omega)]
            exact g5 u hu c2 hc2
          · rw [r98]
            by_cases y : c' = c
            · rw [if_pos (by omega), y]
            · rw [if_neg (by omega)]
              exact hrow c' (by omega)
      -- the slips of a village
      have slp : ∀ (e k : Nat) (m : kw_I), k + e = 288 → P v m → (∀ k', k' < 288 * v + k → z_slpB (i 86) L nv k' = true → nI (fb_ct (z_slpB (i 86) L nv) k') ≠ x) → w_X10_slips_59 84 x T n r w (fun v2 i2 => R = v2 ∧ lw_N z_Inv n T n r i2 w) (w_X10_slips_48 84 x T n r w (fun v2 i2 => R = v2 ∧ lw_N z_Inv n T n r i2 w) (d + 1)) (e + 1) (nI (fb_ct (z_slpB (i 86) L nv) (288 * v + k))) (nI v) (nI k) m := by
        intro e
        induction e with
        | zero =>
          intro k m hk hPm hno
          have : k = 288 := by omega
          subst this
          refine ⟨fun _ => ⟨37, ?_⟩, fun y => absurd (by decide) y⟩
          have := rest 36 0 m (by omega) hPm (fun c' hc' => absurd hc' (Nat.not_lt_zero c')) (by rw [show 288 * (v + 1) = 288 * v + 288 by omega]; exact hno)
          rw [show 288 * (v + 1) = 288 * v + 288 by omega] at this
          exact this
        | succ e ihe =>
          intro k m hk hPm hno
          have hk288 : k < 288 := by omega
          have em : nI k - nI k / (8 : Int32) * 8 = nI (k % 8) := pk_rem (d := 8) (by omega) (by decide) (by decide)
          have ed : nI k / (8 : Int32) = nI (k / 8) := pk_div (d := 8) (by omega) (by decide) (by decide)
          have hc : k / 8 < 36 := by omega
          have kd : (288 * v + k) / 288 = v := by omega
          have km : (288 * v + k) % 288 / 8 = k / 8 := by omega
          have k8 : (288 * v + k) % 8 = k % 8 := by omega
          show s_X10_slips_59 84 x T n r w _ _ _ _ (nI v) (nI k) m
          unfold s_X10_slips_59
          rw [em, ed, nI_1, e36, e36, nI_add, nI_add, z_r84_22 hS, z_r84_24 hS, z_r84_2 hS, nI_clamp (by omega)]
          refine ⟨fun y => absurd y (nI_ge (b := 288) hk288 (by decide)), fun _ m1 f1 m2 f2 => ?_⟩
          rw [hP] at hPm
          obtain ⟨g1, g2, g3, ⟨g4, g5, g6, g7⟩, g8⟩ := hPm
          have o2 : ∀ b, b ≠ 84 → m2 b = m b := fun b hb => by rw [f2, kw_st_offF hb, f1, kw_st_offF hb]
          have p2 : ∀ f, f ≠ 30 → f ≠ 31 → m2 84 f = m 84 f := fun f x1 x2 => by rw [f2, kw_st_row, if_neg x2, f1, kw_st_row, if_neg x1]
          have e30 : m2 84 30 = nI (36 * v + k / 8) := by rw [f2, kw_st_row, if_neg (by decide), f1, kw_st_same]
          have e31 : m2 84 31 = nI (k % 8) := by rw [f2, kw_st_same]
          have m86 : m2 86 = i 86 := by rw [o2 86 (by decide)]; exact g2
          have I2 : z_Inv T n r m2 w := z_Inv_gz g1 (fun b b1 _ _ _ => o2 b b1) (fun f _ _ _ f4 _ => p2 f (by omega) (by omega)) rfl
          rw [e31, o2 96 (by decide), g3, road (v + 1) (by omega) (k / 8) hc]
          refine ⟨z_kin (z_T96 hS) (by omega) (by decide), fun y => ?_, fun y => ?_⟩
          · have mv : z_mv m2 nv 0 (z_W0 (i 86)) (z_fx v (k / 8) (nI (k % 8))) := by
              refine ⟨by decide, by rw [p2 27 (by decide) (by decide), g4]; rfl, fun u hu => ⟨(z_Kr_W hK hu).1, ?_⟩, fun u c hu hc2 => ?_⟩
              · rw [p2 28 (by decide) (by decide), g5, m86, if_neg (z_m1ne (by omega)), (z_Kr_W hK hu).2, show (0 : Int32) = nI 0 from rfl, fa_or, Nat.or_zero]
              · rw [e30, e31]
                unfold z_fx
                by_cases z : u = v ∧ c = k / 8
                · rw [if_pos z, if_pos (by rw [z.1, z.2])]
                · rw [if_neg z, if_neg (fun q => z ?_)]
                  have := (nI_eq (by omega) (by omega)).mp q
                  omega
            refine z_goes (L := L) (S := 0) (Wf := z_W0 (i 86)) (fx := z_fx v (k / 8) (nI (k % 8))) (a := 98) (k := v) (f := z_on (i 86) L v) hS (by rw [m86]; exact hK) (by rw [m86]; exact h.2.2.2.1) mv (by rw [p2 32 (by decide) (by decide)]; exact g7) (fun u c x' _ _ q => ?_) (by omega) (z_T98 hS) (by decide) (fun c hc2 => by rw [o2 98 (by decide)]; exact g8 v (Nat.le_refl _) c hc2) (Bon v (by omega)) fun m3 b1 b2 b3 => z_villages hS ?_
            · unfold z_fx at q
              by_cases z : u = v ∧ c = k / 8
              · rw [if_pos z] at q
                cases q
                exact ⟨k % 8, by omega, rfl⟩
              · rw [if_neg z] at q
                cases q
            have n86 : m3 86 = i 86 := (b1.1 86 (by decide) (by decide) (by decide)).trans m86
            rw [n86, hK.2.1, e36]
            refine z_like10 (fb := 132) (z_T98 hS) (z_T86 hS) (by omega) (by omega) (by decide) (by decide) ?_
            have lle := z_lk_le (fun c => m3 98 (36 * nv + c)) (fun c => m3 86 (132 + c))
            have iff : z_lk (fun c => m3 98 (36 * nv + c)) (fun c => m3 86 (132 + c)) = 36 ↔ z_slpB (i 86) L nv (288 * v + k) = true := by
              rw [z_lk_36, z_slpB_iff, n86]
              unfold z_slp
              rw [kd, km, k8]
              have row : ∀ c, c < 36 → m3 98 (36 * nv + c) = z_go (z_env (i 86) L 0 (z_W0 (i 86)) (z_fx v (k / 8) (nI (k % 8)))) v (z_on (i 86) L v) (nv - v) c := fun c hc2 => by
                have := b3 (nv - v) (by omega) c hc2
                rw [show v + (nv - v) = nv by omega, m86] at this
                exact this
              exact ⟨fun z => ⟨y, fun c hc2 => by rw [← row c hc2]; exact z c hc2⟩, fun z c hc2 => by rw [row c hc2]; exact z.2 c hc2⟩
            have P3 : P v m3 := by
              rw [hP]
              refine ⟨z_Inv_gr I2 (by decide) b1, n86, by rw [b1.1 96 (by decide) (by decide) (by decide), o2 96 (by decide)]; exact g3, ?_, fun u hu c hc2 => ?_⟩
              · rw [b1.2 27 (by decide) (by decide) (by decide), b1.2 28 (by decide) (by decide) (by decide), b1.2 29 (by decide) (by decide) (by decide), b1.2 32 (by decide) (by decide) (by decide), p2 27 (by decide) (by decide), p2 28 (by decide) (by decide), p2 29 (by decide) (by decide), p2 32 (by decide) (by decide)]
                exact ⟨g4, g5, g6, g7⟩
              · rw [b2 _ (Or.inl (by omega)), o2 98 (by decide)]
                exact g8 u hu c hc2
            have nx := ihe (k + 1) m3 (by omega) P3
            rw [show 288 * v + (k + 1) = 288 * v + k + 1 by omega, fb_ct_succ] at nx
            have c1 : fb_ct (z_slpB (i 86) L nv) (288 * v + k) ≤ 288 * v + k := fb_ct_le _ _
            refine ⟨fun z => ?_, fun z => ?_⟩
            · have hB : z_slpB (i 86) L nv (288 * v + k) = true := iff.mp (by
                have := (nI_leI (a := 36) (by decide) (by omega)).mp z
                omega)
              rw [if_pos hB] at nx
              refine ⟨fun z2 => ?_, fun z2 => ?_⟩
              · show w_X10_slips_59 84 x T n r w _ _ (e + 1) (nI _ + 1) (nI v) (nI k + 1) m3
                rw [nI_1, nI_1]
                refine nx (fun k' hk' hb' => ?_)
                rcases Nat.lt_or_ge k' (288 * v + k) with y2 | y2
                · exact hno k' y2 hb'
                · rw [show k' = 288 * v + k by omega]
                  exact z2
              · rw [show (288 : Int32) * nI v = nI (288 * v) from pk_mul 288 v, nI_add]
                refine ⟨?_, z_Inv_gr I2 (by decide) b1, by omega⟩
                rcases hR with ⟨e', _⟩ | ⟨q, hq, e', h2⟩
                · rw [e'] at z2
                  exact absurd z2 (z_m1ne (by omega))
                · rw [e'] at z2
                  have zq := (nI_eq (by omega) hq).mp z2
                  rcases h2 with ⟨h2, _⟩ | ⟨k0, k1, k2, k3, k4⟩
                  · have := fb_ct_mono (z_slpB (i 86) L nv) (m := 288 * v + k + 1) (n := 288 * nv) (by omega)
                    rw [fb_ct_succ, if_pos hB] at this
                    omega
                  · rw [k4, fb_ct_kth_one k2 hB (by omega)]
            · have hB : ¬ z_slpB (i 86) L nv (288 * v + k) = true := fun q => z (by rw [iff.mpr q]; decide)
              rw [if_neg hB] at nx
              show w_X10_slips_59 84 x T n r w _ _ (e + 1) (nI _) (nI v) (nI k + 1) m3
              rw [nI_1]
              refine nx (fun k' hk' hb' => ?_)
              rcases Nat.lt_or_ge k' (288 * v + k) with y2 | y2
              · exact hno k' y2 hb'
              · rw [show k' = 288 * v + k by omega] at hb'
                exact absurd hb' hB
          · have hB : ¬ z_slpB (i 86) L nv (288 * v + k) = true := fun q => by
              have := (z_slpB_iff.mp q).1
              rw [kd, km, k8] at this
              exact this y
            have nx := ihe (k + 1) m2 (by omega) (by
              rw [hP]
              refine ⟨I2, m86, by rw [o2 96 (by decide)]; exact g3, ?_, fun u hu c hc2 => ?_⟩
              · rw [p2 27 (by decide) (by decide), p2 28 (by decide) (by decide), p2 29 (by decide) (by decide), p2 32 (by decide) (by decide)]
                exact ⟨g4, g5, g6, g7⟩
              · rw [o2 98 (by decide)]
                exact g8 u hu c hc2)
            rw [show 288 * v + (k + 1) = 288 * v + k + 1 by omega, fb_ct_succ, if_neg hB] at nx
            show w_X10_slips_59 84 x T n r w _ _ (e + 1) (nI _) (nI v) (nI k + 1) m2
            rw [nI_1]
            refine nx (fun k' hk' hb' => ?_)
            rcases Nat.lt_or_ge k' (288 * v + k) with y2 | y2
            · exact hno k' y2 hb'
            · rw [show k' = 288 * v + k by omega] at hb'
              exact absurd hb' hB
      exact slp 288 0 m (by omega) (by rw [hP]; exact hPm) hno
  -- the rows tried at first
  have copy : ∀ (d c : Nat) (m : kw_I), c + d = 36 * (nv + 1) → z_Inv T n r m w → m 86 = i 86 → m 96 = j 96 → (m 84 27 = 0 ∧ m 84 28 = -1 ∧ m 84 29 = 0 ∧ m 84 32 = 0) → (∀ c', c' < c → m 98 c' = j 96 c') → w_X10_slips_15 84 x T n r w (fun v2 i2 => R = v2 ∧ lw_N z_Inv n T n r i2 w) (d + 1) (nI 0) (nI c) m := by
    intro d
    induction d with
    | zero =>
      intro c m hc g1 g2 g3 g4 g5
      have : c = 36 * (nv + 1) := by omega
      subst this
      show s_X10_slips_15 84 x T n r w _ _ _ (nI _) m
      unfold s_X10_slips_15
      refine z_villages hS ?_
      rw [g2, hK.2.1, nI_1, e36]
      refine ⟨fun _ => ⟨nv + 1, vil nv 0 m (by omega) ?_ (fun k hk => absurd hk (by omega))⟩, fun y => absurd (nI_le (Nat.le_refl _) (by omega)) y⟩
      rw [hP]
      exact ⟨g1, g2, g3, g4, fun u hu c hc => by rw [g5 _ (by omega)]; exact road u (by omega) c hc⟩
    | succ d ih =>
      intro c m hc g1 g2 g3 g4 g5
      show s_X10_slips_15 84 x T n r w _ _ _ (nI _) m
      unfold s_X10_slips_15
      refine z_villages hS ?_
      rw [g2, hK.2.1, nI_1, e36, z_r84_22 hS, z_r84_24 hS, nI_clamp (by omega)]
      refine ⟨fun y => absurd y (nI_ge (by omega) (by omega)), fun _ => ⟨z_kin (z_T96 hS) (by omega) (by decide), z_kin (z_T98 hS) (by omega) (by decide), fun m2 f2 => ?_⟩⟩
      rw [nI_1]
      have o2 : ∀ b, b ≠ 98 → m2 b = m b := fun b hb => by rw [f2, kw_st_offF hb]
      refine ih (c + 1) m2 (by omega) (z_Inv_gz g1 (fun b _ b2 _ _ => o2 b (by omega)) (fun f _ _ _ _ _ => by rw [o2 84 (by decide)]) rfl) (by rw [o2 86 (by decide)]; exact g2) (by rw [o2 96 (by decide)]; exact g3) (by rw [o2 84 (by decide)]; exact g4) (fun c' hc' => ?_)
      rw [f2, kw_st_row]
      by_cases y : c' = c
      · rw [if_pos y, g3, y]
      · rw [if_neg y]
        exact g5 c' (by omega)
  exact copy (36 * (nv + 1)) 0 j (by omega) q3 q4 rfl ⟨q2.1, q2.2.1, q2.2.2.1, q2.2.2.2.2.2⟩ (fun c' hc' => absurd hc' (Nat.not_lt_zero c'))
end ZSM
theorem z_C22 : lw_C22 z_Inv := by
  intro T n r i w x h hn
  have hS := h.1
  refine ⟨fun c => z_weaveIf h fun r' i' w' nv L hf o86 o2 => ?_, fun c => ⟨z_T84 hS, fun y => absurd y c, fun _ => ⟨rfl, z_N h⟩⟩⟩
  have hS' := hf.1.1
  rw [z_r1_5 hS']
  refine ⟨z_T52 hS', z_findSlips hf fun i2 w2 hf2 e86 e2 e11 => ⟨fun y => ?_, fun y => ⟨z_T84 hS', ?_⟩⟩⟩
  · have x0 : ¬ x < 0 := by
      intro z
      rw [fa_lt] at z
      rw [fa_le] at c
      have e1 : (-1 : Int32).toInt = -1 := by decide
      have e0 : (0 : Int32).toInt = 0 := by decide
      exact y ((fa_eq _ _).mpr (by omega))
    obtain ⟨q, hq, rfl⟩ := nI_of x0
    exact z_slipAt hf2 e11 hq (fun k k1 k2 k3 => ⟨z_T84 hS', z_slips10 hf2 c (Or.inr ⟨q, hq, rfl, Or.inr ⟨k, k1, k2, k3, rfl⟩⟩)⟩) (fun k1 => ⟨z_T84 hS', z_slips10 hf2 c (Or.inr ⟨q, hq, rfl, Or.inl ⟨k1, rfl⟩⟩)⟩)
  · obtain ⟨sb1, sb2⟩ := hf2.2.2.2.2.2.2.2 e11
    rw [sb2]
    exact z_slips10 hf2 c (Or.inl ⟨y, rfl⟩)
