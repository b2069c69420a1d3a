-- ROW
/-- a colour is fed for the cell c -/
noncomputable def z_fed (b : Nat → Int32) (sz c : Nat) : Bool := @decide (c + 1 < sz ∧ z_B (b (c + 1)) 8) (Classical.propDecidable _)
theorem z_fed_t {b : Nat → Int32} {sz c : Nat} (h1 : c + 1 < sz) (h2 : z_B (b (c + 1)) 8) : z_fed b sz c = true := @decide_eq_true _ (Classical.propDecidable _) ⟨h1, h2⟩
theorem z_fed_f {b : Nat → Int32} {sz c : Nat} (h : ¬ (c + 1 < sz ∧ z_B (b (c + 1)) 8)) : z_fed b sz c = false := @decide_eq_false _ (Classical.propDecidable _) h
theorem z_fed_cut {b : Nat → Int32} {sz c : Nat} (h : sz ≤ c + 1) : ∀ d, fb_ct (z_fed b sz) (c + d) = fb_ct (z_fed b sz) c := by
  intro d
  induction d with
  | zero => rfl
  | succ d ih =>
    rw [show c + (d + 1) = (c + d) + 1 by omega, fb_ct_succ, ih, z_fed_f (by omega)]
    rfl
theorem z_C10 : lw_C10 z_Inv := by
  intro T n r i w h hn
  have hS := h.1
  have h0 := z_T84 hS
  obtain ⟨sz, t1, t2, t3, t4⟩ := h.2.2.2.2.1
  obtain ⟨nv, hv, e1, e2, hK⟩ := z_Inv_nv h
  have k90 : ∀ k, k < 400 → kw_in T 2 90 (nI k) := fun k hk => z_kin (z_T90 hS) hk (by decide)
  have k19 : ∀ k, k < 400 → kw_in T 1 19 (nI k) := fun k hk => z_kin (z_T19 hS) hk (by decide)
  have by0 := z_by_B (t4 0 (by decide)) (m := 3) (by decide)
  unfold w_X9_row
  rw [z_r1_2 hS, z_r18_0 hS, z_r1_0 hS, z_r2_1 hS, t2]
  refine ⟨z_T18 hS, fun i13 e13 => ?_⟩
  have o13 : ∀ b, b ≠ 18 → i13 b = i b := fun b hb => by rw [e13, kw_st_offF hb]
  have bad : (sz = 0 ∨ ¬ z_B (i 19 0) 3) → w_X9_row_35 1 T n r w (fun v i1 => T 84 = (0, 10) ∧ w_X10_row 84 T n r i1 w (fun v2 i2 => v = v2 ∧ lw_N z_Inv n T n r i2 w)) i13 := by
    intro hb
    refine z_refb0 h z_rf6 (m10 := fun i1 Q => w_X10_row 84 T n r i1 w Q) (fun i1 Q o hQ => ?_) e13
    intro i7 e7
    have c28 : w_X10_row_28 84 T n r w Q i7 := z_ref10e hS z_rf6 (fun i2 h2 => hQ i2 (by rw [h2, e7, kw_st_off (a := 84) (b := 85) (by decide)]))
    rw [o 84 (by decide) (by decide) (by decide), t3]
    refine ⟨fun _ => c28, fun c => ?_⟩
    have hz : sz ≠ 0 := fun q => c (by rw [q]; rfl)
    have e90 : i7 90 = i 90 := by rw [e7, kw_st_offF (by decide), o 90 (by decide) (by decide) (by decide)]
    rw [z_r84_7 hS, e90]
    refine ⟨k90 0 (by decide), z_lies (m := 2) (by decide) (fun q => absurd (by0.1.mpr q) (hb.resolve_left hz)) (fun _ => z_f2 c28)⟩
  refine ⟨fun c => bad (Or.inl ((nI_eq (b := 0) (by omega) (by decide)).mp c)), fun c => ⟨k19 0 (by decide), ?_⟩⟩
  have hz : sz ≠ 0 := fun q => c (by rw [q]; rfl)
  rw [o13 19 (by decide)]
  refine z_isPicture9 (fun b => z_t2 ?_) (fun b => z_f2 (bad (Or.inr b)))
  have b0 := b
  obtain ⟨q, hq, eq⟩ := b
  have eq' : i 19 ((0 : Int32)).toNatClampNeg = nI q := eq
  rw [eq', nI_clamp (by omega), z_rprow hS hq]
  refine ⟨z_T2 hS, k19 0 (by decide), z_kin (z_T10 hS) hq (by decide), ?_⟩
  -- the end of the class's row
  have fin : ∀ (j : kw_I), (∀ b, b ≠ 11 + q → j b = i13 b) → (∀ c, c < 36 → j (11 + q) c = if z_fed (i 19) sz c = true then i 19 (c + 1) else i (11 + q) c) → w_X9_row_117 1 T n r w (fun v i1 => T 84 = (0, 10) ∧ w_X10_row 84 T n r i1 w (fun v2 i2 => v = v2 ∧ lw_N z_Inv n T n r i2 w)) (nI sz) (nI (fb_ct (z_fed (i 19) sz) 36)) j := by
    intro j h1 h2 i128 e128 j1 q1 j2 q2
    refine ⟨h0, fun i7 e7 => ?_⟩
    have old7 : ∀ b, b ≠ 1 → b ≠ 18 → b ≠ 11 + q → b ≠ 84 → i7 b = i b := fun b b1 b2 b3 b4 => by rw [e7, kw_st_offF b4, q2, kw_st_offF b1, q1, kw_st_offF b1, e128, kw_st_offF b1, h1 b b3, o13 b b2]
    have e84 : j2 84 = i 84 := by rw [q2, kw_st_offF (by decide), q1, kw_st_offF (by decide), e128, kw_st_offF (by decide), h1 84 (by omega), o13 84 (by decide)]
    rw [e84, t3, z_r84_7 hS]
    refine ⟨fun z => absurd z c, fun _ => ⟨k90 0 (by decide), ?_⟩⟩
    have e90 : i7 90 = i 90 := old7 90 (by decide) (by decide) (by omega) (by decide)
    have e9q : i 90 0 = nI q := by rw [← by0.2 b0]; exact eq
    have e9q' : i 90 ((0 : Int32)).toNatClampNeg = nI q := e9q
    rw [e90]
    refine z_lies (m := 2) (by decide) (fun _ => z_t2 ⟨37, ?_⟩) (fun z => absurd (by0.1.mp b0) z)
    -- the end of the reference's row
    have fin2 : ∀ (m : kw_I), (∀ b, b ≠ 86 → m b = i7 b) → (∀ p, m 86 p = if (60 + 36 * q ≤ p ∧ p < 60 + 36 * q + 36) ∧ z_fed (i 19) sz (p - (60 + 36 * q)) = true then i 19 (p - (60 + 36 * q) + 1) else i 86 p) → w_X10_row_105 84 T n r w (fun v2 i2 => nI (fb_ct (z_fed (i 19) sz) 36) = v2 ∧ lw_N z_Inv n T n r i2 w) (nI sz) (nI (fb_ct (z_fed (i 19) sz) 36)) m := by
      intro m g1 g2
      have es1 : nI sz - (1 : Int32) = nI (sz - 1) := pk_sub (b := 1) (by omega)
      have c124 : ∀ y : Int32, y = (if 0 < nI sz - (1 : Int32) - (36 : Int32) then nI sz - (1 : Int32) - (36 : Int32) else 0) → w_X10_row_124 84 T n r w (fun v2 i2 => nI (fb_ct (z_fed (i 19) sz) 36) = v2 ∧ lw_N z_Inv n T n r i2 w) (nI (fb_ct (z_fed (i 19) sz) 36)) 84 y m := by
        intro y hy
        refine ⟨h0, fun i124 e124 i9 e9 => ⟨rfl, ?_, by omega⟩⟩
        have rows : ∀ b, b ≠ 84 → b ≠ 86 → i9 b = i7 b := fun b b1 b2 => by rw [e9, kw_st_offF b1, e124, kw_st_offF b1, g1 b b2]
        have old : ∀ b, b ≠ 1 → b ≠ 18 → b ≠ 11 + q → b ≠ 84 → b ≠ 86 → i9 b = i b := fun b b1 b2 b3 b4 b5 => by rw [rows b b4 b5, old7 b b1 b2 b3 b4]
        have K' : ∀ p, i9 86 p = if (60 + 36 * q ≤ p ∧ p < 60 + 36 * q + 36) ∧ z_fed (i 19) sz (p - (60 + 36 * q)) = true then i 19 (p - (60 + 36 * q) + 1) else i 86 p := fun p => by rw [e9, kw_st_off (by decide), e124, kw_st_off (by decide), g2]
        have kk : ∀ p, p < 60 ∨ 168 ≤ p → i9 86 p = i 86 p := fun p hp => by rw [K', if_neg (fun z => by omega)]
        have f84 : ∀ f, f ≠ 0 → f ≠ 5 → f ≠ 9 → i9 84 f = i 84 f := fun f x1 x2 x3 => by rw [e9, kw_st_row, if_neg x1, e124, kw_st_row, if_neg x2, g1 84 (by decide), e7, kw_st_row, if_neg x3, e84]
        have row1 : ∀ f, i9 1 f = j2 1 f := fun f => by rw [rows 1 (by decide) (by decide), e7, kw_st_off (by decide)]
        have f1 : ∀ f, f ≠ 9 → f ≠ 12 → f ≠ 10 → i9 1 f = i 1 f := fun f x1 x2 x3 => by rw [row1, q2, kw_st_row, if_neg x1, q1, kw_st_row, if_neg x2, e128, kw_st_row, if_neg x3, h1 1 (by omega), o13 1 (by decide)]
        have rp : ∀ c, c < 36 → i9 (11 + q) c = if z_fed (i 19) sz c = true then i 19 (c + 1) else i (11 + q) c := fun c hc => by
          rw [rows _ (by omega) (by omega), e7, kw_st_off (by omega), q2, kw_st_off (by omega), q1, kw_st_off (by omega), e128, kw_st_off (by omega)]
          exact h2 c hc
        obtain ⟨⟨s1, s2, s3, s4, s5, s6, s7⟩, -, n3⟩ := h.2.2.1
        refine z_Inv_now h (fun b b1 b2 b3 _ b5 b6 _ => old b b1 b3 (by omega) b5 b6) ?_ (f84 36 (by decide) (by decide) (by decide)) ⟨⟨?_, ?_, ?_, ?_, ?_, ?_, ?_⟩, ⟨nv, ?_⟩, ?_⟩ ?_ ?_
        · rw [row1, q2, kw_st_row, if_neg (by decide), q1, kw_st_same]
        · intro j v hj hv'
          rw [old _ (by omega) (by omega) (by omega) (by omega) (by omega), kk _ (by omega)]
          exact s1 j v hj hv'
        · intro q' c' hq' hc'
          rw [show 2 + 9 + q' = 11 + q' by omega, K']
          by_cases eqq : q' = q
          · subst eqq
            rw [rp c' hc', show 60 + 36 * q' + c' - (60 + 36 * q') = c' by omega]
            by_cases ec : z_fed (i 19) sz c' = true
            · rw [if_pos ec, if_pos ⟨by omega, ec⟩]
            · rw [if_neg ec, if_neg (fun z => ec z.2)]
              exact s2 q' c' hq' hc'
          · rw [old _ (by omega) (by omega) (by omega) (by omega) (by omega), if_neg (fun z => by omega)]
            exact s2 q' c' hq' hc'
        · intro c' hc'
          rw [old _ (by omega) (by omega) (by omega) (by omega) (by omega), kk _ (by omega)]
          exact s3 c' hc'
        · intro t ht
          rw [old _ (by omega) (by omega) (by omega) (by omega) (by omega), kk _ (by omega)]
          exact s4 t ht
        · rw [old 2 (by decide) (by decide) (by omega) (by decide) (by decide), kk 178 (by decide)]; exact s5
        · rw [old 2 (by decide) (by decide) (by omega) (by decide) (by decide), kk 179 (by decide)]; exact s6
        · rw [old 2 (by decide) (by decide) (by omega) (by decide) (by decide), kk 180 (by decide)]; exact s7
        · obtain ⟨k1, k2, k3, k4, k5', k6, k7⟩ := hK
          refine ⟨k1, by rw [kk 178 (by decide)]; exact k2, fun v' hv' => ?_, fun q' c' hq' hc' => ?_, fun c hc => by rw [kk _ (by omega)]; exact k5' c hc, by rw [kk _ (by decide)]; exact k6, by rw [kk _ (by decide)]; exact k7⟩
          · rw [kk _ (by omega), kk _ (by omega), kk _ (by omega), kk _ (by omega), kk _ (by omega), kk _ (by omega)]
            exact k3 v' hv'
          · rw [K']
            by_cases ec : (60 + 36 * q ≤ 60 + 36 * q' + c' ∧ 60 + 36 * q' + c' < 60 + 36 * q + 36) ∧ z_fed (i 19) sz (60 + 36 * q' + c' - (60 + 36 * q)) = true
            · rw [if_pos ec]
              exact (@of_decide_eq_true _ (Classical.propDecidable _) ec.2).2
            · rw [if_neg ec]
              exact k4 q' c' hq' hc'
        · exact z_laws_K n3 (kk 179 (by decide)) (fun k hk => kk k (by omega)) (Or.inl (kk 180 (by decide))) (fun b hb => old b (by omega) (by omega) (by omega) (by omega) (by omega))
        · refine ⟨0, by decide, ?_, ?_, ?_⟩
          · rw [rows 18 (by decide) (by decide), e7, kw_st_off (by decide), q2, kw_st_off (by decide), q1, kw_st_off (by decide), e128, kw_st_off (by decide), h1 18 (by omega), e13, kw_st_same]
            rfl
          · rw [e9, kw_st_row, if_neg (by decide), e124, kw_st_row, if_neg (by decide), g1 84 (by decide), e7, kw_st_same]
            rfl
          · rw [old 19 (by decide) (by decide) (by omega) (by decide) (by decide), old 90 (by decide) (by decide) (by omega) (by decide) (by decide)]
            exact t4
        · obtain ⟨a1, a2, a3, a4⟩ := h.2.2.2.2.2.1
          refine ⟨?_, ?_, ?_, ?_⟩
          · rw [row1, q2, kw_st_same, e9, kw_st_same]
          · have l : i9 84 5 = y := by rw [e9, kw_st_row, if_neg (by decide), e124, kw_st_same]
            rw [l, hy, row1, q2, kw_st_row, if_neg (by decide), q1, kw_st_row, if_neg (by decide), e128, kw_st_same]
          · rw [f1 11 (by decide) (by decide) (by decide), f84 10 (by decide) (by decide) (by decide)]
            exact a3
          · rw [old 83 (by decide) (by decide) (by omega) (by decide) (by decide), old 85 (by decide) (by decide) (by omega) (by decide) (by decide)]
            exact a4
      have e36 : (nI (sz - 1) - 36 : Int32).toInt = ((sz - 1 : Nat) : Int) - 36 := pk_sub_toInt (b := 36) (by omega) (by decide)
      have e0 : (0 : Int32).toInt = 0 := by decide
      unfold w_X10_row_105
      rw [es1] at c124 ⊢
      refine ⟨fun z => c124 _ ?_, fun z => c124 _ ?_⟩
      · have : sz - 1 ≤ 36 := (nI_leI (b := 36) (by omega) (by decide)).mp z
        rw [if_neg]
        rw [fa_lt, e0, e36]
        omega
      · have : ¬ sz - 1 ≤ 36 := fun y => z (nI_le (b := 36) y (by decide))
        rw [if_pos]
        rw [fa_lt, e0, e36]
        omega
    -- the reference's loop
    have loop : ∀ (d c : Nat) (m : kw_I), c + d = 36 → (∀ b, b ≠ 86 → m b = i7 b) → (∀ p, m 86 p = if (60 + 36 * q ≤ p ∧ p < 60 + 36 * q + c) ∧ z_fed (i 19) sz (p - (60 + 36 * q)) = true then i 19 (p - (60 + 36 * q) + 1) else i 86 p) → w_X10_row_39 84 T n r w (fun v2 i2 => nI (fb_ct (z_fed (i 19) sz) 36) = v2 ∧ lw_N z_Inv n T n r i2 w) (d + 1) (nI sz) (nI (fb_ct (z_fed (i 19) sz) c)) (nI c) m := by
      intro d
      induction d with
      | zero =>
        intro c m hc g1 g2
        have : c = 36 := by omega
        subst this
        exact ⟨fun _ => fin2 m g1 g2, fun z => absurd (by decide) z⟩
      | succ d ih =>
        intro c m hc g1 g2
        refine ⟨fun z => absurd z (nI_ge (b := 36) (by omega) (by decide)), fun _ => ?_⟩
        rw [nI_1]
        refine ⟨fun z => ?_, fun z => ?_⟩
        · have hle : sz ≤ c + 1 := (nI_leI (by omega) (by omega)).mp z
          have := fin2 m g1 (fun p => by
            rw [g2]
            by_cases y : (60 + 36 * q ≤ p ∧ p < 60 + 36 * q + c) ∧ z_fed (i 19) sz (p - (60 + 36 * q)) = true
            · rw [if_pos y, if_pos ⟨by omega, y.2⟩]
            · rw [if_neg y]
              by_cases y2 : (60 + 36 * q ≤ p ∧ p < 60 + 36 * q + 36) ∧ z_fed (i 19) sz (p - (60 + 36 * q)) = true
              · exfalso
                have y3 := (@of_decide_eq_true _ (Classical.propDecidable _) y2.2).1
                exact y ⟨by omega, y2.2⟩
              · rw [if_neg y2])
          rw [← z_fed_cut (b := i 19) hle (d + 1), show c + (d + 1) = 36 by omega]
          exact this
        · have hlt : c + 1 < sz := by
            rcases Nat.lt_or_ge (c + 1) sz with y | y
            · exact y
            · exact absurd (nI_le y (by omega)) z
          have em : m 90 = i 90 := by rw [g1 90 (by decide), e90]
          rw [z_r84_7 hS, em, nI_clamp (by omega)]
          have byc := z_by_B (t4 (c + 1) (by omega)) (m := 8) (by decide)
          have nx := fun m' => ih (c + 1) m' (by omega)
          have cnt : nI (fb_ct (z_fed (i 19) sz) (c + 1)) = if z_fed (i 19) sz c = true then nI (fb_ct (z_fed (i 19) sz) c + 1) else nI (fb_ct (z_fed (i 19) sz) c) := by
            rw [fb_ct_succ]
            by_cases y : z_fed (i 19) sz c = true
            · rw [if_pos y, if_pos y]
            · rw [if_neg y, if_neg y]
              rfl
          refine ⟨k90 _ (by omega), z_isColour10 (fun y => z_t2 ?_) (fun y => z_f2 ?_)⟩
          · have hfed := z_fed_t hlt (byc.1.mpr y)
            rw [z_r84_2 hS, e9q']
            have e60 : (60 : Int32) + (36 : Int32) * nI q + nI c = nI (60 + 36 * q + c) := by rw [show (36 : Int32) = nI 36 from rfl, show (60 : Int32) = nI 60 from rfl, pk_mul, nI_add, nI_add]
            rw [e60, nI_clamp (by omega)]
            refine ⟨k90 0 (by decide), k90 _ (by omega), z_kin (z_T86 hS) (by omega) (by decide), fun m2 u2 => ?_⟩
            show w_X10_row_39 84 T n r w _ (d + 1) (nI sz) (nI _ + 1) (nI c + 1) m2
            rw [nI_1, nI_1]
            rw [if_pos hfed] at cnt
            rw [← cnt]
            refine nx m2 (fun b hb => by rw [u2, kw_st_offF hb, g1 b hb]) (fun p => ?_)
            rw [u2, kw_st_row, g2, ← byc.2 (byc.1.mpr y)]
            by_cases y1 : p = 60 + 36 * q + c
            · rw [if_pos y1, if_pos ⟨by omega, by rw [show p - (60 + 36 * q) = c by omega]; exact hfed⟩, show p - (60 + 36 * q) = c by omega]
            · rw [if_neg y1]
              by_cases y2 : (60 + 36 * q ≤ p ∧ p < 60 + 36 * q + c) ∧ z_fed (i 19) sz (p - (60 + 36 * q)) = true
              · rw [if_pos y2, if_pos ⟨by omega, y2.2⟩]
              · rw [if_neg y2, if_neg (fun y3 => y2 ⟨by omega, y3.2⟩)]
          · have hfed : z_fed (i 19) sz c = false := z_fed_f (fun u => y (byc.1.mp u.2))
            show w_X10_row_39 84 T n r w _ (d + 1) (nI sz) (nI _) (nI c + 1) m
            rw [nI_1]
            rw [if_neg (by rw [hfed]; decide)] at cnt
            rw [← cnt]
            refine nx m g1 (fun p => ?_)
            rw [g2]
            by_cases y2 : (60 + 36 * q ≤ p ∧ p < 60 + 36 * q + c) ∧ z_fed (i 19) sz (p - (60 + 36 * q)) = true
            · rw [if_pos y2, if_pos ⟨by omega, y2.2⟩]
            · rw [if_neg y2]
              by_cases y3 : (60 + 36 * q ≤ p ∧ p < 60 + 36 * q + (c + 1)) ∧ z_fed (i 19) sz (p - (60 + 36 * q)) = true
              · exfalso
                by_cases y4 : p = 60 + 36 * q + c
                · rw [show p - (60 + 36 * q) = c by omega, hfed] at y3
                  exact absurd y3.2 (by decide)
                · exact y2 ⟨by omega, y3.2⟩
              · rw [if_neg y3]
    have start := loop 36 0 i7 (by omega) (fun _ _ => rfl) (fun p => by rw [if_neg (fun z => by omega), old7 86 (by decide) (by decide) (by omega) (by decide)])
    exact start
  -- the class's loop
  have loop : ∀ (d c : Nat) (m : kw_I), c + d = 36 → (∀ b, b ≠ 11 + q → m b = i13 b) → (∀ p, m (11 + q) p = if p < c ∧ z_fed (i 19) sz p = true then i 19 (p + 1) else i (11 + q) p) → w_X9_row_65 1 T n r w (fun v i1 => T 84 = (0, 10) ∧ w_X10_row 84 T n r i1 w (fun v2 i2 => v = v2 ∧ lw_N z_Inv n T n r i2 w)) (d + 1) (nI sz) (11 + q) (nI (fb_ct (z_fed (i 19) sz) c)) (nI c) m := by
    intro d
    induction d with
    | zero =>
      intro c m hc g1 g2
      have : c = 36 := by omega
      subst this
      exact ⟨fun _ => fin m g1 (fun c hc => by
        rw [g2]
        by_cases y : z_fed (i 19) sz c = true
        · rw [if_pos ⟨hc, y⟩, if_pos y]
        · rw [if_neg (fun z => y z.2), if_neg y]), fun z => absurd (by decide) z⟩
    | succ d ih =>
      intro c m hc g1 g2
      refine ⟨fun z => absurd z (nI_ge (b := 36) (by omega) (by decide)), fun _ => ?_⟩
      rw [nI_1]
      refine ⟨fun z => ?_, fun z => ?_⟩
      · have hle : sz ≤ c + 1 := (nI_leI (by omega) (by omega)).mp z
        have := fin m g1 (fun p hp => by
          rw [g2]
          by_cases y : z_fed (i 19) sz p = true
          · have y3 := (@of_decide_eq_true _ (Classical.propDecidable _) y).1
            rw [if_pos ⟨by omega, y⟩, if_pos y]
          · rw [if_neg (fun z => y z.2), if_neg y])
        rw [← z_fed_cut (b := i 19) hle (d + 1), show c + (d + 1) = 36 by omega]
        exact this
      · have hlt : c + 1 < sz := by
          rcases Nat.lt_or_ge (c + 1) sz with y | y
          · exact y
          · exact absurd (nI_le y (by omega)) z
        have em : m 19 = i 19 := by rw [g1 19 (by omega), o13 19 (by decide)]
        rw [z_r1_2 hS, z_r18_0 hS, em, nI_clamp (by omega)]
        have cnt : nI (fb_ct (z_fed (i 19) sz) (c + 1)) = if z_fed (i 19) sz c = true then nI (fb_ct (z_fed (i 19) sz) c + 1) else nI (fb_ct (z_fed (i 19) sz) c) := by
          rw [fb_ct_succ]
          by_cases y : z_fed (i 19) sz c = true
          · rw [if_pos y, if_pos y]
          · rw [if_neg y, if_neg y]
            rfl
        refine ⟨z_T18 hS, k19 _ (by omega), z_isColour9 (fun y => z_t ?_) (fun y => z_f ?_)⟩
        · have hfed := z_fed_t hlt y
          rw [nI_clamp (by omega)]
          refine ⟨z_kin (z_Tprow hS hq) (by omega) (by decide), fun m2 u2 => ?_⟩
          show w_X9_row_65 1 T n r w _ (d + 1) (nI sz) (11 + q) (nI _ + 1) (nI c + 1) m2
          rw [nI_1, nI_1]
          rw [if_pos hfed] at cnt
          rw [← cnt]
          refine ih (c + 1) m2 (by omega) (fun b hb => by rw [u2, kw_st_offF hb, g1 b hb]) (fun p => ?_)
          rw [u2, kw_st_row, g2]
          by_cases y1 : p = c
          · subst y1
            rw [if_pos rfl, if_pos ⟨by omega, hfed⟩]
          · rw [if_neg y1]
            by_cases y2 : p < c ∧ z_fed (i 19) sz p = true
            · rw [if_pos y2, if_pos ⟨by omega, y2.2⟩]
            · rw [if_neg y2, if_neg (fun y3 => y2 ⟨by omega, y3.2⟩)]
        · have hfed : z_fed (i 19) sz c = false := z_fed_f (fun u => y u.2)
          show w_X9_row_65 1 T n r w _ (d + 1) (nI sz) (11 + q) (nI _) (nI c + 1) m
          rw [nI_1]
          rw [if_neg (by rw [hfed]; decide)] at cnt
          rw [← cnt]
          refine ih (c + 1) m (by omega) g1 (fun p => ?_)
          rw [g2]
          by_cases y2 : p < c ∧ z_fed (i 19) sz p = true
          · rw [if_pos y2, if_pos ⟨by omega, y2.2⟩]
          · rw [if_neg y2]
            by_cases y3 : p < c + 1 ∧ z_fed (i 19) sz p = true
            · exfalso
              by_cases y4 : p = c
              · rw [y4, hfed] at y3
                exact absurd y3.2 (by decide)
              · exact y2 ⟨by omega, y3.2⟩
            · rw [if_neg y3]
  exact ⟨37, loop 36 0 i13 (by omega) (fun _ _ => rfl) (fun p => by rw [if_neg (fun z => by omega), o13 _ (by omega)])⟩
