-- SLIPS
theorem z_slpB_iff {K : Nat → Int32} {L : List z_Sm} {nv k : Nat} : z_slpB K L nv k = true ↔ z_slp K L nv k := @decide_eq_true_iff _ (Classical.propDecidable _)
section ZSL
variable {T : kw_T} {n : Nat} {r : kw_R} {i : kw_I} {w : kw_L} {K : Nat → Int32} {nv : Nat} {L : List z_Sm}
theorem z_fx_cv {v cell v' c' : Nat} {x a b d : Int32} (h : v' ≠ v ∨ c' ≠ cell) : z_cv (z_env K L 0 (z_W0 K) (z_fx v cell x)) v' c' a b d = z_cv (z_E0 K L) v' c' a b d := by
  have e : z_fx v cell x v' c' = none := by
    unfold z_fx
    exact if_neg (by omega)
  unfold z_cv z_E0 z_env
  show (match z_fx v cell x v' c' with | some x => x | none => _) = _
  rw [e]
  rfl
theorem z_fx_at {v cell : Nat} {x a b d : Int32} : z_cv (z_env K L 0 (z_W0 K) (z_fx v cell x)) v cell a b d = x := by
  have e : z_fx v cell x v cell = some x := if_pos ⟨rfl, rfl⟩
  unfold z_cv z_env
  show (match z_fx v cell x v cell with | some x => x | none => _) = _
  rw [e]
theorem z_fx_go {v cell : Nat} {x : Int32} {f : Nat → Int32} : ∀ m c, c < 36 → z_go (z_env K L 0 (z_W0 K) (z_fx v cell x)) v f (m + 1) c = z_go (z_E0 K L) (v + 1) (z_wv (z_env K L 0 (z_W0 K) (z_fx v cell x)) v f) m c := by
  intro m
  induction m with
  | zero => intro c hc; rfl
  | succ m ih =>
    intro c hc
    show z_wv (z_env K L 0 (z_W0 K) (z_fx v cell x)) (v + (m + 1)) (z_go (z_env K L 0 (z_W0 K) (z_fx v cell x)) v f (m + 1)) c = z_wv (z_E0 K L) (v + 1 + m) (z_go (z_E0 K L) (v + 1) (z_wv (z_env K L 0 (z_W0 K) (z_fx v cell x)) v f) m) c
    rw [show v + (m + 1) = v + 1 + m by omega]
    rw [z_wv_env (E' := z_E0 K L) (fun c a b d _ => z_fx_cv (Or.inl (by omega))) c hc]
    exact z_wv_eq (fun c hc => ih c hc) c hc
theorem z_endSlip (hR : z_rows T r i K nv L) (hE : z_lE T r i w nv (z_E0 K L)) {v cell : Nat} (hv : v < nv) (hc : cell < 36) {x : Int32} {Q : Nat → kw_I → kw_L → Prop} (hQ : ∀ a i' w', T a = (1, 36) → z_fe i i' → z_wo 28 w w' → (∀ c, c < 36 → i' a c = z_go (z_env K L 0 (z_W0 K) (z_fx v cell x)) v (z_on K L v) (nv - v) c) → Q a i' w') : w_X0_endAfterSlip 52 (nI v) (nI cell) x T n r i w Q := by
  have hS := hR.1
  have hn := hR.2.2.2.1
  have p2 : v % 2 < 2 := Nat.mod_lt _ (by decide)
  unfold w_X0_endAfterSlip
  rw [z_r52_2 hS, z_r52_0 hS, z_r23_1 hS, z_and1 (by omega), nI_clamp (show v < 2 ^ 31 by omega), nI_clamp (show v % 2 < 2 ^ 31 by omega), z_rsrow hS p2, z_rorow hS (by omega), nI_clamp (show cell < 2 ^ 31 by omega), nI_1, show nI cell + (6 : Int32) = nI (cell + 6) from nI_add cell 6, nI_1]
  have kc : kw_cpo T (31 + v) (54 + v % 2) (0 : Int32) 0 36 := by
    unfold kw_cpo
    rw [z_Torow hS (by omega), z_Tsrow hS p2]
    exact ⟨rfl, rfl, by decide, by decide, by decide, by decide, by decide⟩
  refine ⟨z_kin (z_T53 hS) p2 (by decide), z_T23 hS, z_kin (z_T30 hS) (by omega) (by decide), kc, fun j1 e1 => ⟨z_kin (z_Tsrow hS p2) hc (by decide), fun j2 e2 => ?_⟩⟩
  have e1' : j1 = kw_cpy i (31 + v) (54 + v % 2) 0 0 36 := e1
  have o2 : ∀ b, b ≠ 54 + v % 2 → j2 b = i b := fun b hb => by rw [e2, kw_st_offF hb, e1', z_cpy_off hb]
  have r2 : ∀ c, c < 36 → j2 (54 + v % 2) c = if c = cell then x else z_on K L (v + 1) c := fun c hc => by
    rw [e2, kw_st_row, e1', z_cpy_row hc, hR.2.2.2.2.1 v hv c hc]
  have fe2 : z_fe i j2 := ⟨fun b b1 b2 b3 b4 => o2 b (by omega), by rw [o2 29 (by omega)], fun f f1 f2 => by rw [o2 52 (by omega)]⟩
  have hR2 := z_rows_fe hR fe2
  have hE2 : z_lE T r j2 w nv (z_E0 K L) := z_lE_fe hE fe2 (fun _ _ => rfl)
  refine z_pic2 hR2 (m := v) ?_ fun a6 ta6 ra6 wa6 => ?_
  · rcases Nat.eq_zero_or_pos v with q | q
    · left
      rw [q]
      exact ⟨by decide, rfl⟩
    · right
      exact ⟨v - 1, by omega, pk_sub (b := 1) q, by omega⟩
  have ⟨W, hWd⟩ : ∃ W, W = z_wv (z_env K L 0 (z_W0 K) (z_fx v cell x)) v (z_on K L v) := ⟨_, rfl⟩
  have isG : z_isW (z_env K L 0 (z_W0 K) (z_fx v cell x)) v (z_on K L v) W 36 := by rw [hWd]; exact z_isW_wv _ v _
  have isR : ∀ d, d < 36 → z_on K L (v + 1) d = z_cv (z_E0 K L) v d (z_was (z_E0 K L) v (z_on K L v) d) (z_left (z_on K L (v + 1)) d) (z_above (z_on K L (v + 1)) d) := by
    intro d hd
    rw [z_on_succ]
    exact z_isW_wv (z_E0 K L) v (z_on K L v) d hd
  have low : ∀ d, d < cell → W d = z_on K L (v + 1) d := by
    intro d
    induction d using Nat.strongRecOn with
    | ind d ih =>
      intro hd
      rw [isG d (by omega), isR d (by omega), z_fx_cv (Or.inr (by omega)), z_left_eq (g := W) (g' := z_on K L (v + 1)) (fun e he => ih e he (by omega)), z_above_eq (g := W) (g' := z_on K L (v + 1)) (fun e he => ih e he (by omega))]
      rfl
  have atc : W cell = x := by
    rw [isG cell hc]
    exact z_fx_at
  have r2' : ∀ d, d < 36 → d < cell + 1 → j2 (54 + v % 2) d = W d := fun d hd h1 => by
    rw [r2 d hd]
    by_cases y : d = cell
    · rw [if_pos y, y, atc]
    · rw [if_neg y, low d (by omega)]
  refine z_follow (fr := cell + 1) (to := cell + 6) (W := W) hR2 hE2 hv ta6 (z_Tsrow hS p2) (by omega) (by omega) (by omega) (by omega) (by omega) (by omega) (fun d h5 hd => ?_) isR r2' (fun d hd h5 => ?_) (fun d hd h5 h6 => ?_) (fun d hd h5 h6 => absurd (ra6 d hd) h6) ?_
  · rw [isG d hd, z_fx_cv (Or.inr (by omega))]
    congr 1
    exact (z_was_eq (ra6 d hd)).symm
  · rw [r2 d hd, if_neg (by omega)]
  · rcases Nat.lt_or_ge d cell with y | y
    · exact absurd (low d y) h6
    · omega
  · intro j3 u3 lo hi b1 b2 b3 b4 b5 b6 b7 b8 j4 e4 j5 e5
    have fe3 : z_fe i j3 := ⟨fun b x1 x2 x3 x4 => by rw [b1.1 b x1 (by omega) x2]; exact fe2.1 b x1 x2 x3 x4, by rw [b1.2.1]; exact fe2.2.1, fun f f1 f2 => by rw [b1.2.2 f f1 f2]; exact fe2.2.2 f f1 f2⟩
    have o5 : ∀ b, b ≠ 52 → j5 b = j3 b := fun b hb => by rw [e5, kw_st_offF hb, e4, kw_st_offF hb]
    have fe5 : z_fe i j5 := ⟨fun b x1 x2 x3 x4 => by rw [o5 b x2]; exact fe3.1 b x1 x2 x3 x4, by rw [o5 29 (by decide)]; exact fe3.2.1, fun f f1 f2 => by rw [e5, kw_st_row, if_neg f2, e4, kw_st_row, if_neg f1]; exact fe3.2.2 f f1 f2⟩
    have s3 : j5 52 3 = nI cell := by rw [e5, kw_st_row, if_neg (by decide), e4, kw_st_same]
    have s4 : j5 52 4 = nI (max hi (cell + 1)) - 1 := by
      have e44 : j4 52 4 = nI hi - 1 := by rw [e4, kw_st_row, if_neg (by decide)]; exact b5
      rw [e5, kw_st_same, e44]
      by_cases y : hi ≤ cell
      · have lt : nI hi - 1 < nI cell := by
          have e : (nI hi - 1 : Int32).toInt = (hi : Int) - 1 := pk_sub_toInt (b := 1) (by omega) (by decide)
          rw [fa_lt, e, nI_toInt (by omega)]
          omega
        rw [if_pos lt, Nat.max_eq_right (by omega), z_m1]
      · have lt : ¬ nI hi - 1 < nI cell := by
          have e : (nI hi - 1 : Int32).toInt = (hi : Int) - 1 := pk_sub_toInt (b := 1) (by omega) (by decide)
          rw [fa_lt, e, nI_toInt (by omega)]
          omega
        rw [if_neg lt, Nat.max_eq_left (by omega)]
    refine z_endFrom (S := 0) (Wf := z_W0 K) (k := v + 1) (C := 0) (lo := cell) (hi := max hi (cell + 1)) (F := W) (z_rows_fe hR fe5) (z_lE_fe hE fe5 b2) (by omega) (by decide) (fun v _ _ => ⟨Nat.zero_testBit v, rfl⟩) (fun c hc => by rw [o5 _ (by omega)]; exact b3 c hc) s3 s4 (by omega) (by omega) (fun d hd h6 => ?_) (z_Tsrow hS p2) (by omega) (by omega) ?_
    · rcases Nat.lt_or_ge d (cell + 1) with y | y
      · rcases Nat.lt_or_ge d cell with z | z
        · exact absurd (low d z) h6
        · omega
      · have := b8 d hd y h6
        omega
    · intro a j6 u6 c1 c2 c3 c4
      refine hQ a j6 u6 c1 ⟨fun b x1 x2 x3 x4 => (c2.1 b x1 x2 x3 x4).trans (fe5.1 b x1 x2 x3 x4), c2.2.1.trans fe5.2.1, fun f f1 f2 => (c2.2.2 f f1 f2).trans (fe5.2.2 f f1 f2)⟩ (fun b hb => (c3 b hb).trans (b2 b hb)) (fun c hc => ?_)
      have := z_fx_go (K := K) (L := L) (v := v) (cell := cell) (x := x) (f := z_on K L v) (nv - (v + 1)) c hc
      rw [show nv - (v + 1) + 1 = nv - v by omega] at this
      rw [c4 c hc, this, hWd]
      rfl
theorem z_findSlips (h : z_fr T n r i w nv L) {Q : kw_I → kw_L → Prop} (hQ : ∀ i' w', z_fr T n r i' w' nv L → i' 86 = i 86 → i' 2 = i 2 → i' 52 11 ≠ 0 → Q i' w') : w_X0_findSlips 52 T n r i w Q := by
  have hS := h.1.1
  have hK := h.2.2.1
  have hn := hK.1
  have hE := h.2.2.2.2.1.2.1
  have hR := z_fr_rows h
  refine ⟨fun c8 i10 e10 i15 e15 => ⟨36 * nv + 1, ?_⟩, fun c8 => hQ i w h rfl rfl c8⟩
  have loop : ∀ (d pl : Nat) (m : kw_I) (z : kw_L), pl + d = 36 * nv → (∀ b, b ≠ 29 → b ≠ 52 → b ≠ 54 → b ≠ 55 → b ≠ 63 → m b = i b) → m 29 8 = i 29 8 → (∀ f, f ≠ 3 → f ≠ 4 → f ≠ 10 → f ≠ 11 → m 52 f = i 52 f) → m 52 11 = 1 → m 52 10 = nI (fb_ct (z_slpB (i 86) L nv) (8 * pl)) → z_wo 28 w z → (∀ pl', pl' < pl → ∃ b, b < 256 ∧ m 63 pl' = nI b ∧ ∀ col, col < 8 → b.testBit col = z_slpB (i 86) L nv (8 * pl' + col)) → w_X0_findSlips_20 52 T n r Q (d + 1) (nI pl) m z := by
    intro d
    induction d with
    | zero =>
      intro pl m z hd g1 g2 g3 g4 g5 g6 g7
      have : pl = 36 * nv := by omega
      subst this
      show s_X0_findSlips_20 52 T n r Q _ (nI (36 * nv)) m z
      unfold s_X0_findSlips_20
      rw [z_r52_1 hS, g1 24 (by decide) (by decide) (by decide) (by decide) (by decide), hE.1.1, show nI nv * (36 : Int32) = nI (nv * 36) from pk_mul nv 36]
      refine ⟨z_T24 hS, fun _ => ?_, fun q => absurd (nI_le (by omega) (by omega)) q⟩
      obtain ⟨f1, f2⟩ := z_fr_gs h (i' := m) (w' := z) (fun b b1 b2 b3 => g1 b b1 b2 (by omega) (by omega) (by omega)) g2 g6 (by
        obtain ⟨s1, s2, s3⟩ := h.2.2.2.2.2
        refine ⟨fun s' hs' q => ?_, fun q => ?_, fun q => ?_⟩
        · rw [g1 (57 + s') (by omega) (by omega) (by omega) (by omega) (by omega)]
          rw [g1 61 (by omega) (by omega) (by omega) (by omega) (by omega)] at q
          exact s1 s' hs' q
        · rw [g1 62 (by decide) (by decide) (by decide) (by decide) (by decide)]
          rw [g3 8 (by decide) (by decide) (by decide) (by decide)] at q
          exact s2 q
        · refine ⟨g7, ?_⟩
          rw [g5, show 8 * (36 * nv) = 288 * nv by omega])
      exact hQ m z f1 f2 (g1 2 (by decide) (by decide) (by decide) (by decide) (by decide)) (by rw [g4]; decide)
    | succ d ih =>
      intro pl m z hd g1 g2 g3 g4 g5 g6 g7
      show s_X0_findSlips_20 52 T n r Q _ (nI pl) m z
      unfold s_X0_findSlips_20
      have hpl : pl < 36 * nv := by omega
      have hv : pl / 36 < nv := by omega
      have hc : pl % 36 < 36 := Nat.mod_lt _ (by decide)
      have em : nI pl - nI pl / (36 : Int32) * 36 = nI (pl % 36) := pk_rem (d := 36) (by omega) (by decide) (by decide)
      have ed : nI pl / (36 : Int32) = nI (pl / 36) := pk_div (d := 36) (by omega) (by decide) (by decide)
      rw [em, ed, z_r52_1 hS, g1 24 (by decide) (by decide) (by decide) (by decide) (by decide), hE.1.1, show nI nv * (36 : Int32) = nI (nv * 36) from pk_mul nv 36]
      refine ⟨z_T24 hS, fun q => absurd q (nI_ge (by omega) (by omega)), fun _ => ⟨9, ?_⟩⟩
      have inner : ∀ (e col : Nat) (m : kw_I) (z : kw_L), col + e = 8 → (∀ b, b ≠ 29 → b ≠ 52 → b ≠ 54 → b ≠ 55 → b ≠ 63 → m b = i b) → m 29 8 = i 29 8 → (∀ f, f ≠ 3 → f ≠ 4 → f ≠ 10 → f ≠ 11 → m 52 f = i 52 f) → m 52 11 = 1 → m 52 10 = nI (fb_ct (z_slpB (i 86) L nv) (8 * pl)) → z_wo 28 w z → (∀ pl', pl' < pl → ∃ b, b < 256 ∧ m 63 pl' = nI b ∧ ∀ col, col < 8 → b.testBit col = z_slpB (i 86) L nv (8 * pl' + col)) → w_X0_findSlips_50 52 T n r Q (w_X0_findSlips_20 52 T n r Q (d + 1)) (e + 1) (nI pl) (nI (pl / 36)) (nI (pl % 36)) (nI (z_bits (fun col => z_slpB (i 86) L nv (8 * pl + col)) col)) (nI col) m z := by
        intro e
        induction e with
        | zero =>
          intro col m z he g1 g2 g3 g4 g5 g6 g7
          have : col = 8 := by omega
          subst this
          have lt8 : z_bits (fun col => z_slpB (i 86) L nv (8 * pl + col)) 8 < 2 ^ 8 := z_bits_lt _ 8
          show s_X0_findSlips_50 52 T n r Q _ _ (nI pl) (nI (pl / 36)) (nI (pl % 36)) (nI _) (nI 8) m z
          unfold s_X0_findSlips_50
          rw [z_r52_9 hS, nI_clamp (show pl < 2 ^ 31 by omega), nI_1]
          refine ⟨fun _ => ⟨z_kin (z_T63 hS) (by omega) (by decide), fun m1 f1 => z_bitCount (by omega) fun m2 f2 => ?_⟩, fun q => absurd (by decide) q⟩
          rw [z_pop_bits] at f2
          have e10 : m1 52 10 = nI (fb_ct (z_slpB (i 86) L nv) (8 * pl)) := by rw [f1, kw_st_off (by decide)]; exact g5
          rw [e10, nI_add, ← fb_ct_split] at f2
          have o2 : ∀ b, b ≠ 52 → b ≠ 63 → m2 b = m b := fun b b1 b2 => by rw [f2, kw_st_offF b1, f1, kw_st_offF b2]
          refine ih (pl + 1) m2 z (by omega) (fun b b1 b2 b3 b4 b5 => by rw [o2 b b2 b5]; exact g1 b b1 b2 b3 b4 b5) (by rw [o2 29 (by decide) (by decide)]; exact g2) (fun f x1 x2 x3 x4 => by rw [f2, kw_st_row, if_neg x3, f1, kw_st_off (by decide)]; exact g3 f x1 x2 x3 x4) (by rw [f2, kw_st_row, if_neg (by decide), f1, kw_st_off (by decide)]; exact g4) (by rw [f2, kw_st_same, show 8 * (pl + 1) = 8 * pl + 8 by omega]) g6 (fun pl' hp => ?_)
          have e63 : m2 63 pl' = if pl' = pl then nI (z_bits (fun col => z_slpB (i 86) L nv (8 * pl + col)) 8) else m 63 pl' := by rw [f2, kw_st_off (by decide), f1, kw_st_row]
          rw [e63]
          by_cases y : pl' = pl
          · rw [if_pos y, y]
            exact ⟨_, lt8, rfl, fun col hcol => z_bits_test _ 8 col hcol⟩
          · rw [if_neg y]
            exact g7 pl' (by omega)
        | succ e ihe =>
          intro col m z he g1 g2 g3 g4 g5 g6 g7
          have hcol : col < 8 := by omega
          have kd : (8 * pl + col) / 288 = pl / 36 := by omega
          have km : (8 * pl + col) % 288 / 8 = pl % 36 := by omega
          have k8 : (8 * pl + col) % 8 = col := by omega
          show s_X0_findSlips_50 52 T n r Q _ _ (nI pl) (nI (pl / 36)) (nI (pl % 36)) (nI _) (nI col) m z
          unfold s_X0_findSlips_50
          have rd1 := h.2.2.2.2.1.1
          have e10 : r 10 ((2 : Int32)).toNatClampNeg = 13 := z_r10_2 hS
          rw [z_r52_0 hS, z_r23_1 hS, rd1, e10, nI_clamp (show pl / 36 < 2 ^ 31 by omega), nI_clamp (show pl % 36 < 2 ^ 31 by omega), z_rorow hS (by omega), z_one_shl (by omega), fa_or]
          have hRm : z_rows T r m (i 86) nv L := z_rows_eq hR (by rw [g1 24 (by decide) (by decide) (by decide) (by decide) (by decide)]) (fun b b1 b2 => g1 b (by omega) (by omega) (by omega) (by omega) (by omega)) (g1 11 (by decide) (by decide) (by decide) (by decide) (by decide))
          have hEm : z_lE T r m z nv (z_E0 (i 86) L) := z_lE_io hE (g1 24 (by decide) (by decide) (by decide) (by decide) (by decide)) (g1 26 (by decide) (by decide) (by decide) (by decide) (by decide)) (g1 27 (by decide) (by decide) (by decide) (by decide) (by decide)) g2 (fun b hb => g1 b (by omega) (by omega) (by omega) (by omega) (by omega)) (g6 25 (by decide))
          have eon : m (31 + pl / 36) (pl % 36) = z_on (i 86) L (pl / 36 + 1) (pl % 36) := hRm.2.2.2.2.1 _ hv _ hc
          rw [eon]
          refine ⟨fun q => absurd q (nI_ge (b := 8) hcol (by decide)), fun _ => ⟨z_T23 hS, z_kin (z_T30 hS) (by omega) (by decide), z_kin (z_Torow hS (by omega)) hc (by decide), fun q => ?_, fun q => ?_⟩⟩
          · refine z_endSlip hRm hEm hv hc fun a m2 z2 b1 b2 b3 b4 => ⟨z_kin (k := 2) (z_T10 hS) (by decide) (by decide), ?_⟩
            have o2 : ∀ b, b ≠ 29 → b ≠ 52 → b ≠ 54 → b ≠ 55 → b ≠ 63 → m2 b = i b := fun b x1 x2 x3 x4 x5 => by rw [b2.1 b x1 x2 x3 x4]; exact g1 b x1 x2 x3 x4 x5
            have e13 : ∀ c, c < 36 → m2 13 c = i 86 (132 + c) := fun c hc => by
              rw [o2 13 (by decide) (by decide) (by decide) (by decide) (by decide)]
              exact h.1.2.2.1.1.2.1 2 c (by decide) hc
            have iff : (∀ c, c < 36 → m2 a c = m2 13 c) ↔ z_slpB (i 86) L nv (8 * pl + col) = true := by
              rw [z_slpB_iff]
              unfold z_slp
              rw [kd, km, k8]
              exact ⟨fun y => ⟨fun e => q e.symm, fun c hc => by rw [← b4 c hc, y c hc, e13 c hc]⟩, fun y c hc => by rw [b4 c hc, y.2 c hc, e13 c hc]⟩
            have nx := ihe (col + 1) m2 z2 (by omega) o2 (b2.2.1.trans g2) (fun f x1 x2 x3 x4 => by rw [b2.2.2 f x1 x2]; exact g3 f x1 x2 x3 x4) (by rw [b2.2.2 11 (by decide) (by decide)]; exact g4) (by rw [b2.2.2 10 (by decide) (by decide)]; exact g5) (fun b hb => (b3 b hb).trans (g6 b hb)) (by rw [b2.1 63 (by decide) (by decide) (by decide) (by decide)]; exact g7)
            unfold z_bits at nx
            refine z_same9 b1 (z_T13 hS) (fun y => z_t ?_) (fun y => z_f ?_)
            · show w_X0_findSlips_50 52 T n r Q _ (e + 1) (nI pl) (nI (pl / 36)) (nI (pl % 36)) _ (nI col + 1) m2 z2
              rw [nI_1]
              rw [if_pos (iff.mp y)] at nx
              exact nx
            · show w_X0_findSlips_50 52 T n r Q _ (e + 1) (nI pl) (nI (pl / 36)) (nI (pl % 36)) _ (nI col + 1) m2 z2
              rw [nI_1]
              rw [if_neg (fun y2 => y (iff.mpr y2))] at nx
              exact nx
          · have nx := ihe (col + 1) m z (by omega) g1 g2 g3 g4 g5 g6 g7
            unfold z_bits at nx
            rw [if_neg (fun y => by
              have y' := z_slpB_iff.mp y
              unfold z_slp at y'
              rw [kd, km, k8] at y'
              exact y'.1 q.symm)] at nx
            show w_X0_findSlips_50 52 T n r Q _ (e + 1) (nI pl) (nI (pl / 36)) (nI (pl % 36)) _ (nI col + 1) m z
            rw [nI_1]
            exact nx
      exact inner 8 0 m z (by omega) g1 g2 g3 g4 g5 g6 g7
  refine loop (36 * nv) 0 i15 w (by omega) (fun b b1 b2 b3 b4 b5 => by rw [e15, kw_st_offF b2, e10, kw_st_offF b2]) (by rw [e15, kw_st_off (by decide), e10, kw_st_off (by decide)]) (fun f x1 x2 x3 x4 => by rw [e15, kw_st_row, if_neg x3, e10, kw_st_row, if_neg x4]) (by rw [e15, kw_st_row, if_neg (by decide), e10, kw_st_same]) (by rw [e15, kw_st_same]; rfl) (fun _ _ => rfl) (fun pl' hp => absurd hp (Nat.not_lt_zero pl'))
theorem z_slipAt (h : z_fr T n r i w nv L) (h11 : i 52 11 ≠ 0) {q : Nat} (hq : q < 2 ^ 31) {Q : Int32 → Prop} (hy : ∀ k, k < 288 * nv → z_slpB (i 86) L nv k = true → fb_ct (z_slpB (i 86) L nv) k = q → Q (nI k)) (hno : fb_ct (z_slpB (i 86) L nv) (288 * nv) ≤ q → Q (-1)) : w_X0_slipAt 52 (nI q) T n r i w Q := by
  have hS := h.1.1
  have hn := h.2.2.1.1
  obtain ⟨sb1, sb2⟩ := h.2.2.2.2.2.2.2 h11
  have cl : fb_ct (z_slpB (i 86) L nv) (288 * nv) ≤ 288 * nv := fb_ct_le _ _
  unfold w_X0_slipAt
  rw [sb2]
  refine ⟨fun y => absurd y (nI_pos hq), fun _ => ⟨fun y => ?_, fun y => hno ?_⟩⟩
  · have hlt : q < fb_ct (z_slpB (i 86) L nv) (288 * nv) := (nI_ltI hq (by omega)).mp y
    refine ⟨36 * nv + 1, ?_⟩
    have loop : ∀ (d pl a : Nat), pl + d = 36 * nv → fb_ct (z_slpB (i 86) L nv) (8 * pl) + a = q → w_X0_slipAt_18 52 (nI q) T n r i w Q (d + 1) (nI a) (nI pl) := by
      intro d
      induction d with
      | zero =>
        intro pl a hd ha
        have : pl = 36 * nv := by omega
        subst this
        rw [show 8 * (36 * nv) = 288 * nv by omega] at ha
        omega
      | succ d ih =>
        intro pl a hd ha
        show s_X0_slipAt_18 52 (nI q) T n r i w Q _ (nI a) (nI pl)
        unfold s_X0_slipAt_18
        rw [z_r52_1 hS, h.2.2.2.2.1.2.1.1.1, show nI nv * (36 : Int32) = nI (nv * 36) from pk_mul nv 36]
        refine ⟨z_T24 hS, fun y => absurd y (nI_ge (by omega) (by omega)), fun _ => ⟨9, ?_⟩⟩
        obtain ⟨b, b1, b2, b3⟩ := sb1 pl (by omega)
        have inner : ∀ (e col a : Nat), col + e = 8 → fb_ct (z_slpB (i 86) L nv) (8 * pl + col) + a = q → w_X0_slipAt_35 52 (nI q) T n r i w Q (w_X0_slipAt_18 52 (nI q) T n r i w Q (d + 1)) (e + 1) (nI a) (nI pl) (nI col) := by
          intro e
          induction e with
          | zero =>
            intro col a he ha
            have : col = 8 := by omega
            subst this
            show s_X0_slipAt_35 52 (nI q) T n r i w Q _ _ (nI a) (nI pl) (nI 8)
            unfold s_X0_slipAt_35
            rw [nI_1]
            exact ⟨fun _ => ih (pl + 1) a (by omega) (by rw [show 8 * (pl + 1) = 8 * pl + 8 by omega]; exact ha), fun y => absurd (by decide) y⟩
          | succ e ihe =>
            intro col a he ha
            have hcol : col < 8 := by omega
            have pB := b3 col hcol
            show s_X0_slipAt_35 52 (nI q) T n r i w Q _ _ (nI a) (nI pl) (nI col)
            unfold s_X0_slipAt_35
            rw [z_r52_9 hS, nI_clamp (show pl < 2 ^ 31 by omega), b2]
            have iff := z_bit0 (S := b) (v := col) (by omega) (by omega)
            refine ⟨fun y => absurd y (nI_ge (b := 8) hcol (by decide)), fun _ => ⟨z_kin (z_T63 hS) (by omega) (by decide), fun y => ?_, fun y => ?_⟩⟩
            · have hb : z_slpB (i 86) L nv (8 * pl + col) = true := by
                rw [← pB]
                cases hh : b.testBit col with
                | true => rfl
                | false => exact absurd (iff.mpr hh) y
              refine ⟨fun y2 => ?_, fun y2 => ?_⟩
              · have a0 : a ≠ 0 := fun e => y2 (by rw [e]; rfl)
                obtain ⟨a', rfl⟩ : ∃ a', a = a' + 1 := ⟨a - 1, by omega⟩
                show w_X0_slipAt_35 52 (nI q) T n r i w Q _ (e + 1) (nI (a' + 1) + (-1 : Int32)) (nI pl) (nI col + 1)
                rw [nI_1, z_m1']
                refine ihe (col + 1) a' (by omega) ?_
                rw [show 8 * pl + (col + 1) = 8 * pl + col + 1 by omega, fb_ct_succ, if_pos hb]
                omega
              · have a0 : a = 0 := (nI_eq (b := 0) (by omega) (by decide)).mp y2
                rw [show nI pl * (8 : Int32) = nI (pl * 8) from pk_mul pl 8, nI_add, show pl * 8 + col = 8 * pl + col by omega]
                exact hy _ (by omega) hb (by omega)
            · have hb : z_slpB (i 86) L nv (8 * pl + col) = false := by
                rw [← pB]
                exact iff.mp y
              show w_X0_slipAt_35 52 (nI q) T n r i w Q _ (e + 1) (nI a) (nI pl) (nI col + 1)
              rw [nI_1]
              refine ihe (col + 1) a (by omega) ?_
              rw [show 8 * pl + (col + 1) = 8 * pl + col + 1 by omega, fb_ct_succ, if_neg (by rw [hb]; decide)]
              exact ha
        exact inner 8 0 a (by omega) ha
    exact loop (36 * nv) 0 q (by omega) (by show 0 + q = q; omega)
  · rcases Nat.lt_or_ge q (fb_ct (z_slpB (i 86) L nv) (288 * nv)) with z | z
    · exact absurd (nI_lt z (by omega)) y
    · exact z
end ZSL
