theorem z_and1 {v : Nat} (hv : v < 2 ^ 31) : nI v &&& (1 : Int32) = nI (v % 2) := pk_andN (by omega) 1 (by decide)
theorem z_on_succ (K : Nat → Int32) (L : List z_Sm) (v : Nat) : z_on K L (v + 1) = z_wv (z_E0 K L) v (z_on K L v) := by
  show z_wv (z_E0 K L) (0 + v) _ = _
  rw [Nat.zero_add]
  rfl
/-- an environment that is as on the road for a village -/
theorem z_asRoad {K : Nat → Int32} {L : List z_Sm} {S v : Nat} {Wf : Nat → Nat} (hS : S.testBit v = false) (hW : Wf v = z_W0 K v) : (∀ c a b d, z_cv (z_env K L S Wf z_nofx) v c a b d = z_cv (z_E0 K L) v c a b d) ∧ ∀ f c, z_was (z_env K L S Wf z_nofx) v f c = z_was (z_E0 K L) v f c := by
  refine ⟨fun c a b d => ?_, fun f c => ?_⟩
  · unfold z_cv z_E0 z_env
    show nI (z_nr (Wf v) _) = nI (z_nr (z_W0 K v) _)
    rw [hW]
  · show (if (S.testBit v || z_see0 K v c) = true then f c else -1) = (if (Nat.testBit 0 v || z_see0 K v c) = true then f c else -1)
    rw [hS, Nat.zero_testBit]
/-- what going on to the end changes -/
def z_fe (i i' : kw_I) : Prop := (∀ b, b ≠ 29 → b ≠ 52 → b ≠ 54 → b ≠ 55 → i' b = i b) ∧ i' 29 8 = i 29 8 ∧ ∀ f, f ≠ 3 → f ≠ 4 → i' 52 f = i 52 f
section ZEF
variable {T : kw_T} {n : Nat} {r : kw_R} {i : kw_I} {w : kw_L} {K : Nat → Int32} {nv : Nat} {L : List z_Sm} {S : Nat} {Wf : Nat → Nat}
theorem z_lE_fe {i' : kw_I} {w' : kw_L} {E : z_E} (hE : z_lE T r i w nv E) (hf : z_fe i i') (hw : z_wo 28 w w') : z_lE T r i' w' nv E := z_lE_io hE (hf.1 24 (by decide) (by decide) (by decide) (by decide)) (hf.1 26 (by decide) (by decide) (by decide) (by decide)) (hf.1 27 (by decide) (by decide) (by decide) (by decide)) hf.2.1 (fun b hb => hf.1 b (by omega) (by omega) (by omega) (by omega)) (hw 25 (by decide))
theorem z_rows_fe {i' : kw_I} (h : z_rows T r i K nv L) (hf : z_fe i i') : z_rows T r i' K nv L := z_rows_eq h (by rw [hf.1 24 (by decide) (by decide) (by decide) (by decide)]) (fun b b1 b2 => hf.1 b (by omega) (by omega) (by omega) (by omega)) (hf.1 11 (by decide) (by decide) (by decide) (by decide))
theorem z_hi_le {lo hi : Nat} (h1 : lo ≤ 100) (h2 : hi ≤ 100) : nI lo ≤ nI hi - 1 ↔ lo < hi := by
  have e : (nI hi - 1 : Int32).toInt = (hi : Int) - 1 := pk_sub_toInt (b := 1) (by omega) (by decide)
  rw [fa_le, e, nI_toInt (by omega)]
  omega
theorem z_endFrom (hR : z_rows T r i K nv L) (hE : z_lE T r i w nv (z_env K L S Wf z_nofx)) {k : Nat} (hk : k ≤ nv) {sa C : Nat} (hC : C < 1024) (hsm : ∀ v, v < nv → C.testBit v = false → S.testBit v = false ∧ Wf v = z_W0 K v) {F : Nat → Int32} (hF : ∀ c, c < 36 → i sa c = F c) {lo hi : Nat} (h3 : i 52 3 = nI lo) (h4 : i 52 4 = nI hi - 1) (hlo : lo ≤ 36) (hhi : hi ≤ 36) (hch : ∀ d, d < 36 → F d ≠ z_on K L k d → lo ≤ d ∧ d < hi) (hsa : T sa = (1, 36)) (hs1 : sa ≠ 54 + k % 2) (hs2 : sa ≠ 29 ∧ sa ≠ 52) {Q : Nat → kw_I → kw_L → Prop}
    (hQ : ∀ a i' w', T a = (1, 36) → z_fe i i' → z_wo 28 w w' → (∀ c, c < 36 → i' a c = z_go (z_env K L S Wf z_nofx) k F (nv - k) c) → Q a i' w') : w_X0_endFrom 52 (nI k) sa (nI C) T n r i w Q := by
  have hS := hR.1
  have hn := hR.2.2.2.1
  have loop : ∀ (d m cur lo hi : Nat) (j : kw_I) (u : kw_L), k + m + d = nv → T cur = (1, 36) → cur ≠ 54 + (k + m) % 2 → cur ≠ 29 ∧ cur ≠ 52 → z_fe i j → z_wo 28 w u → (∀ c, c < 36 → j cur c = z_go (z_env K L S Wf z_nofx) k F m c) → j 52 3 = nI lo → j 52 4 = nI hi - 1 → lo ≤ 36 → hi ≤ 36 → (∀ e, e < 36 → z_go (z_env K L S Wf z_nofx) k F m e ≠ z_on K L (k + m) e → lo ≤ e ∧ e < hi) → w_X0_endFrom_6 52 (nI k) sa (nI C) T n r Q (d + 1) cur (nI (k + m)) j u := by
    intro d
    induction d with
    | zero =>
      intro m cur lo hi j u hd g1 g2 g3 g4 g5 g6 g7 g8 g9 g10 g11
      unfold w_X0_endFrom_6 s_X0_endFrom_6
      rw [z_r52_1 hS]
      refine ⟨z_T24 hS, fun _ => hQ cur j u g1 g4 g5 (fun c hc => by rw [g6 c hc, show nv - k = m by omega]), fun q => absurd ?_ q⟩
      rw [g4.1 24 (by decide) (by decide) (by decide) (by decide), hR.2.2.1]
      exact nI_le (by omega) (by omega)
    | succ d ih =>
      intro m cur lo hi j u hd g1 g2 g3 g4 g5 g6 g7 g8 g9 g10 g11
      have hv : k + m < nv := by omega
      have hRj := z_rows_fe hR g4
      have hEj := z_lE_fe hE g4 g5
      have p2 : (k + m) % 2 < 2 := Nat.mod_lt _ (by decide)
      unfold w_X0_endFrom_6 s_X0_endFrom_6
      rw [z_r52_1 hS, z_r52_2 hS, z_r52_0 hS, z_r23_1 hS, z_and1 (by omega), nI_clamp (by omega), nI_clamp (by omega), z_rsrow hS p2, z_rorow hS (by omega)]
      have k30 : kw_in T 5 30 (nI (k + m)) := z_kin (z_T30 hS) (by omega) (by decide)
      refine ⟨z_T24 hS, fun q => absurd q (by rw [hRj.2.2.1]; exact nI_ge hv (by omega)), fun _ => ⟨z_kin (z_T53 hS) p2 (by decide), fun q => ?_, fun q => ?_⟩⟩
      · have cb : C.testBit (k + m) = false := (z_bit0 (by omega) (by omega)).mp q
        obtain ⟨s1, s2⟩ := hsm (k + m) hv cb
        have as := z_asRoad (L := L) s1 s2
        -- what is woven on the road, by this environment
        have isR : z_isW (z_env K L S Wf z_nofx) (k + m) (z_on K L (k + m)) (z_on K L (k + m + 1)) 36 := by
          intro c hc
          rw [as.1, as.2, z_on_succ]
          exact z_isW_wv (z_E0 K L) (k + m) (z_on K L (k + m)) c hc
        have isG := z_isW_wv (z_env K L S Wf z_nofx) (k + m) (z_go (z_env K L S Wf z_nofx) k F m)
        rw [g7, g8]
        refine ⟨fun q2 => ?_, fun q2 => ?_⟩
        · have hlh : lo < hi := (z_hi_le (by omega) (by omega)).mp q2
          have kc : kw_cpo T (31 + (k + m)) (54 + (k + m) % 2) (0 : Int32) 0 36 := by
            unfold kw_cpo
            rw [z_Torow hS (by omega), z_Tsrow hS p2]
            exact ⟨rfl, rfl, by decide, by decide, by decide, by decide, by decide⟩
          refine ⟨z_T23 hS, k30, kc, fun j1 e1 => ?_⟩
          have e1' : j1 = kw_cpy j (31 + (k + m)) (54 + (k + m) % 2) 0 0 36 := e1
          have o1 : ∀ b, b ≠ 54 + (k + m) % 2 → j1 b = j b := fun b hb => by rw [e1', z_cpy_off hb]
          have c1 : ∀ c, c < 36 → j1 (54 + (k + m) % 2) c = z_on K L (k + m + 1) c := fun c hc => by rw [e1', z_cpy_row hc]; exact hRj.2.2.2.2.1 (k + m) hv c hc
          have fe1 : z_fe i j1 := ⟨fun b b1 b2 b3 b4 => by rw [o1 b (by omega)]; exact g4.1 b b1 b2 b3 b4, by rw [o1 29 (by omega)]; exact g4.2.1, fun f f1 f2 => by rw [o1 52 (by omega)]; exact g4.2.2 f f1 f2⟩
          have e3 : j1 52 3 = nI lo := by rw [o1 52 (by omega)]; exact g7
          have e4 : j1 52 4 = nI (hi - 1) := by rw [o1 52 (by omega), g8]; exact pk_sub (b := 1) (by omega)
          rw [e3, e4]
          have cur1 : ∀ c, c < 36 → j1 cur c = z_go (z_env K L S Wf z_nofx) k F m c := fun c hc => by rw [o1 cur g2]; exact g6 c hc
          have low : ∀ e, e < lo → z_wv (z_env K L S Wf z_nofx) (k + m) (z_go (z_env K L S Wf z_nofx) k F m) e = z_on K L (k + m + 1) e := fun e he => z_isW_one (m := lo) (fun c hc => isG c (by omega)) (fun c hc => isR c (by omega)) (fun c hc => by
            by_cases y : z_go (z_env K L S Wf z_nofx) k F m c = z_on K L (k + m) c
            · exact y
            · have := g11 c (by omega) y
              omega) e he
          refine z_follow (fr := lo) (to := hi - 1) (W := z_wv (z_env K L S Wf z_nofx) (k + m) (z_go (z_env K L S Wf z_nofx) k F m)) (z_rows_fe hR fe1) (z_lE_fe hE fe1 g5) hv g1 (z_Tsrow hS p2) (by omega) g2 g3.1 g3.2 (by omega) g9 (fun e h5 he => ?_) isR (fun e he h5 => ?_) (fun e he h5 => c1 e he) (fun e he h5 h6 => absurd (low e h5) h6) (fun e he h5 h6 => ?_) ?_
          · rw [isG e he]
            congr 1
            exact (z_was_eq (cur1 e he)).symm
          · rw [c1 e he, low e h5]
          · rw [cur1 e he] at h6
            have := g11 e he h6
            omega
          · intro j2 u2 lo2 hi2 b1 b2 b3 b4 b5 b6 b7 b8
            show w_X0_endFrom_6 52 (nI k) sa (nI C) T n r Q (d + 1) (54 + (k + m) % 2) (nI (k + m) + 1) j2 u2
            rw [nI_1]
            refine ih (m + 1) (54 + (k + m) % 2) lo2 hi2 j2 u2 (by omega) (z_Tsrow hS p2) (by omega) (by omega) ⟨fun b x1 x2 x3 x4 => by rw [b1.1 b x1 (by omega) x2]; exact fe1.1 b x1 x2 x3 x4, by rw [b1.2.1]; exact fe1.2.1, fun f f1 f2 => by rw [b1.2.2 f f1 f2]; exact fe1.2.2 f f1 f2⟩ (fun b hb => (b2 b hb).trans (g5 b hb)) (fun c hc => b3 c hc) b4 b5 b6 b7 (fun e he h6 => ?_)
            by_cases y : lo ≤ e
            · exact b8 e he y h6
            · exact absurd (low e (by omega)) h6
        · have hlh : ¬ lo < hi := fun y => q2 ((z_hi_le (by omega) (by omega)).mpr y)
          refine ⟨z_T23 hS, k30, ?_⟩
          have all : ∀ e, e < 36 → z_wv (z_env K L S Wf z_nofx) (k + m) (z_go (z_env K L S Wf z_nofx) k F m) e = z_on K L (k + m + 1) e := z_isW_one isG isR (fun c hc => by
            by_cases y : z_go (z_env K L S Wf z_nofx) k F m c = z_on K L (k + m) c
            · exact y
            · have := g11 c hc y
              omega)
          show w_X0_endFrom_6 52 (nI k) sa (nI C) T n r Q (d + 1) (31 + (k + m)) (nI (k + m) + 1) j u
          rw [nI_1]
          exact ih (m + 1) (31 + (k + m)) lo hi j u (by omega) (z_Torow hS (by omega)) (by omega) (by omega) g4 g5 (fun c hc => by rw [hRj.2.2.2.2.1 (k + m) hv c hc]; exact (all c hc).symm) g7 g8 g9 g10 (fun e he h6 => absurd (all e he) h6)
      · refine z_weaveE hS hEj hv g1 (z_Tsrow hS p2) g2 g3.1 (by omega) fun j2 u2 a1 a2 a3 a4 j3 f3 j4 f4 => ?_
        show w_X0_endFrom_6 52 (nI k) sa (nI C) T n r Q (d + 1) (54 + (k + m) % 2) (nI (k + m) + 1) j4 u2
        rw [nI_1]
        have o4 : ∀ b, b ≠ 52 → j4 b = j2 b := fun b hb => by rw [f4, kw_st_offF hb, f3, kw_st_offF hb]
        refine ih (m + 1) (54 + (k + m) % 2) 0 36 j4 u2 (by omega) (z_Tsrow hS p2) (by omega) (by omega) ⟨fun b x1 x2 x3 x4 => by rw [o4 b x2, a1 b x1 (by omega)]; exact g4.1 b x1 x2 x3 x4, by rw [o4 29 (by decide), a2]; exact g4.2.1, fun f f1 f2 => by rw [f4, kw_st_row, if_neg f2, f3, kw_st_row, if_neg f1, a1 52 (by decide) (by omega)]; exact g4.2.2 f f1 f2⟩ (fun b hb => (a3 b hb).trans (g5 b hb)) (fun c hc => ?_) ?_ ?_ (by omega) (by omega) (fun e he _ => ⟨Nat.zero_le _, he⟩)
        · rw [o4 _ (by omega), a4 c hc]
          exact z_wv_eq g6 c hc
        · rw [f4, kw_st_row, if_neg (by decide), f3, kw_st_same]
          rfl
        · rw [f4, kw_st_same]
          rfl
  exact ⟨nv - k + 1, loop (nv - k) 0 sa lo hi i w (by omega) hsa hs1 hs2 ⟨fun _ _ _ _ _ => rfl, rfl, fun _ _ _ => rfl⟩ (fun _ _ => rfl) hF h3 h4 hlo hhi hch⟩
/-- the end with another colour at first -/
noncomputable def z_alt (K : Nat → Int32) (L : List z_Sm) (nv cell col : Nat) : Nat → Int32 := z_go (z_E0 K L) 0 (fun c => if c = cell then nI col else K (60 + c)) nv
noncomputable def z_cfB (K : Nat → Int32) (L : List z_Sm) (nv cell : Nat) (g : Nat → Int32) (col : Nat) : Bool := @decide (∀ c, c < 36 → z_alt K L nv cell col c = g c) (Classical.propDecidable _)
/-- bits below m -/
def z_bits (p : Nat → Bool) : Nat → Nat
  | 0 => 0
  | m + 1 => if p m = true then z_bits p m ||| 2 ^ m else z_bits p m
theorem z_bits_lt (p : Nat → Bool) : ∀ m, z_bits p m < 2 ^ m := by
  intro m
  induction m with
  | zero => exact Nat.one_pos
  | succ m ih =>
    unfold z_bits
    have h2 : (2 : Nat) ^ m < 2 ^ (m + 1) := Nat.pow_lt_pow_right (by decide) (by omega)
    by_cases q : p m = true
    · rw [if_pos q]
      exact Nat.or_lt_two_pow (by omega) h2
    · rw [if_neg q]
      omega
theorem z_bits_test (p : Nat → Bool) : ∀ m k, k < m → (z_bits p m).testBit k = p k := by
  intro m
  induction m with
  | zero => intro k hk; omega
  | succ m ih =>
    intro k hk
    unfold z_bits
    by_cases q : p m = true
    · rw [if_pos q, fb_bit_set]
      rcases Nat.lt_or_ge k m with y | y
      · rw [ih k y, decide_eq_false (by omega), Bool.or_false]
      · have : k = m := by omega
        subst this
        rw [decide_eq_true rfl, Bool.or_true, q]
    · rw [if_neg q]
      rcases Nat.lt_or_ge k m with y | y
      · exact ih k y
      · have : k = m := by omega
        subst this
        rw [Nat.testBit_lt_two_pow (z_bits_lt p k)]
        cases hh : p k with
        | true => exact absurd hh q
        | false => rfl
theorem z_coloursFor (hR : z_rows T r i K nv L) (hE : z_lE T r i w nv (z_E0 K L)) {cell ga : Nat} (hc : cell < 36) (hga : T ga = (1, 36)) (hg1 : ga ≠ 29 ∧ ga ≠ 52 ∧ ga ≠ 54 ∧ ga ≠ 55) {Q : Int32 → kw_I → kw_L → Prop}
    (hQ : ∀ i' w', z_fe i i' → z_wo 28 w w' → Q (nI (z_bits (z_cfB K L nv cell (i ga)) 8)) i' w') : w_X0_coloursFor 52 (nI cell) ga T n r i w Q := by
  have hS := hR.1
  have hn := hR.2.2.2.1
  unfold w_X0_coloursFor
  have e53 : r 53 ((1 : Int32)).toNatClampNeg = 55 := z_rsrow (k := 1) hS (by decide)
  rw [z_r52_2 hS, e53]
  refine ⟨z_kin (k := 1) (z_T53 hS) (by decide) (by decide), 9, ?_⟩
  have loop : ∀ (d col : Nat) (j : kw_I) (u : kw_L), col + d = 8 → z_fe i j → z_wo 28 w u → w_X0_coloursFor_13 52 (nI cell) ga T n r Q (d + 1) (nI (z_bits (z_cfB K L nv cell (i ga)) col)) 55 (nI col) j u := by
    intro d
    induction d with
    | zero =>
      intro col j u hd g1 g2
      have : col = 8 := by omega
      subst this
      exact ⟨fun _ => hQ j u g1 g2, fun q => absurd (by decide) q⟩
    | succ d ih =>
      intro col j u hd g1 g2
      refine ⟨fun q => absurd q (nI_ge (b := 8) (by omega) (by decide)), fun _ => ?_⟩
      rw [z_r52_0 hS]
      have hRj := z_rows_fe hR g1
      refine ⟨z_T23 hS, z_pic2 hRj (m := 0) (Or.inl ⟨by decide, rfl⟩) fun a a1 a2 a3 => ?_⟩
      have ea : a = 11 := by omega
      subst ea
      have kc : kw_cpo T 11 55 (0 : Int32) 0 36 := by
        unfold kw_cpo
        rw [z_T11 hS, z_T55 hS]
        exact ⟨rfl, rfl, by decide, by decide, by decide, by decide, by decide⟩
      rw [nI_clamp (by omega)]
      refine ⟨kc, fun j1 e1 => ⟨z_kin (z_T55 hS) hc (by decide), fun j2 e2 j3 e3 j4 e4 => ?_⟩⟩
      have e1' : j1 = kw_cpy j 11 55 0 0 36 := e1
      have o4 : ∀ b, b ≠ 52 → b ≠ 55 → j4 b = j b := fun b b1 b2 => by rw [e4, kw_st_offF b1, e3, kw_st_offF b1, e2, kw_st_offF b2, e1', z_cpy_off b2]
      have r55 : ∀ c, c < 36 → j4 55 c = if c = cell then nI col else K (60 + c) := fun c hc => by
        rw [e4, kw_st_off (by decide), e3, kw_st_off (by decide), e2, kw_st_row, e1', z_cpy_row hc]
        by_cases y : c = cell
        · rw [if_pos y, if_pos y]
        · rw [if_neg y, if_neg y]
          exact a2 c hc
      have fe4 : z_fe i j4 := ⟨fun b b1 b2 b3 b4 => by rw [o4 b b2 b4]; exact g1.1 b b1 b2 b3 b4, by rw [o4 29 (by decide) (by decide)]; exact g1.2.1, fun f f1 f2 => by rw [e4, kw_st_row, if_neg f2, e3, kw_st_row, if_neg f1, e2, kw_st_off (by decide), e1', z_cpy_off (by decide)]; exact g1.2.2 f f1 f2⟩
      refine z_endFrom (S := 0) (Wf := z_W0 K) (k := 0) (C := 0) (lo := cell) (hi := cell + 1) (F := fun c => if c = cell then nI col else K (60 + c)) (z_rows_fe hR fe4) (z_lE_fe hE fe4 g2) (by omega) (by decide) (fun v _ _ => ⟨Nat.zero_testBit v, rfl⟩) r55 ?_ ?_ (by omega) (by omega) (fun e he h6 => ?_) (z_T55 hS) (by decide) (by decide) ?_
      · rw [e4, kw_st_row, if_neg (by decide), e3, kw_st_same]
      · rw [e4, kw_st_same, z_m1]
      · by_cases y : e = cell
        · omega
        · exact absurd (if_neg y) h6
      · intro a j5 u5 b1 b2 b3 b4
        have fe5 : z_fe i j5 := ⟨fun b x1 x2 x3 x4 => (b2.1 b x1 x2 x3 x4).trans (fe4.1 b x1 x2 x3 x4), b2.2.1.trans fe4.2.1, fun f f1 f2 => (b2.2.2 f f1 f2).trans (fe4.2.2 f f1 f2)⟩
        have eg : j5 ga = i ga := fe5.1 ga hg1.1 hg1.2.1 hg1.2.2.1 hg1.2.2.2
        have nx := ih (col + 1) j5 u5 (by omega) fe5 (fun b hb => (b3 b hb).trans (g2 b hb))
        have iff : (∀ c, c < 36 → j5 a c = j5 ga c) ↔ z_cfB K L nv cell (i ga) col = true := by
          unfold z_cfB
          rw [@decide_eq_true_iff _ (Classical.propDecidable _)]
          rw [eg]
          exact ⟨fun y c hc => by rw [← y c hc]; exact (b4 c hc).symm, fun y c hc => by rw [← y c hc]; exact b4 c hc⟩
        refine z_same9 b1 hga (fun y => z_t ?_) (fun y => z_f ?_)
        · show w_X0_coloursFor_13 52 (nI cell) ga T n r Q (d + 1) (nI _ ||| (1 : Int32) <<< (nI col &&& 31)) 55 (nI col + 1) j5 u5
          rw [z_one_shl (by omega), fa_or, nI_1]
          unfold z_bits at nx
          rw [if_pos (iff.mp y)] at nx
          exact nx
        · show w_X0_coloursFor_13 52 (nI cell) ga T n r Q (d + 1) (nI _) 55 (nI col + 1) j5 u5
          rw [nI_1]
          unfold z_bits at nx
          rw [if_neg (fun z => y (iff.mpr z))] at nx
          exact nx
  exact loop 8 0 i w (by omega) ⟨fun _ _ _ _ _ => rfl, rfl, fun _ _ _ => rfl⟩ (fun _ _ => rfl)
end ZEF
