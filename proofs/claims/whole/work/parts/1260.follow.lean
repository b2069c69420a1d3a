-- WHAT WOULD COME IN THE END, BY THE CLASS
def z_rows (T : kw_T) (r : kw_R) (i : kw_I) (K : Nat → Int32) (nv : Nat) (L : List z_Sm) : Prop := z_S T r ∧ r 23 3 = 10 ∧ i 24 5 = nI nv ∧ nv ≤ 10 ∧ (∀ v, v < nv → ∀ c, c < 36 → i (31 + v) c = z_on K L (v + 1) c) ∧ ∀ c, c < 36 → i 11 c = K (60 + c)
theorem z_cpy_row {i : kw_I} {a b m k : Nat} (hk : k < m) : kw_cpy i a b 0 0 m b k = i a k := by
  unfold kw_cpy
  rw [if_pos rfl, pk_cpy_in (by omega) (by omega)]
  congr 1
  omega
theorem z_cpy_off {i : kw_I} {a b c m : Nat} (h : c ≠ b) : kw_cpy i a b 0 0 m c = i c := by
  unfold kw_cpy
  rw [if_neg h]
section ZFO
variable {T : kw_T} {n : Nat} {r : kw_R} {i : kw_I} {w : kw_L} {K : Nat → Int32} {nv : Nat} {L : List z_Sm} {E : z_E}
theorem z_rows_eq {i' : kw_I} (h : z_rows T r i K nv L) (h24 : i' 24 5 = i 24 5) (hr : ∀ b, 31 ≤ b → b ≤ 40 → i' b = i b) (h11 : i' 11 = i 11) : z_rows T r i' K nv L := by
  obtain ⟨h1, h2, h3, h4, h5, h6⟩ := h
  exact ⟨h1, h2, h24.trans h3, h4, fun v hv => by rw [hr _ (by omega) (by omega)]; exact h5 v hv, by rw [h11]; exact h6⟩
theorem z_pic2 (h : z_rows T r i K nv L) {x : Int32} {m : Nat} (hx : (x < 0 ∧ m = 0) ∨ (∃ v, v < nv ∧ x = nI v ∧ m = v + 1)) {Q : Nat → Prop} (hQ : ∀ a, T a = (1, 36) → (∀ c, c < 36 → i a c = z_on K L m c) → ((m = 0 ∧ a = 11) ∨ (1 ≤ m ∧ a = 30 + m)) → Q a) : w_X5_picture 23 x T n r i w Q := by
  obtain ⟨hS, h2, h3, h4, h5, h6⟩ := h
  unfold w_X5_picture
  have e10 : r 10 ((0 : Int32)).toNatClampNeg = 11 := z_r10_0 hS
  rw [h2, e10, z_r23_0 hS, z_r23_1 hS]
  have k10 : kw_in T 5 10 (0 : Int32) := z_kin (k := 0) (z_T10 hS) (by decide) (by decide)
  rcases hx with ⟨hx, em⟩ | ⟨v, hv, rfl, em⟩
  · exact ⟨fun _ => ⟨k10, hQ 11 (z_T11 hS) (fun c hc => by rw [em]; exact h6 c hc) (Or.inl ⟨em, rfl⟩)⟩, fun q => absurd hx q⟩
  · refine ⟨fun q => absurd q (nI_pos (by omega)), fun _ => ⟨z_T24 hS, fun q => absurd q (by rw [h3]; exact nI_ge hv (by omega)), fun _ => ?_⟩⟩
    rw [nI_clamp (by omega), z_rorow hS (by omega)]
    exact ⟨z_kin (z_T30 hS) (by omega) (by decide), hQ (31 + v) (z_Torow hS (by omega)) (fun c hc => by rw [em]; exact h5 v hv c hc) (Or.inr (by omega))⟩
theorem z_sees2 (hS : z_S T r) (hE : z_lE T r i w nv E) {v c : Nat} (hv : v < nv) (hc : c < 36) {Q : Int32 → Prop} (ht : E.2.1 v c = true → Q 1) (hf : ¬ E.2.1 v c = true → Q 0) : w_X2_sees 24 (nI v) (nI c) T n r i w Q := by
  have hn := hE.1.2.1
  have hs := hE.1.2.2.2.1 v c hv hc
  unfold w_X2_sees
  rw [z_r24_0 hS, nI_clamp (by omega)]
  refine ⟨fun q => ht (hs.mp (Or.inl q)), fun q => ⟨z_kin (z_T25 hS) (by omega) (by decide), fun q2 => hf (fun z => ?_), fun q2 => ht (hs.mp (Or.inr (fun z => q2 (z_ceq.mpr z))))⟩⟩
  rcases hs.mpr z with y | y
  · exact y q
  · exact y (z_ceq.mp q2)
/-- what following changes -/
def z_fo (oa : Nat) (i i' : kw_I) : Prop := (∀ b, b ≠ 29 → b ≠ oa → b ≠ 52 → i' b = i b) ∧ i' 29 8 = i 29 8 ∧ ∀ f, f ≠ 3 → f ≠ 4 → i' 52 f = i 52 f
theorem z_lE_fo {oa : Nat} {i' : kw_I} {w' : kw_L} (hE : z_lE T r i w nv E) (ho : 52 < oa ∧ oa < 57) (hf : z_fo oa i i') (hw : z_wo 28 w w') : z_lE T r i' w' nv E := z_lE_io hE (hf.1 24 (by decide) (by omega) (by decide)) (hf.1 26 (by decide) (by omega) (by decide)) (hf.1 27 (by decide) (by omega) (by decide)) hf.2.1 (fun b hb => hf.1 b (by omega) (by omega) (by omega)) (hw 25 (by decide))
theorem z_follow (hR : z_rows T r i K nv L) (hE : z_lE T r i w nv E) {v : Nat} (hv : v < nv) {sa oa fr to : Nat} (hsa : T sa = (1, 36)) (hoa : T oa = (1, 36)) (ho : 52 < oa ∧ oa < 57) (hne : sa ≠ oa) (hs29 : sa ≠ 29) (hs52 : sa ≠ 52) (hto : to < 100) (hfr : fr ≤ 36) {W : Nat → Int32}
    (hW : ∀ d, fr ≤ d → d < 36 → W d = z_cv E v d (z_was E v (i sa) d) (z_left W d) (z_above W d))
    (hth : ∀ d, d < 36 → z_on K L (v + 1) d = z_cv E v d (z_was E v (z_on K L v) d) (z_left (z_on K L (v + 1)) d) (z_above (z_on K L (v + 1)) d))
    (h1 : ∀ d, d < 36 → d < fr → i oa d = W d) (h2 : ∀ d, d < 36 → fr ≤ d → i oa d = z_on K L (v + 1) d) (h3 : ∀ d, d < 36 → d < fr → W d ≠ z_on K L (v + 1) d → d + 6 ≤ to) (h4 : ∀ d, d < 36 → fr ≤ d → i sa d ≠ z_on K L v d → d ≤ to) {Q : kw_I → kw_L → Prop}
    (hQ : ∀ i' w' lo hi, z_fo oa i i' → z_wo 28 w w' → (∀ d, d < 36 → i' oa d = W d) → i' 52 3 = nI lo → i' 52 4 = nI hi - 1 → lo ≤ 36 → hi ≤ 36 → (∀ d, d < 36 → fr ≤ d → W d ≠ z_on K L (v + 1) d → lo ≤ d ∧ d < hi) → Q i' w') : w_X0_follow 52 (nI v) sa oa (nI fr) (nI to) T n r i w Q := by
  have hS := hR.1
  have hn := hR.2.2.2.1
  unfold w_X0_follow
  rw [z_r52_0 hS, z_r23_1 hS, nI_clamp (by omega), z_rorow hS (by omega)]
  refine ⟨z_T23 hS, z_pic2 hR (m := v) ?_ fun a6 ta6 ra6 wa6 => ⟨z_kin (z_T30 hS) (by omega) (by decide), fun i30 e30 i35 e35 => ⟨37 - fr, ?_⟩⟩⟩
  · rcases Nat.eq_zero_or_pos v with q | q
    · left
      rw [q]
      exact ⟨by decide, rfl⟩
    · right
      exact ⟨v - 1, by omega, pk_sub (b := 1) q, by omega⟩
  have o35 : ∀ b, b ≠ 52 → i35 b = i b := fun b hb => by rw [e35, kw_st_offF hb, e30, kw_st_offF hb]
  have a6lt : a6 < 52 ∧ a6 ≠ 29 := by omega
  -- the cells
  have loop : ∀ (d c u lo hi : Nat) (j : kw_I) (z : kw_L), c + d = 36 → fr ≤ c → u < 200 → z_fo oa i j → z_wo 28 w z → (∀ e, e < 36 → e < c → j oa e = W e) → (∀ e, e < 36 → c ≤ e → j oa e = z_on K L (v + 1) e) → to ≤ u → (∀ e, e < 36 → e < c → W e ≠ z_on K L (v + 1) e → e + 6 ≤ u) → j 52 3 = nI lo → j 52 4 = nI hi - 1 → lo ≤ 36 → hi ≤ 36 → (∀ e, e < c → fr ≤ e → W e ≠ z_on K L (v + 1) e → lo ≤ e ∧ e < hi) → hi ≤ c → w_X0_follow_42 52 (nI v) sa oa (nI fr) (nI to) T n r Q (d + 1) a6 (31 + v) (nI u) (nI c) j z := by
    intro d
    induction d with
    | zero =>
      intro c u lo hi j z hc g0 gu g1 g2 g3 g4 g5 g6 g7 g8 g9 g10 g11 g12
      have : c = 36 := by omega
      subst this
      exact ⟨fun _ => hQ j z lo hi g1 g2 (fun e he => g3 e he he) g7 g8 g9 g10 (fun e he q1 q2 => g11 e he q1 q2), fun q => absurd (by decide) q⟩
    | succ d ih =>
      intro c u lo hi j z hc g0 gu g1 g2 g3 g4 g5 g6 g7 g8 g9 g10 g11 g12
      have js : ∀ e, e < 36 → j sa e = i sa e := fun e _ => by rw [g1.1 sa hs29 hne hs52]
      have j6 : ∀ e, e < 36 → j a6 e = z_on K L v e := fun e he => by rw [g1.1 a6 (by omega) (by omega) (by omega)]; exact ra6 e he
      have j7 : ∀ e, e < 36 → j (31 + v) e = z_on K L (v + 1) e := fun e he => by rw [g1.1 _ (by omega) (by omega) (by omega)]; exact hR.2.2.2.2.1 v hv e he
      -- a cell as before
      have same : (i sa c = z_on K L v c ∨ ¬ E.2.1 v c = true) → (c % 6 = 0 ∨ W (c - 1) = z_on K L (v + 1) (c - 1)) → (c < 6 ∨ W (c - 6) = z_on K L (v + 1) (c - 6)) → W c = z_on K L (v + 1) c := by
        intro q1 q2 q3
        have e1 : z_was E v (i sa) c = z_was E v (z_on K L v) c := by
          unfold z_was
          rcases q1 with q | q
          · rw [q]
          · rw [if_neg q, if_neg q]
        have e2 : z_left W c = z_left (z_on K L (v + 1)) c := by
          unfold z_left
          by_cases y : c % 6 = 0
          · rw [if_pos y, if_pos y]
          · rw [if_neg y, if_neg y]
            exact q2.resolve_left y
        have e3 : z_above W c = z_above (z_on K L (v + 1)) c := by
          unfold z_above
          by_cases y : c < 6
          · rw [if_pos y, if_pos y]
          · rw [if_neg y, if_neg y]
            exact q3.resolve_left y
        rw [hW c g0 (by omega), hth c (by omega), e1, e2, e3]
      refine ⟨fun q => absurd q (nI_ge (b := 36) (by omega) (by decide)), fun _ => ⟨fun q => ?_, fun q => ?_⟩⟩
      · -- nothing is left of the change
        have hu : u < c := (nI_ltI (by omega) (by omega)).mp q
        have rest : ∀ e, e < 36 → c ≤ e → W e = z_on K L (v + 1) e := by
          intro e
          induction e using Nat.strongRecOn with
          | ind e ihe =>
            intro he hce
            have before : ∀ k, k < e → e ≤ k + 6 → W k = z_on K L (v + 1) k := by
              intro k hk hk6
              rcases Nat.lt_or_ge k c with y | y
              · by_cases y2 : W k = z_on K L (v + 1) k
                · exact y2
                · have := g6 k (by omega) y y2
                  omega
              · exact ihe k hk (by omega) y
            have e1 : z_was E v (i sa) e = z_was E v (z_on K L v) e := by
              refine z_was_eq ?_
              by_cases y : i sa e = z_on K L v e
              · exact y
              · have := h4 e he (by omega) y
                omega
            have e2 : z_left W e = z_left (z_on K L (v + 1)) e := by
              unfold z_left
              by_cases y : e % 6 = 0
              · rw [if_pos y, if_pos y]
              · rw [if_neg y, if_neg y, before (e - 1) (by omega) (by omega)]
            have e3 : z_above W e = z_above (z_on K L (v + 1)) e := by
              unfold z_above
              by_cases y : e < 6
              · rw [if_pos y, if_pos y]
              · rw [if_neg y, if_neg y, before (e - 6) (by omega) (by omega)]
            rw [hW e (by omega) he, hth e he, e1, e2, e3]
        refine hQ j z lo hi g1 g2 (fun e he => ?_) g7 g8 g9 g10 (fun e he q1 q2 => ?_)
        · rcases Nat.lt_or_ge e c with y | y
          · exact g3 e he y
          · rw [g4 e he y, rest e he y]
        · rcases Nat.lt_or_ge e c with y | y
          · exact g11 e y q1 q2
          · exact absurd (rest e he y) q2
      · have em : nI c - nI c / (6 : Int32) * 6 = nI (c % 6) := pk_rem (d := 6) (by omega) (by decide) (by decide)
        have ks : kw_in T 1 sa (nI c) := z_kin hsa (by omega) (by decide)
        have k6 : kw_in T 1 a6 (nI c) := z_kin ta6 (by omega) (by decide)
        rw [nI_clamp (by omega), js c (by omega), j6 c (by omega)]
        -- it is as before
        have c130 : W c = z_on K L (v + 1) c → w_X0_follow_130 52 (nI v) sa oa (nI fr) (nI to) T n r Q (w_X0_follow_42 52 (nI v) sa oa (nI fr) (nI to) T n r Q (d + 1)) a6 (31 + v) (nI u) (nI c) j z := by
          intro q
          refine ⟨fun y => absurd y (by decide), fun _ => ?_⟩
          show w_X0_follow_42 52 (nI v) sa oa (nI fr) (nI to) T n r Q (d + 1) a6 (31 + v) (nI u) (nI c + 1) j z
          rw [nI_1]
          refine ih (c + 1) u lo hi j z (by omega) (by omega) gu g1 g2 (fun e he h5 => ?_) (fun e he h5 => g4 e he (by omega)) g5 (fun e he h5 h6 => ?_) g7 g8 g9 g10 (fun e h5 h6 h7 => ?_) (by omega)
          · rcases Nat.lt_or_ge e c with y | y
            · exact g3 e he y
            · rw [show e = c by omega, g4 c (by omega) (Nat.le_refl _), q]
          · rcases Nat.lt_or_ge e c with y | y
            · exact g6 e he y h6
            · rw [show e = c by omega] at h6
              exact absurd q h6
          · rcases Nat.lt_or_ge e c with y | y
            · exact g11 e y h6 h7
            · rw [show e = c by omega] at h7
              exact absurd q h7
        -- it is woven anew
        have c134 : w_X0_follow_134 52 (nI v) sa oa (nI fr) (nI to) T n r Q (w_X0_follow_42 52 (nI v) sa oa (nI fr) (nI to) T n r Q (d + 1)) a6 (31 + v) (nI u) (nI c) j z := by
          refine ⟨fun _ => ?_, fun y => absurd rfl y⟩
          rw [z_r52_1 hS]
          have hEj := z_lE_fo hE ho g1 g2
          refine ⟨z_T24 hS, z_colE hS hEj hv (by omega) hsa hoa (by omega) fun x j1 z1 b1 b2 b3 b4 => ?_⟩
          have hx : x = W c := by
            rw [b4, hW c g0 (by omega), g1.1 sa hs29 hne hs52, z_left_eq (g := j oa) (g' := W) (fun e he => g3 e (by omega) he), z_above_eq (g := j oa) (g' := W) (fun e he => g3 e (by omega) he)]
          have ko : kw_in T 1 oa (nI c) := z_kin hoa (by omega) (by decide)
          rw [nI_clamp (by omega)]
          refine ⟨ko, fun j2 f2 => ⟨ko, z_kin (z_Torow hS (by omega)) (by omega) (by decide), ?_⟩⟩
          have fo2 : z_fo oa i j2 := ⟨fun b c1 c2 c3 => by rw [f2, kw_st_offF c2, b1 b c1]; exact g1.1 b c1 c2 c3, by rw [f2, kw_st_off (by omega), b2]; exact g1.2.1, fun f c1 c2 => by rw [f2, kw_st_off (by omega), b1 52 (by decide)]; exact g1.2.2 f c1 c2⟩
          have wo2 : z_wo 28 w z1 := fun b hb => (b3 b hb).trans (g2 b hb)
          have row2 : ∀ e, j2 oa e = if e = c then W c else j oa e := fun e => by rw [f2, kw_st_row, hx, b1 oa (by omega)]
          have r2o : ∀ e, e < 36 → e < c + 1 → j2 oa e = W e := fun e he h5 => by
            rw [row2]
            by_cases y : e = c
            · rw [if_pos y, y]
            · rw [if_neg y]
              exact g3 e he (by omega)
          have r2n : ∀ e, e < 36 → c + 1 ≤ e → j2 oa e = z_on K L (v + 1) e := fun e he h5 => by
            rw [row2, if_neg (by omega)]
            exact g4 e he (by omega)
          have e7 : j2 (31 + v) c = z_on K L (v + 1) c := by rw [f2, kw_st_off (by omega), b1 _ (by omega)]; exact j7 c (by omega)
          have eo : j2 oa c = W c := by rw [row2, if_pos rfl]
          have e523 : j2 52 3 = nI lo := by rw [f2, kw_st_off (by omega), b1 52 (by decide)]; exact g7
          have e524 : j2 52 4 = nI hi - 1 := by rw [f2, kw_st_off (by omega), b1 52 (by decide)]; exact g8
          rw [eo, e7, e523]
          refine ⟨fun y j3 f3 j4 f4 => ?_, fun y => ?_⟩
          · have fo4 : z_fo oa i j4 := ⟨fun b c1 c2 c3 => by rw [f4, kw_st_offF c3, f3, kw_st_offF c3]; exact fo2.1 b c1 c2 c3, by rw [f4, kw_st_off (by decide), f3, kw_st_off (by decide)]; exact fo2.2.1, fun f c1 c2 => by rw [f4, kw_st_row, if_neg c2, f3, kw_st_row, if_neg c1]; exact fo2.2.2 f c1 c2⟩
            have r4 : j4 oa = j2 oa := by rw [f4, kw_st_offF (by omega), f3, kw_st_offF (by omega)]
            have elo : (if nI c < nI lo then nI c else nI lo) = nI (min c lo) := by
              by_cases q2 : c < lo
              · rw [if_pos (nI_lt q2 (by omega)), Nat.min_eq_left (by omega)]
              · rw [if_neg (nI_nlt (by omega) (by omega)), Nat.min_eq_right (by omega)]
            have eu : (if nI u < nI c + 6 then nI c + 6 else nI u) = nI (max u (c + 6)) := by
              have : nI c + (6 : Int32) = nI (c + 6) := nI_add c 6
              rw [this]
              by_cases q2 : u < c + 6
              · rw [if_pos (nI_lt q2 (by omega)), Nat.max_eq_right (by omega)]
              · rw [if_neg (nI_nlt (by omega) (by omega)), Nat.max_eq_left (by omega)]
            show w_X0_follow_42 52 (nI v) sa oa (nI fr) (nI to) T n r Q (d + 1) a6 (31 + v) (if nI u < nI c + 6 then nI c + 6 else nI u) (nI c + 1) j4 z1
            rw [eu, nI_1]
            refine ih (c + 1) (max u (c + 6)) (min c lo) (c + 1) j4 z1 (by omega) (by omega) (by omega) fo4 wo2 (by rw [r4]; exact r2o) (by rw [r4]; exact r2n) (by omega) (fun e he h5 h6 => ?_) ?_ ?_ (by omega) (by omega) (fun e h5 h6 h7 => ?_) (by omega)
            · rcases Nat.lt_or_ge e c with y2 | y2
              · have := g6 e he y2 h6
                omega
              · omega
            · rw [f4, kw_st_row, if_neg (by decide), f3, kw_st_same, elo]
            · rw [f4, kw_st_same, z_m1]
            · rcases Nat.lt_or_ge e c with y2 | y2
              · have := g11 e y2 h6 h7
                omega
              · omega
          · show w_X0_follow_42 52 (nI v) sa oa (nI fr) (nI to) T n r Q (d + 1) a6 (31 + v) (nI u) (nI c + 1) j2 z1
            rw [nI_1]
            refine ih (c + 1) u lo hi j2 z1 (by omega) (by omega) gu fo2 wo2 r2o r2n g5 (fun e he h5 h6 => ?_) e523 e524 g9 g10 (fun e h5 h6 h7 => ?_) (by omega)
            · rcases Nat.lt_or_ge e c with y2 | y2
              · exact g6 e he y2 h6
              · rw [show e = c by omega] at h6
                exact absurd y h6
            · rcases Nat.lt_or_ge e c with y2 | y2
              · exact g11 e y2 h6 h7
              · rw [show e = c by omega] at h7
                exact absurd y h7
        -- which of both
        have c105 : (i sa c = z_on K L v c ∨ ¬ E.2.1 v c = true) → (c % 6 = 0 ∨ W (c - 1) = z_on K L (v + 1) (c - 1)) → w_X0_follow_105 52 (nI v) sa oa (nI fr) (nI to) T n r Q (w_X0_follow_42 52 (nI v) sa oa (nI fr) (nI to) T n r Q (d + 1)) a6 (31 + v) (nI u) (nI c) j z := by
          intro q1 q2
          refine ⟨fun y => c130 (same q1 q2 (Or.inl ((nI_ltI (b := 6) (by omega) (by decide)).mp y))), fun y => ?_⟩
          have h6 : 6 ≤ c := by
            rcases Nat.lt_or_ge c 6 with y2 | y2
            · exact absurd (nI_lt (b := 6) y2 (by decide)) y
            · exact y2
          rw [show nI c - (6 : Int32) = nI (c - 6) from pk_sub (b := 6) h6, nI_clamp (by omega), g3 (c - 6) (by omega) (by omega), j7 (c - 6) (by omega)]
          exact ⟨z_kin hoa (by omega) (by decide), z_kin (z_Torow hS (by omega)) (by omega) (by decide), fun _ => c134, fun y2 => c130 (same q1 q2 (Or.inr y2))⟩
        have c81 : (i sa c = z_on K L v c ∨ ¬ E.2.1 v c = true) → w_X0_follow_81 52 (nI v) sa oa (nI fr) (nI to) T n r Q (w_X0_follow_42 52 (nI v) sa oa (nI fr) (nI to) T n r Q (d + 1)) a6 (31 + v) (nI u) (nI c) j z := by
          intro q1
          unfold w_X0_follow_81
          rw [em]
          refine ⟨fun y => c105 q1 (Or.inl ((nI_eq (b := 0) (by omega) (by decide)).mp y)), fun y => ?_⟩
          have h0 : c % 6 ≠ 0 := fun q => y (by rw [q]; rfl)
          rw [show nI c - (1 : Int32) = nI (c - 1) from pk_sub (b := 1) (by omega), nI_clamp (by omega), g3 (c - 1) (by omega) (by omega), j7 (c - 1) (by omega)]
          exact ⟨z_kin hoa (by omega) (by decide), z_kin (z_Torow hS (by omega)) (by omega) (by decide), fun _ => c134, fun y2 => c105 q1 (Or.inr y2)⟩
        refine ⟨ks, k6, fun y => c81 (Or.inl y), fun y => ?_⟩
        rw [z_r52_1 hS]
        exact ⟨z_T24 hS, z_sees2 hS (z_lE_fo hE ho g1 g2) hv (by omega) (fun _ => z_t2 c134) (fun y2 => z_f2 (c81 (Or.inr y2)))⟩
  have start := loop (36 - fr) fr to 36 0 i35 w (by omega) (Nat.le_refl _) (by omega) ⟨fun b _ _ b3 => o35 b b3, by rw [o35 29 (by decide)], fun f f1 f2 => by rw [e35, kw_st_row, if_neg f2, e30, kw_st_row, if_neg f1]⟩ (fun _ _ => rfl) (fun e he h5 => by rw [o35 oa (by omega)]; exact h1 e he h5) (fun e he h5 => by rw [o35 oa (by omega)]; exact h2 e he h5) (Nat.le_refl _) h3 (by rw [e35, kw_st_row, if_neg (by decide), e30, kw_st_same]; rfl) (by rw [e35, kw_st_same]; rfl) (Nat.le_refl _) (by omega) (fun e h5 h6 _ => by omega) (by omega)
  rw [show 36 - fr + 1 = 37 - fr by omega] at start
  exact start
end ZFO
