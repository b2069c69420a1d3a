-- LOOKS
def z_lbo (f : Nat → Nat) (M s : Nat) (o : Option Nat) (a b c : Int32) : Prop := match o with
  | none => a = -1
  | some S => a = nI (f S) ∧ b = nI S ∧ c = nI (fb_ct (fun S' => decide (z_pop S' = s ∧ f S' = f S)) M)
def z_ps (s S : Nat) : Bool := decide (z_pop S = s)
theorem z_ps_t {s S : Nat} : z_ps s S = true ↔ z_pop S = s := decide_eq_true_iff
theorem z_ps_f {s S : Nat} : z_ps s S = false ↔ z_pop S ≠ s := decide_eq_false_iff_not
theorem z_lb_iff {f : Nat → Nat} {nv s : Nat} {a b c : Int32} : z_lb f nv s a b c ↔ ∃ o, z_best (z_ps s) f (2 ^ nv) o ∧ z_lbo f (2 ^ nv) s o a b c := by
  constructor
  · rintro (⟨a1, a2⟩ | ⟨S, a1, a2, a3, a4, a5, a6, a7⟩)
    · exact ⟨none, fun k hk => z_ps_f.mpr (a2 k hk), a1⟩
    · exact ⟨some S, ⟨a1, z_ps_t.mpr a2, fun k' h1 h2 => a5 k' h1 (z_ps_t.mp h2), fun k' h1 h2 => a6 k' h1 (z_ps_t.mp h2)⟩, a3, a4, a7⟩
  · rintro ⟨o, h1, h2⟩
    cases o with
    | none => exact Or.inl ⟨h2, fun k hk => z_ps_f.mp (h1 k hk)⟩
    | some S => exact Or.inr ⟨S, h1.1, z_ps_t.mp h1.2.1, h2.1, h2.2.1, fun k' q1 q2 => h1.2.2.1 k' q1 (z_ps_t.mpr q2), fun k' q1 q2 => h1.2.2.2 k' q1 (z_ps_t.mpr q2), h2.2.2⟩
theorem z_2nv {nv : Nat} (h : nv ≤ 10) : 2 ^ nv ≤ 1024 := Nat.pow_le_pow_right (n := 2) (j := 10) (by decide) h
theorem z_lS_le (K : Nat → Int32) (L : List z_Sm) (nv S : Nat) : z_lS K L nv S ≤ 36 := z_lk_le _ _
section ZLB
variable {f : Nat → Nat} {M s : Nat} {o : Option Nat} {a b c : Int32}
theorem z_lbo_skip (h : z_lbo f M s o a b c) (hp : z_pop M ≠ s) : z_lbo f (M + 1) s o a b c := by
  cases o with
  | none => exact h
  | some S =>
    refine ⟨h.1, h.2.1, ?_⟩
    rw [fb_ct_succ, if_neg (by rw [decide_eq_true_iff]; exact fun q => hp q.1)]
    exact h.2.2
theorem z_lbo_less {S : Nat} (h : z_lbo f M s (some S) a b c) (hp : f M ≠ f S) : z_lbo f (M + 1) s (some S) a b c := by
  refine ⟨h.1, h.2.1, ?_⟩
  rw [fb_ct_succ, if_neg (by rw [decide_eq_true_iff]; exact fun q => hp q.2)]
  exact h.2.2
theorem z_lbo_same {S : Nat} (h : z_lbo f M s (some S) a b c) (hp : z_pop M = s) (hq : f M = f S) : z_lbo f (M + 1) s (some S) a b (c + 1) := by
  refine ⟨h.1, h.2.1, ?_⟩
  rw [fb_ct_succ, if_pos (by rw [decide_eq_true_iff]; exact ⟨hp, hq⟩), h.2.2, nI_1]
theorem z_lbo_new (hb : z_best (z_ps s) f (M + 1) (some M)) : z_lbo f (M + 1) s (some M) (nI (f M)) (nI M) 1 := by
  refine ⟨rfl, rfl, ?_⟩
  have e : fb_ct (fun S' => decide (z_pop S' = s ∧ f S' = f M)) M = 0 := by
    rw [fb_ct_zero]
    intro k hk
    rw [decide_eq_false_iff_not]
    rintro ⟨q1, q2⟩
    have := hb.2.2.2 k hk (z_ps_t.mpr q1)
    omega
  rw [fb_ct_succ, e, if_pos (by rw [decide_eq_true_iff]; exact ⟨z_ps_t.mp hb.2.1, rfl⟩)]
  rfl
end ZLB
section ZFL
variable {T : kw_T} {n : Nat} {r : kw_R} {i : kw_I} {w : kw_L} {nv : Nat} {L : List z_Sm}
theorem z_findLooks (h : z_fr T n r i w nv L) {s : Nat} (hs : s < 4) {Q : kw_I → kw_L → Prop} (hQ : ∀ i' w', z_fr T n r i' w' nv L → i' 86 = i 86 → i' 2 = i 2 → (∀ b, 57 ≤ b → b ≤ 60 → b ≠ 57 + s → i' b = i b) → (∀ s', s' ≠ s → i' 61 s' = i 61 s') → i' 61 s ≠ 0 → Q i' w') : w_X0_findLooks 52 (nI s) T n r i w Q := by
  have hS := h.1.1
  have hK := h.2.2.1
  have hn := hK.1
  have hE := h.2.2.2.2.1.2.1
  have h246 := h.2.2.2.2.1.2.2.1
  unfold w_X0_findLooks
  rw [z_r52_6 hS, z_r52_5 hS, nI_clamp (by omega), z_rlrow hS hs]
  have k61 : kw_in T 3 61 (nI s) := z_kin (z_T61 hS) hs (by decide)
  have kS : ∀ k, k < 3 → kw_in T 1 (57 + s) (nI k) := fun k hk => z_kin (z_Tlrow hS hs) hk (by decide)
  refine ⟨k61, fun c8 => ⟨k61, fun i16 e16 => ⟨z_kin (z_T56 hS) hs (by decide), kS 0 (by decide), fun i27 e27 => ⟨2 ^ nv + 1, ?_⟩⟩⟩, fun c8 => hQ i w h rfl rfl (fun _ _ _ _ => rfl) (fun _ _ => rfl) c8⟩
  have p2 := z_2nv hn
  have loop : ∀ (d S : Nat) (m : kw_I) (z : kw_L) (o : Option Nat), S + d = 2 ^ nv → (∀ b, b ≠ 29 → b ≠ 52 → b ≠ 54 → b ≠ 55 → b ≠ 61 → b ≠ 57 + s → m b = i b) → m 29 8 = i 29 8 → (∀ f, f ≠ 3 → f ≠ 4 → m 52 f = i 52 f) → (∀ s', s' ≠ s → m 61 s' = i 61 s') → m 61 s = 1 → z_wo 28 w z → z_best (z_ps s) (z_lS (i 86) L nv) S o → z_lbo (z_lS (i 86) L nv) S s o (m (57 + s) 0) (m (57 + s) 1) (m (57 + s) 2) → w_X0_findLooks_30 52 (nI s) T n r Q (d + 1) (57 + s) (nI S) m z := by
    intro d
    induction d with
    | zero =>
      intro S m z o hd g1 g2 g3 g4 g5 g6 g7 g8
      have : S = 2 ^ nv := by omega
      subst this
      show s_X0_findLooks_30 52 (nI s) T n r Q _ (57 + s) (nI (2 ^ nv)) m z
      unfold s_X0_findLooks_30
      rw [z_r52_1 hS, g1 24 (by decide) (by decide) (by decide) (by decide) (by decide) (by omega), hE.1.1, z_one_shl (by omega)]
      refine ⟨z_T24 hS, fun _ => ?_, fun q => absurd (nI_le (Nat.le_refl _) (by omega)) q⟩
      obtain ⟨f1, f2⟩ := z_fr_gs h (i' := m) (w' := z) (fun b b1 b2 b3 => g1 b b1 b2 (by omega) (by omega) (by omega) (by omega)) g2 g6 (by
        obtain ⟨s1, s2, s3⟩ := h.2.2.2.2.2
        refine ⟨fun s' hs' q => ?_, fun q => ?_, fun q => ?_⟩
        · by_cases e : s' = s
          · subst e
            exact z_lb_iff.mpr ⟨o, g7, g8⟩
          · rw [g1 (57 + s') (by omega) (by omega) (by omega) (by omega) (by omega) (by omega)]
            rw [g4 s' e] at q
            exact s1 s' hs' q
        · rw [g1 62 (by decide) (by decide) (by decide) (by decide) (by decide) (by omega)]
          rw [g3 8 (by decide) (by decide)] at q
          exact s2 q
        · rw [g1 63 (by decide) (by decide) (by decide) (by decide) (by decide) (by omega), g3 10 (by decide) (by decide)]
          rw [g3 11 (by decide) (by decide)] at q
          exact s3 q)
      exact hQ m z f1 f2 (g1 2 (by decide) (by decide) (by decide) (by decide) (by decide) (by omega)) (fun b b1 b2 b3 => g1 b (by omega) (by omega) (by omega) (by omega) (by omega) b3) g4 (by rw [g5]; decide)
    | succ d ih =>
      intro S m z o hd g1 g2 g3 g4 g5 g6 g7 g8
      show s_X0_findLooks_30 52 (nI s) T n r Q _ (57 + s) (nI S) m z
      unfold s_X0_findLooks_30
      have m24 : m 24 = i 24 := g1 24 (by decide) (by decide) (by decide) (by decide) (by decide) (by omega)
      rw [z_r52_1 hS, m24, hE.1.1, z_one_shl (by omega)]
      refine ⟨z_T24 hS, fun q => absurd q (nI_ge (by omega) (by omega)), fun _ => z_bitCount (by omega) ⟨fun q => ?_, fun q => ?_⟩⟩
      · have hpop : z_pop S = s := (nI_eq (by have : z_pop S ≤ 10 := fb_ct_le _ 10; omega) (by omega)).mp q
        intro m2 f2
        have o2 : ∀ b, b ≠ 24 → m2 b = m b := fun b hb => by rw [f2, kw_st_offF hb]
        have m25 : m2 24 5 = i 24 5 := by rw [f2, kw_st_row, if_neg (by decide), m24]
        have hR2 : z_rows T r m2 (i 86) nv L := z_rows_eq (z_fr_rows h) m25 (fun b c1 c2 => by rw [o2 b (by omega), g1 b (by omega) (by omega) (by omega) (by omega) (by omega) (by omega)]) (by rw [o2 11 (by decide), g1 11 (by decide) (by decide) (by decide) (by decide) (by decide) (by omega)])
        have hE2 : z_lE T r m2 z nv (z_env (i 86) L S (z_W0 (i 86)) z_nofx) := z_lE_SW hE h246 m25 (by rw [f2, kw_st_same]) (by omega) (fun v' hv' => ⟨(z_Kr_W hK hv').1, by
            rw [o2 26 (by decide), g1 26 (by decide) (by decide) (by decide) (by decide) (by decide) (by omega)]
            exact (hE.1.2.2.1 v' hv').2.2⟩) (by rw [o2 27 (by decide), g1 27 (by decide) (by decide) (by decide) (by decide) (by decide) (by omega)]) (by rw [o2 29 (by decide)]; exact g2) (fun b hb => by rw [o2 b (by omega), g1 b (by omega) (by omega) (by omega) (by omega) (by omega) (by omega)]) (g6 25 (by decide))
        refine z_likeW hR2 hE2 (C := S) (by omega) (fun v' hv' q => ⟨q, rfl⟩) fun m3 z3 c1 c2 m4 f4 => ?_
        have ev : z_lk (z_go (z_env (i 86) L S (z_W0 (i 86)) z_nofx) 0 (fun c => i 86 (60 + c)) nv) (fun c => i 86 (60 + c)) = z_lS (i 86) L nv S := rfl
        rw [ev]
        have lle := z_lS_le (i 86) L nv S
        have o4 : ∀ b, b ≠ 24 → b ≠ 29 → b ≠ 52 → b ≠ 54 → b ≠ 55 → m4 b = m b := fun b x1 x2 x3 x4 x5 => by rw [f4, kw_st_offF x1, c1.1 b x2 x3 x4 x5, o2 b x1]
        have n24 : m4 24 = i 24 := by
          funext x
          rw [f4, kw_st_row]
          by_cases y : x = 6
          · rw [if_pos y, y, h246]
          · rw [if_neg y, c1.1 24 (by decide) (by decide) (by decide) (by decide), f2, kw_st_row, if_neg y, m24]
        have q1 : ∀ b, b ≠ 29 → b ≠ 52 → b ≠ 54 → b ≠ 55 → b ≠ 61 → b ≠ 57 + s → m4 b = i b := fun b x1 x2 x3 x4 x5 x6 => by
          by_cases y : b = 24
          · rw [y, n24]
          · rw [o4 b y x1 x2 x3 x4]
            exact g1 b x1 x2 x3 x4 x5 x6
        have q2 : m4 29 8 = i 29 8 := by rw [f4, kw_st_off (by decide), c1.2.1, o2 29 (by decide)]; exact g2
        have q3 : ∀ f, f ≠ 3 → f ≠ 4 → m4 52 f = i 52 f := fun f x1 x2 => by rw [f4, kw_st_off (by decide), c1.2.2 f x1 x2, o2 52 (by decide)]; exact g3 f x1 x2
        have q4 : m4 61 = m 61 := o4 61 (by decide) (by decide) (by decide) (by decide) (by decide)
        have q5 : m4 (57 + s) = m (57 + s) := o4 _ (by omega) (by omega) (by omega) (by omega) (by omega)
        have q6 : z_wo 28 w z3 := fun b hb => (c2 b hb).trans (g6 b hb)
        have x0 : m4 (57 + s) ((0 : Int32)).toNatClampNeg = m (57 + s) 0 := by rw [q5]; rfl
        have x2 : m4 (57 + s) ((2 : Int32)).toNatClampNeg = m (57 + s) 2 := by rw [q5]; rfl
        rw [x0, x2]
        refine ⟨kS 0 (by decide), fun y => ⟨kS 0 (by decide), fun y2 => ?_, fun y2 => ⟨kS 2 (by decide), kS 2 (by decide), fun m5 f5 => ?_⟩⟩, fun y => ⟨kS 0 (by decide), fun m5 f5 => ⟨kS 1 (by decide), fun m6 f6 => ⟨kS 2 (by decide), fun m7 f7 => ?_⟩⟩⟩⟩
        · show w_X0_findLooks_30 52 (nI s) T n r Q (d + 1) (57 + s) (nI S + 1) m4 z3
          rw [nI_1]
          cases o with
          | none =>
            rw [show m (57 + s) 0 = -1 from g8] at y
            exact absurd y (z_nle_m1 (by omega))
          | some S1 =>
            have l1 := z_lS_le (i 86) L nv S1
            rw [g8.1] at y y2
            have yy := (nI_leI (by omega) (by omega)).mp y
            refine ih (S + 1) m4 z3 (some S1) (by omega) q1 q2 q3 (by rw [q4]; exact g4) (by rw [q4]; exact g5) q6 (z_best_keep g7 yy) (by rw [q5]; exact z_lbo_less g8 (fun e => y2 (by rw [e])))
        · show w_X0_findLooks_30 52 (nI s) T n r Q (d + 1) (57 + s) (nI S + 1) m5 z3
          rw [nI_1]
          cases o with
          | none =>
            rw [show m (57 + s) 0 = -1 from g8] at y
            exact absurd y (z_nle_m1 (by omega))
          | some S1 =>
            have l1 := z_lS_le (i 86) L nv S1
            rw [g8.1] at y y2
            have yy := (nI_leI (by omega) (by omega)).mp y
            have y3 := (nI_eq (by omega) (by omega)).mp y2
            have f5' : m5 = kw_st m4 (57 + s) 2 (m (57 + s) 2 + 1) := f5
            have o5 : ∀ b, b ≠ 57 + s → m5 b = m4 b := fun b hb => by rw [f5', kw_st_offF hb]
            refine ih (S + 1) m5 z3 (some S1) (by omega) (fun b x1 x2 x3 x4 x5 x6 => by rw [o5 b x6]; exact q1 b x1 x2 x3 x4 x5 x6) (by rw [o5 29 (by omega)]; exact q2) (fun f x1 x2 => by rw [o5 52 (by omega)]; exact q3 f x1 x2) (by rw [o5 61 (by omega), q4]; exact g4) (by rw [o5 61 (by omega), q4]; exact g5) q6 (z_best_keep g7 yy) ?_
            have := z_lbo_same g8 hpop y3
            rw [f5', kw_st_row, if_neg (by decide), kw_st_row, if_neg (by decide), kw_st_same, q5]
            exact this
        · show w_X0_findLooks_30 52 (nI s) T n r Q (d + 1) (57 + s) (nI S + 1) m7 z3
          rw [nI_1]
          have a7 : m7 = kw_st (kw_st (kw_st m4 (57 + s) 0 (nI (z_lS (i 86) L nv S))) (57 + s) 1 (nI S)) (57 + s) 2 1 := by rw [f7, f6, f5]; rfl
          have o7 : ∀ b, b ≠ 57 + s → m7 b = m4 b := fun b hb => by rw [a7, kw_st_offF hb, kw_st_offF hb, kw_st_offF hb]
          have nb : z_best (z_ps s) (z_lS (i 86) L nv) (S + 1) (some S) := z_best_take g7 (z_ps_t.mpr hpop) (fun k hk => by
            subst hk
            have l1 := z_lS_le (i 86) L nv k
            rw [g8.1] at y
            rcases Nat.lt_or_ge (z_lS (i 86) L nv k) (z_lS (i 86) L nv S) with q | q
            · exact q
            · exact absurd (nI_le q (by omega)) y)
          refine ih (S + 1) m7 z3 (some S) (by omega) (fun b x1 x2 x3 x4 x5 x6 => by rw [o7 b x6]; exact q1 b x1 x2 x3 x4 x5 x6) (by rw [o7 29 (by omega)]; exact q2) (fun f x1 x2 => by rw [o7 52 (by omega)]; exact q3 f x1 x2) (by rw [o7 61 (by omega), q4]; exact g4) (by rw [o7 61 (by omega), q4]; exact g5) q6 nb ?_
          have := z_lbo_new nb
          rw [a7, kw_st_row, if_neg (by decide), kw_st_row, if_neg (by decide), kw_st_same, kw_st_row, if_neg (by decide), kw_st_same, kw_st_same]
          exact this
      · have hpop : z_pop S ≠ s := fun e => q (by rw [e])
        show w_X0_findLooks_30 52 (nI s) T n r Q (d + 1) (57 + s) (nI S + 1) m z
        rw [nI_1]
        exact ih (S + 1) m z o (by omega) g1 g2 g3 g4 g5 g6 (z_best_skip g7 (z_ps_f.mpr hpop)) (z_lbo_skip g8 hpop)
  have a27 : i27 = kw_st (kw_st i 61 s 1) (57 + s) 0 (-1) := by rw [e27, e16]; rfl
  refine loop (2 ^ nv) 0 i27 w none (by omega) (fun b x1 x2 x3 x4 x5 x6 => ?_) ?_ (fun f x1 x2 => ?_) (fun s' hs' => ?_) ?_ (fun _ _ => rfl) z_best_0 ?_
  · rw [a27, kw_st_offF x6, kw_st_offF x5]
  · rw [a27, kw_st_off (by omega), kw_st_off (by decide)]
  · rw [a27, kw_st_off (by omega), kw_st_off (by decide)]
  · rw [a27, kw_st_off (by omega), kw_st_row, if_neg hs']
  · rw [a27, kw_st_off (by omega), kw_st_same]
  · show i27 (57 + s) 0 = -1
    rw [a27, kw_st_same]
theorem z_ones {S : Nat} (hS : S < 1024) {Q : Int32 → Prop} (hQ : Q (nI (z_pop S))) : w_X10_ones (nI S) T n r i w Q := by
  have loop : ∀ (d k : Nat), k + d = 10 → w_X10_ones_4 (nI S) T n r i w Q (d + 1) (nI (fb_ct (fun k => S.testBit k) k)) (nI k) := by
    intro d
    induction d with
    | zero =>
      intro k hk
      have : k = 10 := by omega
      subst this
      exact ⟨fun _ => hQ, fun q => absurd (by decide) q⟩
    | succ d ih =>
      intro k hk
      refine ⟨fun q => absurd q (nI_ge (b := 10) (by omega) (by decide)), fun _ => ?_⟩
      rw [z_bitN (by omega) (by omega), nI_add, nI_1]
      have nx := ih (k + 1) (by omega)
      rw [fb_ct_succ] at nx
      have e : (if S.testBit k = true then 1 else 0) = S / 2 ^ k % 2 := by
        rw [Nat.testBit_eq_decide_div_mod_eq]
        have : S / 2 ^ k % 2 < 2 := Nat.mod_lt _ (by decide)
        by_cases q : S / 2 ^ k % 2 = 1
        · rw [if_pos (by rw [decide_eq_true_iff]; exact q), q]
        · rw [if_neg (by rw [decide_eq_true_iff]; exact q)]
          omega
      rw [e] at nx
      exact nx
  exact ⟨11, loop 10 0 (by omega)⟩
end ZFL
/-- S is better than S' -/
def z_bttr (f : Nat → Nat) (S S' : Nat) : Prop := f S' < f S ∨ (f S' = f S ∧ (z_pop S < z_pop S' ∨ (z_pop S = z_pop S' ∧ S ≤ S')))
theorem z_bt_one {f : Nat → Nat} {S S' : Nat} (h : z_bttr f S S') (h' : z_bttr f S' S) : S = S' := by
  unfold z_bttr at h h'
  omega
def z_lct (f : Nat → Nat) (S M : Nat) : Nat := fb_ct (fun S' => decide (z_pop S' = z_pop S ∧ f S' = f S)) M
/-- where the reference stands -/
def z_lro (f : Nat → Nat) (q M : Nat) (x3 x4 x5 : Int32) : Prop := (x3 = -1 ∧ x4 = -1 ∧ x5 = 0 ∧ ∀ S, S < M → q < z_pop S) ∨ ∃ B, B < M ∧ z_pop B ≤ q ∧ x3 = nI B ∧ x4 = nI (f B) ∧ x5 = nI (z_lct f B M) ∧ ∀ S, S < M → z_pop S ≤ q → z_bttr f B S
theorem z_C20 : lw_C20 z_Inv := by
  intro T n r i w x y h hn
  have hS := h.1
  have hbx := z_B_le (x := x) (m := 3) (by decide)
  have hby := z_B_le (x := y) (m := 2) (by decide)
  have no : ¬ (z_B x 4 ∧ z_B y 3) → T 84 = (0, 10) ∧ w_X10_look 84 x y T n r i w (fun v2 i2 => -1 = v2 ∧ lw_N z_Inv n T n r i2 w) := fun hq => ⟨z_T84 hS, z_lies (m := 3) (by decide) (fun a => z_t (z_lies (m := 2) (by decide) (fun b => absurd ⟨a, b⟩ hq) (fun _ => z_f2 ⟨rfl, z_N h⟩))) (fun _ => z_f ⟨rfl, z_N h⟩)⟩
  refine ⟨fun c => no (fun z => (hbx.mp z.1).1 c), fun c1 => ⟨fun c => no (fun z => absurd (hbx.mp z.1).2 (Int32.not_le.mpr c)), fun c2 => ⟨fun c => no (fun z => (hby.mp z.2).1 c), fun c3 => ⟨fun c4 => ?_, fun c => no (fun z => c (hby.mp z.2).2)⟩⟩⟩⟩
  obtain ⟨q, hq, rfl⟩ : z_B x 4 := hbx.mpr ⟨c1, Int32.not_lt.mp c2⟩
  obtain ⟨t, ht, rfl⟩ : z_B y 3 := hby.mpr ⟨c3, c4⟩
  refine z_weaveIf h fun r' i' w' nv L hf o86 o2 => ?_
  have hS' := hf.1.1
  have hn10 := hf.2.2.1.1
  have p2 := z_2nv hn10
  have pp : 0 < 2 ^ nv := Nat.two_pow_pos nv
  have pop0 : z_pop 0 = 0 := by decide
  have popl : ∀ S, z_pop S ≤ 10 := fun S => fb_ct_le _ 10
  -- the reference, from where the class has come to
  have m10 : ∀ (j : kw_I) (u : kw_L) (b : Nat), z_fr T n r' j u nv L → j 86 = i' 86 → (∃ S, S < 2 ^ nv ∧ z_pop S = b ∧ b ≤ q ∧ j (57 + b) 0 = nI (z_lS (i' 86) L nv S) ∧ j (57 + b) 1 = nI S ∧ j (57 + b) 2 = nI (z_lct (z_lS (i' 86) L nv) S (2 ^ nv)) ∧ ∀ S', S' < 2 ^ nv → z_pop S' < q + 1 → z_bttr (z_lS (i' 86) L nv) S S') → w_X10_look 84 (nI q) (nI t) T n r' j u (fun v2 i2 => j (57 + b) t = v2 ∧ lw_N z_Inv n T n r' i2 u) := by
    intro j u b hfj j86 ⟨S, s1, s2, s3, s4, s5, s6, s7⟩
    refine z_lies (m := 3) (by decide) (fun _ => z_t (z_lies (m := 2) (by decide) (fun _ => z_t2 (z_plain fun j2 p1 p2' => ⟨2 ^ nv + 1, ?_⟩)) (fun y => absurd ⟨t, ht, rfl⟩ y))) (fun y => absurd ⟨q, hq, rfl⟩ y)
    have hK := hf.2.2.1
    have loop : ∀ (d M : Nat) (m : kw_I) (x3 x4 x5 : Int32), M + d = 2 ^ nv → z_Inv T n r' m u → m 86 = i' 86 → m 84 28 = -1 → m 84 30 = -1 → m 84 32 = 0 → z_lro (z_lS (i' 86) L nv) q M x3 x4 x5 → w_X10_look_35 84 (nI q) (nI t) T n r' u (fun v2 i2 => j (57 + b) t = v2 ∧ lw_N z_Inv n T n r' i2 u) (d + 1) x3 x4 x5 (nI M) m := by
      intro d
      induction d with
      | zero =>
        intro M m x3 x4 x5 hd g1 g2 g3 g4 g5 g6
        have : M = 2 ^ nv := by omega
        subst this
        show s_X10_look_35 84 (nI q) (nI t) T n r' u _ _ x3 x4 x5 (nI _) m
        unfold s_X10_look_35
        refine z_villages hS' ?_
        rw [g2, hK.2.1, z_one_shl (by omega)]
        refine ⟨fun _ => ?_, fun y => absurd (nI_le (Nat.le_refl _) (by omega)) y⟩
        rcases g6 with ⟨_, _, _, a4⟩ | ⟨B, b1, b2, b3, b4, b5, b6⟩
        · have := a4 0 pp
          omega
        · have eB : B = S := z_bt_one (b6 S s1 (by omega)) (s7 B b1 (by omega))
          subst eB
          rw [b3, b4, b5]
          have fin : ∀ y : Int32, j (57 + b) t = y → (j (57 + b) t = y ∧ lw_N z_Inv n T n r' m u) := fun y hy => ⟨hy, g1, by omega⟩
          refine ⟨fun y1 => ⟨fun y2 => fin _ ?_, fun y2 => fin _ ?_⟩, fun y1 => fin _ ?_⟩
          · have t2 : t = 2 := by
              rcases (show t = 0 ∨ t = 1 ∨ t = 2 by omega) with rfl | rfl | rfl
              · exact absurd rfl y1
              · exact absurd rfl y2
              · rfl
            rw [t2, s6]
          · have t1 : t = 1 := (nI_eq (b := 1) (by omega) (by decide)).mp y2
            rw [t1, s5]
          · have t0 : t = 0 := (nI_eq (b := 0) (by omega) (by decide)).mp y1
            rw [t0, s4]
      | succ d ih =>
        intro M m x3 x4 x5 hd g1 g2 g3 g4 g5 g6
        show s_X10_look_35 84 (nI q) (nI t) T n r' u _ _ x3 x4 x5 (nI _) m
        unfold s_X10_look_35
        refine z_villages hS' ?_
        rw [g2, hK.2.1, z_one_shl (by omega)]
        have pM := popl M
        refine ⟨fun y => absurd y (nI_ge (by omega) (by omega)), fun _ => z_ones (by omega) ⟨fun y => ?_, fun y => ?_⟩⟩
        · have hpop : z_pop M ≤ q := (nI_leI (by omega) (by omega)).mp y
          intro m2 f2
          have o3 : ∀ b, b ≠ 84 → m2 b = m b := fun b hb => by rw [f2, kw_st_offF hb]
          have p3 : ∀ f, f ≠ 27 → m2 84 f = m 84 f := fun f x1 => by rw [f2, kw_st_row, if_neg x1]
          have m86 : m2 86 = i' 86 := by rw [o3 86 (by decide), g2]
          have I2 : z_Inv T n r' m2 u := z_Inv_gz g1 (fun b b1 _ _ _ => o3 b b1) (fun f _ _ _ f4 _ => p3 f (by omega)) rfl
          have mv : z_mv m2 nv M (z_W0 (i' 86)) z_nofx := by
            refine ⟨by omega, by rw [f2, kw_st_same], fun v hv => ⟨(z_Kr_W hK hv).1, ?_⟩, fun v c hv hc => ?_⟩
            · rw [p3 28 (by decide), g3, m86, if_neg (z_m1ne (by omega)), (z_Kr_W hK hv).2, show (0 : Int32) = nI 0 from rfl, fa_or, Nat.or_zero]
            · rw [p3 30 (by decide), g4, if_neg (fun e => z_m1ne (k := 36 * v + c) (by omega) e.symm)]
              rfl
          refine z_tries (L := L) (S := M) (Wf := z_W0 (i' 86)) (fx := z_nofx) hS' (by rw [m86]; exact hK) (by rw [m86]; exact hf.2.2.2.1) mv (by rw [p3 32 (by decide)]; exact g5) (fun v c x _ _ q => by cases q) (fun c hc y => absurd y (z_m1ne (by omega))) fun m3 b1 b2 => z_villages hS' ?_
          have n86 : m3 86 = i' 86 := (b1.1 86 (by decide) (by decide) (by decide)).trans m86
          rw [n86, hK.2.1, z_r84_24 hS', z_r84_2 hS', show (36 : Int32) * nI nv = nI (36 * nv) from pk_mul 36 nv]
          refine z_like10 (fb := 60) (z_T98 hS') (z_T86 hS') (by omega) (by omega) (by decide) (by decide) ?_
          have el : z_lk (fun c => m3 98 (36 * nv + c)) (fun c => m3 86 (60 + c)) = z_lS (i' 86) L nv M := by
            unfold z_lS
            refine z_lk_eq (fun c hc => ?_) (fun c hc => by rw [n86])
            rw [b2 nv (Nat.le_refl _) c hc, m86]
            exact z_go_eq (fun c hc => if_neg (z_m1ne (by omega))) nv c hc
          rw [el]
          have lle := z_lS_le (i' 86) L nv M
          have go : ∀ (y3 y4 y5 : Int32), z_lro (z_lS (i' 86) L nv) q (M + 1) y3 y4 y5 → w_X10_look_160 84 (nI q) (nI t) T n r' u (fun v2 i2 => j (57 + b) t = v2 ∧ lw_N z_Inv n T n r' i2 u) (w_X10_look_35 84 (nI q) (nI t) T n r' u (fun v2 i2 => j (57 + b) t = v2 ∧ lw_N z_Inv n T n r' i2 u) (d + 1)) y3 y4 y5 (nI M) m3 := by
            intro y3 y4 y5 h1
            show w_X10_look_35 84 (nI q) (nI t) T n r' u _ (d + 1) y3 y4 y5 (nI M + 1) m3
            rw [nI_1]
            refine ih (M + 1) m3 y3 y4 y5 (by omega) (z_Inv_gr I2 (by decide) b1) n86 ?_ ?_ ?_ h1
            · rw [b1.2 28 (by decide) (by decide) (by decide), p3 28 (by decide)]; exact g3
            · rw [b1.2 30 (by decide) (by decide) (by decide), p3 30 (by decide)]; exact g4
            · rw [b1.2 32 (by decide) (by decide) (by decide), p3 32 (by decide)]; exact g5
          -- M is the best one now
          have take : (∀ S, S < M → z_pop S ≤ q → z_lS (i' 86) L nv S < z_lS (i' 86) L nv M ∨ (z_lS (i' 86) L nv S = z_lS (i' 86) L nv M ∧ z_pop M < z_pop S)) → w_X10_look_147 84 (nI q) (nI t) T n r' u (fun v2 i2 => j (57 + b) t = v2 ∧ lw_N z_Inv n T n r' i2 u) (w_X10_look_35 84 (nI q) (nI t) T n r' u (fun v2 i2 => j (57 + b) t = v2 ∧ lw_N z_Inv n T n r' i2 u) (d + 1)) (nI M) (nI (z_lS (i' 86) L nv M)) m3 := by
            intro hb
            unfold w_X10_look_147 w_X10_look_157
            refine go _ _ _ (Or.inr ⟨M, by omega, hpop, rfl, rfl, ?_, fun S hS1 hS2 => ?_⟩)
            · have e : fb_ct (fun S' => decide (z_pop S' = z_pop M ∧ z_lS (i' 86) L nv S' = z_lS (i' 86) L nv M)) M = 0 := by
                rw [fb_ct_zero]
                intro k hk
                rw [decide_eq_false_iff_not]
                rintro ⟨q1, q2⟩
                have := hb k hk (by omega)
                omega
              unfold z_lct
              rw [fb_ct_succ, e, if_pos (by rw [decide_eq_true_iff]; exact ⟨rfl, rfl⟩)]
              rfl
            · unfold z_bttr
              rcases Nat.lt_or_ge S M with z | z
              · have := hb S z hS2
                omega
              · have : S = M := by omega
                subst this
                omega
          rcases g6 with ⟨a1, a2, a3, a4⟩ | ⟨B, k1, k2, k3, k4, k5, k6⟩
          · refine ⟨fun _ => ⟨fun _ => take (fun S hS1 hS2 => ?_), fun y => absurd a1 y⟩, fun y => absurd a1 y⟩
            have := a4 S hS1
            omega
          · have lB := z_lS_le (i' 86) L nv B
            have pB := popl B
            have neB : ¬ x3 = -1 := by rw [k3]; exact z_m1ne (by omega)
            -- B stays, M is none of its like
            have stay : (z_lS (i' 86) L nv M < z_lS (i' 86) L nv B ∨ (z_lS (i' 86) L nv M = z_lS (i' 86) L nv B ∧ z_pop B < z_pop M)) → z_lro (z_lS (i' 86) L nv) q (M + 1) x3 x4 x5 := by
              intro hb
              refine Or.inr ⟨B, by omega, k2, k3, k4, ?_, fun S hS1 hS2 => ?_⟩
              · unfold z_lct
                rw [fb_ct_succ, if_neg (by rw [decide_eq_true_iff]; omega)]
                exact k5
              · rcases Nat.lt_or_ge S M with z | z
                · exact k6 S z hS2
                · have : S = M := by omega
                  subst this
                  unfold z_bttr
                  omega
            -- from 123 on
            have c123 : ¬ (z_lS (i' 86) L nv M < z_lS (i' 86) L nv B) → ¬ (z_lS (i' 86) L nv M = z_lS (i' 86) L nv B ∧ z_pop B < z_pop M) → w_X10_look_123 84 (nI q) (nI t) T n r' u (fun v2 i2 => j (57 + b) t = v2 ∧ lw_N z_Inv n T n r' i2 u) (w_X10_look_35 84 (nI q) (nI t) T n r' u (fun v2 i2 => j (57 + b) t = v2 ∧ lw_N z_Inv n T n r' i2 u) (d + 1)) x3 x4 x5 (nI M) (nI (z_lS (i' 86) L nv M)) m3 := by
              intro h1 h2
              refine ⟨fun y => absurd y neB, fun _ => ⟨fun y => ?_, fun y => ?_⟩⟩
              · rw [k4] at y
                have y' := (nI_ltI (by omega) (by omega)).mp y
                refine take (fun S hS1 hS2 => ?_)
                have := k6 S hS1 hS2
                unfold z_bttr at this
                omega
              · rw [k4] at y
                have y' : ¬ z_lS (i' 86) L nv B < z_lS (i' 86) L nv M := fun z => y (nI_lt z (by omega))
                rw [k3]
                refine z_ones (by omega) (z_ones (by omega) ⟨fun z => ?_, fun z => ?_⟩)
                · have z' := (nI_leI (by omega) (by omega)).mp z
                  rw [← k3]
                  unfold w_X10_look_157
                  refine go _ _ _ (Or.inr ⟨B, by omega, k2, k3, k4, ?_, fun S hS1 hS2 => ?_⟩)
                  · unfold z_lct
                    rw [fb_ct_succ, if_pos (by rw [decide_eq_true_iff]; omega), k5, nI_1]
                    rfl
                  · rcases Nat.lt_or_ge S M with zz | zz
                    · exact k6 S zz hS2
                    · have : S = M := by omega
                      subst this
                      unfold z_bttr
                      omega
                · have z' : ¬ z_pop B ≤ z_pop M := fun zz => z (nI_le zz (by omega))
                  refine take (fun S hS1 hS2 => ?_)
                  have := k6 S hS1 hS2
                  unfold z_bttr at this
                  omega
            refine ⟨fun y => absurd y neB, fun _ => ⟨fun y => ?_, fun y => ⟨fun y2 => ?_, fun y2 => ?_⟩⟩⟩
            · rw [k4] at y
              exact go _ _ _ (stay (Or.inl ((nI_ltI (by omega) (by omega)).mp y)))
            · rw [k4] at y y2
              refine c123 (fun z => y (nI_lt z (by omega))) (fun z => y2 (by rw [z.1]))
            · rw [k4] at y y2
              have e1 := (nI_eq (by omega) (by omega)).mp y2
              rw [k3]
              refine z_ones (by omega) (z_ones (by omega) ⟨fun z => ?_, fun z => ?_⟩)
              · have z' := (nI_leI (by omega) (by omega)).mp z
                rw [← k3]
                exact c123 (by omega) (by omega)
              · have z' : ¬ z_pop M ≤ z_pop B := fun zz => z (nI_le zz (by omega))
                rw [← k3]
                exact go _ _ _ (stay (Or.inr ⟨e1, by omega⟩))
        · have hpop : ¬ z_pop M ≤ q := fun z => y (nI_le z (by omega))
          show w_X10_look_35 84 (nI q) (nI t) T n r' u _ (d + 1) x3 x4 x5 (nI M + 1) m
          rw [nI_1]
          refine ih (M + 1) m x3 x4 x5 (by omega) g1 g2 g3 g4 g5 ?_
          rcases g6 with ⟨a1, a2, a3, a4⟩ | ⟨B, k1, k2, k3, k4, k5, k6⟩
          · refine Or.inl ⟨a1, a2, a3, fun S hS1 => ?_⟩
            rcases Nat.lt_or_ge S M with z | z
            · exact a4 S z
            · rw [show S = M by omega]
              omega
          · refine Or.inr ⟨B, by omega, k2, k3, k4, ?_, fun S hS1 hS2 => ?_⟩
            · unfold z_lct
              rw [fb_ct_succ, if_neg (by rw [decide_eq_true_iff]; omega)]
              exact k5
            · rcases Nat.lt_or_ge S M with z | z
              · exact k6 S z hS2
              · rw [show S = M by omega] at hS2
                omega
    exact loop (2 ^ nv) 0 j2 (-1) (-1) 0 (by omega) (z_Inv_gp hfj.1 p1) (by rw [p1.1 86 (by decide)]; exact j86) p2'.2.1 p2'.2.2.2.1 p2'.2.2.2.2.2 (Or.inl ⟨rfl, rfl, rfl, fun S hS1 => absurd hS1 (Nat.not_lt_zero S)⟩)
  -- the class
  have loop : ∀ (d s b : Nat) (j : kw_I) (u : kw_L), s + d = q + 1 → z_fr T n r' j u nv L → j 86 = i' 86 → ((s = 0 ∧ b = 0) ∨ (b < s ∧ ∃ S, S < 2 ^ nv ∧ z_pop S = b ∧ j (57 + b) 0 = nI (z_lS (i' 86) L nv S) ∧ j (57 + b) 1 = nI S ∧ j (57 + b) 2 = nI (z_lct (z_lS (i' 86) L nv) S (2 ^ nv)) ∧ ∀ S', S' < 2 ^ nv → z_pop S' < s → z_bttr (z_lS (i' 86) L nv) S S')) → w_X9_look_29 1 (nI q) (nI t) T n (fun v r1 i1 w1 => T 84 = (0, 10) ∧ w_X10_look 84 (nI q) (nI t) T n r1 i1 w1 (fun v2 i2 => v = v2 ∧ lw_N z_Inv n T n r1 i2 w1)) (d + 1) (nI b) (nI s) r' j u := by
    intro d
    induction d with
    | zero =>
      intro s b j u hd g1 g2 g3
      have : s = q + 1 := by omega
      subst this
      show s_X9_look_29 1 (nI q) (nI t) T n _ _ (nI b) (nI (q + 1)) r' j u
      unfold s_X9_look_29
      rcases g3 with ⟨z, _⟩ | ⟨hb, S, a1, a2, a3, a4, a5, a6⟩
      · omega
      rw [z_r1_5 hS', z_r52_5 hS', nI_clamp (show b < 2 ^ 31 by omega), z_rlrow hS' (by omega), nI_clamp (show t < 2 ^ 31 by omega)]
      refine ⟨fun _ => ⟨z_T52 hS', z_kin (z_T56 hS') (by omega) (by decide), z_kin (z_Tlrow hS' (by omega)) ht (by decide), z_T84 hS', m10 j u b g1 g2 ⟨S, a1, a2, by omega, a3, a4, a5, a6⟩⟩, fun y => absurd (nI_lt (by omega) (by omega)) y⟩
    | succ d ih =>
      intro s b j u hd g1 g2 g3
      have hs : s < 4 := by omega
      have hb4 : b < 4 := by
        rcases g3 with ⟨_, z⟩ | ⟨z, _⟩ <;> omega
      show s_X9_look_29 1 (nI q) (nI t) T n _ _ (nI b) (nI s) r' j u
      unfold s_X9_look_29
      rw [z_r1_5 hS', z_r52_5 hS', nI_clamp (show b < 2 ^ 31 by omega), z_rlrow hS' hb4, nI_clamp (show s < 2 ^ 31 by omega), z_rlrow hS' hs]
      refine ⟨fun y => absurd y (nI_nlt (by omega) (by omega)), fun _ => ⟨z_T52 hS', z_findLooks g1 hs fun j2 u2 h1 h2 h3 h4 h5 h6 => ⟨z_kin (z_T56 hS') hs (by decide), z_kin (k := 0) (z_Tlrow hS' hs) (by decide) (by decide), z_kin (z_T56 hS') hb4 (by decide), z_kin (k := 0) (z_Tlrow hS' hb4) (by decide) (by decide), ?_⟩⟩⟩
      have e86 : j2 86 = i' 86 := h2.trans g2
      have lb := z_lb_iff.mp (h1.2.2.2.2.2.1 s hs h6)
      rw [e86] at lb
      have x0 : ∀ a, j2 a ((0 : Int32)).toNatClampNeg = j2 a 0 := fun a => rfl
      rw [x0, x0]
      obtain ⟨o, l1, l2⟩ := lb
      -- what one of this size is
      have isS : ∀ S, o = some S → S < 2 ^ nv ∧ z_pop S = s ∧ j2 (57 + s) 0 = nI (z_lS (i' 86) L nv S) ∧ j2 (57 + s) 1 = nI S ∧ j2 (57 + s) 2 = nI (z_lct (z_lS (i' 86) L nv) S (2 ^ nv)) ∧ ∀ S', S' < 2 ^ nv → z_pop S' = s → z_bttr (z_lS (i' 86) L nv) S S' := by
        intro S e
        subst e
        have pS := z_ps_t.mp l1.2.1
        refine ⟨l1.1, pS, l2.1, l2.2.1, ?_, fun S' h1 h2 => ?_⟩
        · rw [l2.2.2]
          unfold z_lct
          rw [pS]
        · have a1 := l1.2.2.1 S' h1 (z_ps_t.mpr h2)
          unfold z_bttr
          rcases Nat.lt_or_ge S' S with z | z
          · have := l1.2.2.2 S' z (z_ps_t.mpr h2)
            omega
          · omega
      have next : ∀ b', (b' < s + 1 ∧ ∃ S, S < 2 ^ nv ∧ z_pop S = b' ∧ j2 (57 + b') 0 = nI (z_lS (i' 86) L nv S) ∧ j2 (57 + b') 1 = nI S ∧ j2 (57 + b') 2 = nI (z_lct (z_lS (i' 86) L nv) S (2 ^ nv)) ∧ ∀ S', S' < 2 ^ nv → z_pop S' < s + 1 → z_bttr (z_lS (i' 86) L nv) S S') → w_X9_look_73 1 (nI q) (nI t) T n (fun v r1 i1 w1 => T 84 = (0, 10) ∧ w_X10_look 84 (nI q) (nI t) T n r1 i1 w1 (fun v2 i2 => v = v2 ∧ lw_N z_Inv n T n r1 i2 w1)) (w_X9_look_29 1 (nI q) (nI t) T n (fun v r1 i1 w1 => T 84 = (0, 10) ∧ w_X10_look 84 (nI q) (nI t) T n r1 i1 w1 (fun v2 i2 => v = v2 ∧ lw_N z_Inv n T n r1 i2 w1)) (d + 1)) (nI b') (nI s) r' j2 u2 := by
        intro b' hb'
        show w_X9_look_29 1 (nI q) (nI t) T n _ (d + 1) (nI b') (nI s + 1) r' j2 u2
        rw [nI_1]
        exact ih (s + 1) b' j2 u2 (by omega) h1 e86 (Or.inr hb')
      rcases g3 with ⟨z1, z2⟩ | ⟨hb, S, a1, a2, a3, a4, a5, a6⟩
      · subst z1 z2
        refine ⟨fun _ => next 0 ⟨by omega, ?_⟩, fun y => absurd Int32.le_rfl y⟩
        cases o with
        | none =>
          have := z_ps_f.mp (l1 0 pp)
          exact absurd pop0 this
        | some S =>
          obtain ⟨k1, k2, k3, k4, k5, k6⟩ := isS S rfl
          exact ⟨S, k1, k2, k3, k4, k5, fun S' h1 h2 => k6 S' h1 (by omega)⟩
      · have eb : j2 (57 + b) = j (57 + b) := h4 (57 + b) (by omega) (by omega) (by omega)
        rw [eb, a3]
        have lS := z_lS_le (i' 86) L nv S
        refine ⟨fun y => next b ⟨by omega, S, a1, a2, by rw [eb]; exact a3, by rw [eb]; exact a4, by rw [eb]; exact a5, fun S' h1 h2 => ?_⟩, fun y => next s ⟨by omega, ?_⟩⟩
        · rcases Nat.lt_or_ge (z_pop S') s with z | z
          · exact a6 S' h1 z
          · have zs : z_pop S' = s := by omega
            cases o with
            | none => exact absurd zs (z_ps_f.mp (l1 S' h1))
            | some S2 =>
              obtain ⟨k1, k2, k3, k4, k5, k6⟩ := isS S2 rfl
              rw [k3] at y
              have lS2 := z_lS_le (i' 86) L nv S2
              have y' := (nI_leI (by omega) (by omega)).mp y
              have := l1.2.2.1 S' h1 (z_ps_t.mpr zs)
              unfold z_bttr
              omega
        · cases o with
          | none =>
            rw [show j2 (57 + s) 0 = -1 from l2] at y
            exact absurd (Int32.le_of_lt (z_m1lt (by omega))) y
          | some S2 =>
            obtain ⟨k1, k2, k3, k4, k5, k6⟩ := isS S2 rfl
            rw [k3] at y
            have lS2 := z_lS_le (i' 86) L nv S2
            have y' : ¬ z_lS (i' 86) L nv S2 ≤ z_lS (i' 86) L nv S := fun z => y (nI_le z (by omega))
            refine ⟨S2, k1, k2, k3, k4, k5, fun S' h1 h2 => ?_⟩
            rcases Nat.lt_or_ge (z_pop S') s with z | z
            · have := a6 S' h1 z
              unfold z_bttr at this ⊢
              omega
            · exact k6 S' h1 (by omega)
  exact ⟨q + 2, loop (q + 1) 0 0 i' w' (by omega) hf rfl (Or.inl ⟨rfl, rfl⟩)⟩
