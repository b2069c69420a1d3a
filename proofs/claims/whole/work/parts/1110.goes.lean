-- HOW MANY CELLS ARE ALIKE
def z_lk (f g : Nat → Int32) : Nat := fb_ct (fun c => decide (f c = g c)) 36
theorem z_lk_le (f g : Nat → Int32) : z_lk f g ≤ 36 := fb_ct_le _ 36
theorem z_lk_eq {f f' g g' : Nat → Int32} (h1 : ∀ c, c < 36 → f c = f' c) (h2 : ∀ c, c < 36 → g c = g' c) : z_lk f g = z_lk f' g' := by
  unfold z_lk
  exact fb_ct_cong (fun c hc => by rw [h1 c hc, h2 c hc])
theorem z_lk_36 {f g : Nat → Int32} : z_lk f g = 36 ↔ ∀ c, c < 36 → f c = g c := by
  unfold z_lk
  have gen : ∀ m, fb_ct (fun c => decide (f c = g c)) m = m ↔ ∀ c, c < m → f c = g c := by
    intro m
    induction m with
    | zero => exact ⟨fun _ c hc => absurd hc (Nat.not_lt_zero c), fun _ => rfl⟩
    | succ m ih =>
      have hle := fb_ct_le (fun c => decide (f c = g c)) m
      rw [fb_ct_succ]
      by_cases h : f m = g m
      · rw [if_pos (by exact decide_eq_true h)]
        constructor
        · intro e c hc
          rcases Nat.lt_or_ge c m with q | q
          · exact ih.mp (by omega) c q
          · rw [show c = m by omega]
            exact h
        · intro e
          rw [ih.mpr (fun c hc => e c (by omega))]
      · rw [if_neg (by simp [h])]
        constructor
        · intro e
          omega
        · intro e
          exact absurd (e m (by omega)) h
  exact gen 36
section ZLK
variable {T : kw_T} {n : Nat} {r : kw_R} {i : kw_I} {w : kw_L}
theorem z_like9 {a b : Nat} (ha : T a = (1, 36)) (hb : T b = (1, 36)) {Q : Int32 → Prop} (hQ : Q (nI (z_lk (i a) (i b)))) : w_X9_likeness a b T n r i w Q := by
  have loop : ∀ (k c : Nat), c + k = 36 → w_X9_likeness_4 a b T n r i w Q (k + 1) (nI (fb_ct (fun c => decide (i a c = i b c)) c)) (nI c) := by
    intro k
    induction k with
    | zero =>
      intro c hc
      have : c = 36 := by omega
      subst this
      exact ⟨fun _ => hQ, fun h => absurd (by decide) h⟩
    | succ k ih =>
      intro c hc
      have nx := ih (c + 1) (by omega)
      rw [fb_ct_succ] at nx
      refine ⟨fun h => absurd h (nI_ge (a := c) (b := 36) (by omega) (by decide)), fun _ => ⟨z_kin ha (by omega) (by decide), z_kin hb (by omega) (by decide), ?_⟩⟩
      rw [nI_clamp (by omega)]
      refine ⟨fun h => ?_, fun h => ?_⟩
      · show w_X9_likeness_4 a b T n r i w Q (k + 1) _ (nI c + 1)
        rw [nI_1]
        rw [if_neg (by simp [h])] at nx
        exact nx
      · show w_X9_likeness_4 a b T n r i w Q (k + 1) _ (nI c + 1)
        rw [nI_1, nI_1]
        rw [if_pos (by simp [h])] at nx
        exact nx
  exact ⟨37, loop 36 0 (by omega)⟩
theorem z_like10 {a b fa fb m1 m2 : Nat} (ha : T a = (1, m1)) (hb : T b = (1, m2)) (h1 : fa + 36 ≤ m1) (h2 : fb + 36 ≤ m2) (hm1 : m1 < 2 ^ 31) (hm2 : m2 < 2 ^ 31) {Q : Int32 → Prop} (hQ : Q (nI (z_lk (fun c => i a (fa + c)) (fun c => i b (fb + c))))) : w_X10_likeness a (nI fa) b (nI fb) T n r i w Q := by
  have loop : ∀ (k c : Nat), c + k = 36 → w_X10_likeness_6 a (nI fa) b (nI fb) T n r i w Q (k + 1) (nI (fb_ct (fun c => decide (i a (fa + c) = i b (fb + c))) c)) (nI c) := by
    intro k
    induction k with
    | zero =>
      intro c hc
      have : c = 36 := by omega
      subst this
      exact ⟨fun _ => hQ, fun h => absurd (by decide) h⟩
    | succ k ih =>
      intro c hc
      have nx := ih (c + 1) (by omega)
      rw [fb_ct_succ] at nx
      refine ⟨fun h => absurd h (nI_ge (a := c) (b := 36) (by omega) (by decide)), fun _ => ?_⟩
      rw [nI_add, nI_add]
      refine ⟨z_kin ha (by omega) hm1, z_kin hb (by omega) hm2, ?_⟩
      rw [nI_clamp (by omega), nI_clamp (by omega)]
      refine ⟨fun h => ?_, fun h => ?_⟩
      · show w_X10_likeness_6 a (nI fa) b (nI fb) T n r i w Q (k + 1) (nI _ + nI 0) (nI c + 1)
        rw [nI_1, nI_add]
        rw [if_neg (by simp [h])] at nx
        exact nx
      · show w_X10_likeness_6 a (nI fa) b (nI fb) T n r i w Q (k + 1) (nI _ + nI 1) (nI c + 1)
        rw [nI_1, nI_add]
        rw [if_pos (by simp [h])] at nx
        exact nx
  exact ⟨37, loop 36 0 (by omega)⟩
theorem z_same9 {a b : Nat} (ha : T a = (1, 36)) (hb : T b = (1, 36)) {Q : Int32 → Prop} (ht : (∀ c, c < 36 → i a c = i b c) → Q 1) (hf : ¬ (∀ c, c < 36 → i a c = i b c) → Q 0) : w_X9_same a b T n r i w Q := by
  have loop : ∀ (k c : Nat), c + k = 36 → (∀ d, d < c → i a d = i b d) → w_X9_same_2 a b T n r i w Q (k + 1) (nI c) := by
    intro k
    induction k with
    | zero =>
      intro c hc h
      have : c = 36 := by omega
      subst this
      exact ⟨fun _ => ht h, fun h => absurd (by decide) h⟩
    | succ k ih =>
      intro c hc hd
      refine ⟨fun h => absurd h (nI_ge (a := c) (b := 36) (by omega) (by decide)), fun _ => ⟨z_kin ha (by omega) (by decide), z_kin hb (by omega) (by decide), ?_⟩⟩
      rw [nI_clamp (by omega)]
      refine ⟨fun h => ?_, fun h => hf (fun q => h (q c (by omega)))⟩
      rw [nI_1]
      refine ih (c + 1) (by omega) (fun d h2 => ?_)
      rcases Nat.lt_or_ge d c with q | q
      · exact hd d q
      · rw [show d = c by omega]
        exact h
  exact ⟨37, loop 36 0 (by omega) (fun d hd => absurd hd (Nat.not_lt_zero d))⟩
end ZLK
-- THE REFERENCE GOES ALONG THE ROAD
def z_gr (a : Nat) (i i' : kw_I) : Prop := (∀ b, b ≠ 84 → b ≠ 95 → b ≠ a → i' b = i b) ∧ ∀ f, f ≠ 18 → f ≠ 19 → f ≠ 20 → i' 84 f = i 84 f
theorem z_mv_gr {a nv S : Nat} {Wf : Nat → Nat} {fx : Nat → Nat → Option Int32} {i i' : kw_I} (h : z_mv i nv S Wf fx) (hg : z_gr a i i') (ha : a ≠ 86) : z_mv i' nv S Wf fx := by
  obtain ⟨h1, h2, h3, h4⟩ := h
  unfold z_mv
  rw [hg.2 27 (by decide) (by decide) (by decide), hg.2 28 (by decide) (by decide) (by decide), hg.2 29 (by decide) (by decide) (by decide), hg.2 30 (by decide) (by decide) (by decide), hg.2 31 (by decide) (by decide) (by decide), hg.1 86 (by decide) (by decide) (fun e => ha e.symm)]
  exact ⟨h1, h2, h3, h4⟩
section ZGO
variable {T : kw_T} {n : Nat} {r : kw_R} {i : kw_I} {w : kw_L} {nv : Nat} {L : List z_Sm} {S : Nat} {Wf : Nat → Nat} {fx : Nat → Nat → Option Int32}
theorem z_goes (hS : z_S T r) (hK : z_Kr (i 86) nv) (hL : i 86 180 ≠ -1 → ∃ j, j < 6 ∧ i 86 180 = nI j ∧ z_toks (i 86) j L) (hm : z_mv i nv S Wf fx) (hdr : i 84 32 = 0) (hfB : ∀ v c x, v < nv → c < 36 → fx v c = some x → z_B x 8) {a k : Nat} (hk : k ≤ nv) (hT : T a = (1, 396)) (ha : 95 < a) {f : Nat → Int32} (hf : ∀ c, c < 36 → i a (36 * k + c) = f c) (hB : ∀ c, c < 36 → z_B (f c) 8) {Q : kw_I → Prop}
    (hQ : ∀ i', z_gr a i i' → (∀ q, q < 36 * (k + 1) ∨ 36 * (nv + 1) ≤ q → i' a q = i a q) → (∀ m, k + m ≤ nv → ∀ c, c < 36 → i' a (36 * (k + m) + c) = z_go (z_env (i 86) L S Wf fx) k f m c) → Q i') : w_X10_goes 84 a (nI k) T n r i w Q := by
  have hn := hK.1
  have hW : ∀ v, v < nv → z_hasB ((z_env (i 86) L S Wf fx).1 v) := fun v hv => (hm.2.2.1 v hv).1
  have loop : ∀ (d m : Nat) (j : kw_I), k + m + d = nv → z_gr a i j → (∀ q, q < 36 * (k + 1) ∨ 36 * (nv + 1) ≤ q → j a q = i a q) → (∀ m', m' ≤ m → ∀ c, c < 36 → j a (36 * (k + m') + c) = z_go (z_env (i 86) L S Wf fx) k f m' c) → w_X10_goes_2 84 a (nI k) T n r w Q (d + 1) (nI (k + m)) j := by
    intro d
    induction d with
    | zero =>
      intro m j hd h1 h2 h3
      unfold w_X10_goes_2 s_X10_goes_2
      refine z_villages hS ?_
      rw [h1.1 86 (by decide) (by decide) (by omega), hK.2.1]
      refine ⟨fun _ => hQ j h1 h2 (fun m' hm' => h3 m' (by omega)), fun h => absurd (nI_le (by omega) (by omega)) h⟩
    | succ d ih =>
      intro m j hd h1 h2 h3
      have e86 : j 86 = i 86 := h1.1 86 (by decide) (by decide) (by omega)
      unfold w_X10_goes_2 s_X10_goes_2
      refine z_villages hS ?_
      rw [e86, hK.2.1]
      refine ⟨fun h => absurd h (nI_ge (by omega) (by omega)), fun _ => ?_⟩
      have e1 : (36 : Int32) * nI (k + m) = nI (36 * (k + m)) := pk_mul 36 _
      have e2 : (36 : Int32) * (nI (k + m) + 1) = nI (36 * (k + m + 1)) := by rw [nI_1]; exact pk_mul 36 _
      rw [e1, e2]
      refine z_weaves (L := L) hS (by rw [e86]; exact hK) (by omega) (by rw [e86]; exact hL) (z_mv_gr hm h1 (by omega)) (by rw [h1.2 32 (by decide) (by decide) (by decide)]; exact hdr) hT ha (by omega) (by omega) (by omega) (fun c hc => by rw [h3 m (Nat.le_refl _) c hc]; exact z_go_B hB hW hfB m (by omega) c hc) ?_
      intro j2 g1 g2
      rw [e86] at g2
      rw [nI_1]
      refine ih (m + 1) j2 (by omega) ⟨fun b b1 b2 b3 => (g1.1 b b1 b2 b3).trans (h1.1 b b1 b2 b3), fun q q1 q2 q3 => (g1.2.1 q q1 q2 q3).trans (h1.2 q q1 q2 q3)⟩ (fun q hq => ?_) (fun m' hm' c hc => ?_)
      · rw [g1.2.2 q (by omega)]
        exact h2 q hq
      · rcases Nat.lt_or_ge m' (m + 1) with q | q
        · rw [g1.2.2 _ (by omega)]
          exact h3 m' (by omega) c hc
        · have : m' = m + 1 := by omega
          subst this
          rw [show 36 * (k + (m + 1)) + c = 36 * (k + m + 1) + c by omega, g2 c hc]
          exact z_wv_eq (fun c hc => h3 m (Nat.le_refl _) c hc) c hc
  refine ⟨nv - k + 1, ?_⟩
  have := loop (nv - k) 0 i (by omega) ⟨fun _ _ _ _ => rfl, fun _ _ _ _ => rfl⟩ (fun _ _ => rfl) (fun m' hm' c hc => by
    have : m' = 0 := by omega
    subst this
    exact hf c hc)
  exact this
/-- nothing said of who sees more, has more, slips or draws -/
def z_pl (i : kw_I) : Prop := i 84 27 = 0 ∧ i 84 28 = -1 ∧ i 84 29 = 0 ∧ i 84 30 = -1 ∧ i 84 31 = 0 ∧ i 84 32 = 0
def z_gp (i i' : kw_I) : Prop := z_io 84 i i' ∧ ∀ f, f < 27 ∨ 32 < f → i' 84 f = i 84 f
theorem z_plain {Q : kw_I → Prop} (hQ : ∀ i', z_gp i i' → z_pl i' → Q i') : w_X10_plain 84 T n r i w Q := by
  intro i1 e1 i2 e2 i3 e3 i4 e4 i5 e5 i6 e6
  refine hQ i6 ⟨?_, fun f hf => ?_⟩ ?_
  · rw [e6, e5, e4, e3, e2, e1]
    exact z_io_st (z_io_st (z_io_st (z_io_st (z_io_st (z_io_st (fun _ _ => rfl))))))
  · rw [e6, e5, e4, e3, e2, e1, kw_st_row, kw_st_row, kw_st_row, kw_st_row, kw_st_row, kw_st_row, if_neg (by omega), if_neg (by omega), if_neg (by omega), if_neg (by omega), if_neg (by omega), if_neg (by omega)]
  · unfold z_pl
    rw [e6, e5, e4, e3, e2, e1]
    simp only [kw_st_row]
    exact ⟨rfl, rfl, rfl, rfl, rfl, rfl⟩
def z_nofx : Nat → Nat → Option Int32 := fun _ _ => none
theorem z_m1ne {k : Nat} (hk : k < 2 ^ 31) : ¬ nI k = -1 := by
  intro e
  have e3 : (nI k).toInt = (-1 : Int32).toInt := by rw [e]
  rw [nI_toInt hk] at e3
  have : (-1 : Int32).toInt = -1 := by decide
  omega
theorem z_mv_plain (hK : z_Kr (i 86) nv) (hp : z_pl i) : z_mv i nv 0 (z_W0 (i 86)) z_nofx := by
  obtain ⟨p1, p2, p3, p4, p5, p6⟩ := hp
  have hn := hK.1
  refine ⟨by decide, p1, fun v hv => ?_, fun v c hv hc => ?_⟩
  · have h := z_Kr_W hK hv
    refine ⟨h.1, ?_⟩
    rw [p2, if_neg (z_m1ne (by omega)), h.2, show (0 : Int32) = nI 0 from rfl, fa_or, Nat.or_zero]
  · rw [p4, if_neg (fun e => z_m1ne (k := 36 * v + c) (by omega) e.symm)]
    rfl
/-- weaving on a row behind plain -/
def z_gq (a : Nat) (i i' : kw_I) : Prop := (∀ b, b ≠ 84 → b ≠ 95 → b ≠ a → i' b = i b) ∧ ∀ f, f ≠ 18 → f ≠ 19 → f ≠ 20 → (f < 27 ∨ 32 < f) → i' 84 f = i 84 f
theorem z_looks (hS : z_S T r) (hK : z_Kr (i 86) nv) (hL : i 86 180 ≠ -1 → ∃ j, j < 6 ∧ i 86 180 = nI j ∧ z_toks (i 86) j L) {Q : kw_I → Prop}
    (hQ : ∀ i', z_gq 96 i i' → z_pl i' → (∀ m, m ≤ nv → ∀ c, c < 36 → i' 96 (36 * m + c) = z_go (z_env (i 86) L 0 (z_W0 (i 86)) z_nofx) 0 (fun c => i 86 (60 + c)) m c) → Q i') : w_X10_looks 84 T n r i w Q := by
  refine z_plain fun i1 g1 p1 => ?_
  have e86 : i1 86 = i 86 := g1.1 86 (by decide)
  have loop : ∀ (d c : Nat) (j : kw_I), c + d = 36 → z_io 96 i1 j → (∀ c', c' < c → j 96 c' = i 86 (60 + c')) → w_X10_looks_6 84 T n r w Q (d + 1) (nI c) j := by
    intro d
    induction d with
    | zero =>
      intro c j hc h1 h2
      have : c = 36 := by omega
      subst this
      refine ⟨fun _ => ?_, fun h => absurd (by decide) h⟩
      have f86 : j 86 = i 86 := (h1 86 (by decide)).trans e86
      have f84 : j 84 = i1 84 := h1 84 (by decide)
      rw [z_r84_22 hS]
      have pj : z_pl j := by
        unfold z_pl at p1 ⊢
        rw [f84]
        exact p1
      refine z_goes (L := L) (S := 0) (Wf := z_W0 (i 86)) (fx := z_nofx) (k := 0) (f := fun c => i 86 (60 + c)) hS (by rw [f86]; exact hK) (by rw [f86]; exact hL) (by have := z_mv_plain (by rw [f86]; exact hK) pj; rw [f86] at this; exact this) pj.2.2.2.2.2 (fun v c x _ _ h => by cases h) (Nat.zero_le _) (z_T96 hS) (by decide) (fun c hc => by rw [show 36 * 0 + c = c by omega]; exact h2 c hc) (fun c hc => hK.2.2.2.1 0 c (by decide) hc) ?_
      intro j2 q1 _ q3
      rw [f86] at q3
      refine hQ j2 ⟨fun b b1 b2 b3 => ?_, fun f f1 f2 f3 f4 => ?_⟩ ?_ (fun m hm c hc => ?_)
      · rw [q1.1 b b1 b2 b3, h1 b b3, g1.1 b b1]
      · rw [q1.2 f f1 f2 f3, f84, g1.2 f f4]
      · unfold z_pl at pj ⊢
        rw [q1.2 27 (by decide) (by decide) (by decide), q1.2 28 (by decide) (by decide) (by decide), q1.2 29 (by decide) (by decide) (by decide), q1.2 30 (by decide) (by decide) (by decide), q1.2 31 (by decide) (by decide) (by decide), q1.2 32 (by decide) (by decide) (by decide)]
        exact pj
      · have := q3 m (by omega) c hc
        rw [Nat.zero_add] at this
        exact this
    | succ d ih =>
      intro c j hc h1 h2
      refine ⟨fun h => absurd h (nI_ge (a := c) (b := 36) (by omega) (by decide)), fun _ => ?_⟩
      have e60 : (60 : Int32) + nI c = nI (60 + c) := nI_add 60 c
      rw [z_r84_2 hS, z_r84_22 hS, e60, nI_clamp (by omega), nI_clamp (by omega), nI_1]
      refine ⟨z_kin (z_T86 hS) (by omega) (by decide), z_kin (z_T96 hS) (by omega) (by decide), fun j2 e2 => ?_⟩
      refine ih (c + 1) j2 (by omega) (by rw [e2]; exact z_io_st h1) (fun c' hc' => ?_)
      rw [e2, kw_st_row, h1 86 (by decide), e86]
      rcases Nat.lt_or_ge c' c with q | q
      · rw [if_neg (by omega)]
        exact h2 c' q
      · rw [if_pos (by omega), show c' = c by omega]
  exact ⟨37, loop 36 0 i1 (by omega) (fun _ _ => rfl) (fun c' hc' => absurd hc' (Nat.not_lt_zero c'))⟩
/-- backwards: behind m villages, of nv -/
noncomputable def z_bk (E : z_E) (g : Nat → Int32) (nv : Nat) : Nat → Nat → Int32
  | 0 => g
  | m + 1 => z_wv E (nv - 1 - m) (z_bk E g nv m)
theorem z_bk_B {E : z_E} {g : Nat → Int32} (hg : ∀ c, c < 36 → z_B (g c) 8) (hW : ∀ v, v < nv → z_hasB (E.1 v)) (hf : ∀ v c x, v < nv → c < 36 → E.2.2.2.2.2 v c = some x → z_B x 8) : ∀ m, m ≤ nv → ∀ c, c < 36 → z_B (z_bk E g nv m c) 8
  | 0, _ => hg
  | m + 1, h => z_wv_B (hW (nv - 1 - m) (by omega)) (fun c x hc => hf (nv - 1 - m) c x (by omega) hc)
theorem z_looksBack (hS : z_S T r) (hK : z_Kr (i 86) nv) (hL : i 86 180 ≠ -1 → ∃ j, j < 6 ∧ i 86 180 = nI j ∧ z_toks (i 86) j L) {Q : kw_I → Prop}
    (hQ : ∀ i', z_gq 97 i i' → z_pl i' → (∀ m, m ≤ nv → ∀ c, c < 36 → i' 97 (36 * (nv - m) + c) = z_bk (z_env (i 86) L 0 (z_W0 (i 86)) z_nofx) (fun c => i 86 (96 + c)) nv m c) → Q i') : w_X10_looksBack 84 T n r i w Q := by
  have hn := hK.1
  have hW : ∀ v, v < nv → z_hasB ((z_env (i 86) L 0 (z_W0 (i 86)) z_nofx).1 v) := fun v hv => (z_Kr_W hK hv).1
  refine z_plain fun i1 g1 p1 => ?_
  have e86 : i1 86 = i 86 := g1.1 86 (by decide)
  refine z_villages hS ?_
  rw [e86, hK.2.1]
  -- the villages, from the last on
  have back : ∀ (d m : Nat) (j : kw_I), m + d = nv → z_gr 97 i1 j → (∀ m', m' ≤ m → ∀ c, c < 36 → j 97 (36 * (nv - m') + c) = z_bk (z_env (i 86) L 0 (z_W0 (i 86)) z_nofx) (fun c => i 86 (96 + c)) nv m' c) → w_X10_looksBack_47 84 T n r w Q (d + 1) (nI d - 1) j := by
    intro d
    induction d with
    | zero =>
      intro m j hd h1 h2
      refine ⟨fun _ => hQ j ⟨fun b b1 b2 b3 => (h1.1 b b1 b2 b3).trans (g1.1 b b1), fun f f1 f2 f3 f4 => (h1.2 f f1 f2 f3).trans (g1.2 f f4)⟩ ?_ (fun m' hm' => h2 m' (by omega)), fun h => absurd (by decide) h⟩
      unfold z_pl at p1 ⊢
      rw [h1.2 27 (by decide) (by decide) (by decide), h1.2 28 (by decide) (by decide) (by decide), h1.2 29 (by decide) (by decide) (by decide), h1.2 30 (by decide) (by decide) (by decide), h1.2 31 (by decide) (by decide) (by decide), h1.2 32 (by decide) (by decide) (by decide)]
      exact p1
    | succ d ih =>
      intro m j hd h1 h2
      rw [z_m1]
      refine ⟨fun h => absurd h (nI_pos (by omega)), fun _ => ?_⟩
      have f86 : j 86 = i 86 := (h1.1 86 (by decide) (by decide) (by decide)).trans e86
      have e1 : (36 : Int32) * (nI d + 1) = nI (36 * (d + 1)) := by rw [nI_1]; exact pk_mul 36 _
      have e2 : (36 : Int32) * nI d = nI (36 * d) := pk_mul 36 _
      rw [e1, e2, z_r84_23 hS]
      have pj : z_pl j := by
        unfold z_pl at p1 ⊢
        rw [h1.2 27 (by decide) (by decide) (by decide), h1.2 28 (by decide) (by decide) (by decide), h1.2 29 (by decide) (by decide) (by decide), h1.2 30 (by decide) (by decide) (by decide), h1.2 31 (by decide) (by decide) (by decide), h1.2 32 (by decide) (by decide) (by decide)]
        exact p1
      have hsrc : ∀ c, c < 36 → j 97 (36 * (d + 1) + c) = z_bk (z_env (i 86) L 0 (z_W0 (i 86)) z_nofx) (fun c => i 86 (96 + c)) nv m c := by
        intro c hc
        have := h2 m (Nat.le_refl _) c hc
        rw [show nv - m = d + 1 by omega] at this
        exact this
      refine z_weaves (L := L) (S := 0) (Wf := z_W0 (i 86)) (fx := z_nofx) hS (by rw [f86]; exact hK) (by omega) (by rw [f86]; exact hL) (by have := z_mv_plain (by rw [f86]; exact hK) pj; rw [f86] at this; exact this) pj.2.2.2.2.2 (z_T97 hS) (by decide) (by omega) (by omega) (by omega) (fun c hc => by rw [hsrc c hc]; exact z_bk_B (fun c hc => hK.2.2.2.1 1 c (by decide) hc) hW (fun v c x _ _ h => by cases h) m (by omega) c hc) ?_
      intro j2 q1 q2
      rw [f86] at q2
      have nx := ih (m + 1) j2 (by omega) ⟨fun b b1 b2 b3 => (q1.1 b b1 b2 b3).trans (h1.1 b b1 b2 b3), fun q x1 x2 x3 => (q1.2.1 q x1 x2 x3).trans (h1.2 q x1 x2 x3)⟩ (fun m' hm' c hc => ?_)
      · rw [Int32.sub_eq_add_neg] at nx
        exact nx
      · rcases Nat.lt_or_ge m' (m + 1) with q | q
        · rw [q1.2.2 _ (by omega)]
          exact h2 m' (by omega) c hc
        · have : m' = m + 1 := by omega
          subst this
          rw [show nv - (m + 1) = d by omega, q2 c hc]
          show _ = z_wv _ (nv - 1 - m) _ c
          rw [show nv - 1 - m = d by omega]
          exact z_wv_eq (fun c hc => hsrc c hc) c hc
  have loop : ∀ (d c : Nat) (j : kw_I), c + d = 36 → z_io 97 i1 j → (∀ c', c' < c → j 97 (36 * nv + c') = i 86 (96 + c')) → w_X10_looksBack_11 84 T n r w Q (d + 1) (nI nv) (nI c) j := by
    intro d
    induction d with
    | zero =>
      intro c j hc h1 h2
      have : c = 36 := by omega
      subst this
      refine ⟨fun _ => ⟨nv + 1, ?_⟩, fun h => absurd (by decide) h⟩
      refine back nv 0 j (by omega) ⟨fun b _ _ b3 => h1 b b3, fun f _ _ _ => by rw [h1 84 (by decide)]⟩ (fun m' hm' c hc => ?_)
      have : m' = 0 := by omega
      subst this
      exact h2 c hc
    | succ d ih =>
      intro c j hc h1 h2
      refine ⟨fun h => absurd h (nI_ge (a := c) (b := 36) (by omega) (by decide)), fun _ => ?_⟩
      have e96 : (96 : Int32) + nI c = nI (96 + c) := nI_add 96 c
      have e36 : (36 : Int32) * nI nv + nI c = nI (36 * nv + c) := by rw [show (36 : Int32) = nI 36 from rfl, pk_mul, nI_add]
      rw [z_r84_2 hS, z_r84_23 hS, e96, e36, nI_clamp (by omega), nI_clamp (by omega), nI_1]
      refine ⟨z_kin (z_T86 hS) (by omega) (by decide), z_kin (z_T97 hS) (by omega) (by decide), fun j2 e2 => ?_⟩
      refine ih (c + 1) j2 (by omega) (by rw [e2]; exact z_io_st h1) (fun c' hc' => ?_)
      rw [e2, kw_st_row, h1 86 (by decide), e86]
      rcases Nat.lt_or_ge c' c with q | q
      · rw [if_neg (by omega)]
        exact h2 c' q
      · rw [if_pos (by omega), show c' = c by omega]
  exact ⟨37, loop 36 0 i1 (by omega) (fun _ _ => rfl) (fun c' hc' => absurd hc' (Nat.not_lt_zero c'))⟩
/-- the end of the road with another colour x at first in a cell; cell -1 : in none -/
theorem z_tries (hS : z_S T r) (hK : z_Kr (i 86) nv) (hL : i 86 180 ≠ -1 → ∃ j, j < 6 ∧ i 86 180 = nI j ∧ z_toks (i 86) j L) (hm : z_mv i nv S Wf fx) (hdr : i 84 32 = 0) (hfB : ∀ v c x, v < nv → c < 36 → fx v c = some x → z_B x 8) {y x : Int32} (hx : ∀ c, c < 36 → nI c = y → z_B x 8) {Q : kw_I → Prop}
    (hQ : ∀ i', z_gr 98 i i' → (∀ m, m ≤ nv → ∀ c, c < 36 → i' 98 (36 * m + c) = z_go (z_env (i 86) L S Wf fx) 0 (fun c => if nI c = y then x else i 86 (60 + c)) m c) → Q i') : w_X10_tries 84 y x T n r i w Q := by
  have loop : ∀ (d c : Nat) (j : kw_I), c + d = 36 → z_io 98 i j → (∀ c', c' < c → j 98 c' = if nI c' = y then x else i 86 (60 + c')) → w_X10_tries_2 84 y x T n r w Q (d + 1) (nI c) j := by
    intro d
    induction d with
    | zero =>
      intro c j hc h1 h2
      have : c = 36 := by omega
      subst this
      refine ⟨fun _ => ?_, fun h => absurd (by decide) h⟩
      have f86 : j 86 = i 86 := h1 86 (by decide)
      have f84 : j 84 = i 84 := h1 84 (by decide)
      rw [z_r84_24 hS]
      have hg : z_gr 98 i j := ⟨fun b _ _ b3 => h1 b b3, fun f _ _ _ => by rw [f84]⟩
      refine z_goes (L := L) (k := 0) (f := fun c => if nI c = y then x else i 86 (60 + c)) hS (by rw [f86]; exact hK) (by rw [f86]; exact hL) (z_mv_gr hm hg (by decide)) (by rw [f84]; exact hdr) hfB (Nat.zero_le _) (z_T98 hS) (by decide) (fun c hc => by rw [show 36 * 0 + c = c by omega]; exact h2 c hc) (fun c hc => ?_) ?_
      · by_cases q : nI c = y
        · show z_B (if nI c = y then x else i 86 (60 + c)) 8
          rw [if_pos q]
          exact hx c hc q
        · show z_B (if nI c = y then x else i 86 (60 + c)) 8
          rw [if_neg q]
          exact hK.2.2.2.1 0 c (by decide) hc
      intro j2 q1 _ q3
      rw [f86] at q3
      refine hQ j2 ⟨fun b b1 b2 b3 => ?_, fun f f1 f2 f3 => ?_⟩ (fun m hm c hc => ?_)
      · rw [q1.1 b b1 b2 b3, h1 b b3]
      · rw [q1.2 f f1 f2 f3, f84]
      · have := q3 m (by omega) c hc
        rw [Nat.zero_add] at this
        exact this
    | succ d ih =>
      intro c j hc h1 h2
      refine ⟨fun h => absurd h (nI_ge (a := c) (b := 36) (by omega) (by decide)), fun _ => ?_⟩
      have e60 : (60 : Int32) + nI c = nI (60 + c) := nI_add 60 c
      rw [z_r84_2 hS, z_r84_24 hS, e60, nI_clamp (by omega)]
      have c31 : ∀ z : Int32, z = (if nI c = y then x else i 86 (60 + c)) → w_X10_tries_31 84 y x T n r w Q (w_X10_tries_2 84 y x T n r w Q (d + 1)) (nI c) 98 (nI c) z j := by
        intro z hz
        unfold w_X10_tries_31
        rw [nI_clamp (by omega), nI_1]
        refine ⟨z_kin (z_T98 hS) (by omega) (by decide), fun j2 e2 => ?_⟩
        refine ih (c + 1) j2 (by omega) (by rw [e2]; exact z_io_st h1) (fun c' hc' => ?_)
        rw [e2, kw_st_row]
        rcases Nat.lt_or_ge c' c with q | q
        · rw [if_neg (by omega)]
          exact h2 c' q
        · rw [if_pos (by omega), show c' = c by omega]
          exact hz
      refine ⟨fun h => ⟨z_kin (z_T86 hS) (by omega) (by decide), c31 _ ?_⟩, fun h => c31 _ ?_⟩
      · rw [if_neg h, h1 86 (by decide)]
      · rw [if_pos h]
  exact ⟨37, loop 36 0 i (by omega) (fun _ _ => rfl) (fun c' hc' => absurd hc' (Nat.not_lt_zero c'))⟩
end ZGO
