-- THE FIRST OF THE BEST
def z_best (p : Nat → Bool) (f : Nat → Nat) (m : Nat) (o : Option Nat) : Prop := match o with
  | none => ∀ k, k < m → p k = false
  | some k => k < m ∧ p k = true ∧ (∀ k', k' < m → p k' = true → f k' ≤ f k) ∧ ∀ k', k' < k → p k' = true → f k' < f k
section ZBE
variable {p : Nat → Bool} {f : Nat → Nat} {m : Nat} {o o' : Option Nat}
theorem z_best_one (h : z_best p f m o) (h' : z_best p f m o') : o = o' := by
  cases o with
  | none =>
    cases o' with
    | none => rfl
    | some k =>
      have := h k h'.1
      rw [h'.2.1] at this
      cases this
  | some k =>
    cases o' with
    | none =>
      have := h' k h.1
      rw [h.2.1] at this
      cases this
    | some j =>
      obtain ⟨a1, a2, a3, a4⟩ := h
      obtain ⟨b1, b2, b3, b4⟩ := h'
      have : k = j := by
        rcases Nat.lt_trichotomy k j with q | q | q
        · have x1 := b4 k q a2
          have x2 := a3 j b1 b2
          omega
        · exact q
        · have x1 := a4 j q b2
          have x2 := b3 k a1 a2
          omega
      rw [this]
theorem z_best_skip (h : z_best p f m o) (hp : p m = false) : z_best p f (m + 1) o := by
  cases o with
  | none =>
    intro k hk
    rcases Nat.lt_or_ge k m with q | q
    · exact h k q
    · rw [show k = m by omega]
      exact hp
  | some k =>
    obtain ⟨a1, a2, a3, a4⟩ := h
    refine ⟨by omega, a2, fun k' hk' hp' => ?_, a4⟩
    rcases Nat.lt_or_ge k' m with q | q
    · exact a3 k' q hp'
    · rw [show k' = m by omega, hp] at hp'
      cases hp'
theorem z_best_keep {k : Nat} (h : z_best p f m (some k)) (hf : f m ≤ f k) : z_best p f (m + 1) (some k) := by
  obtain ⟨a1, a2, a3, a4⟩ := h
  refine ⟨by omega, a2, fun k' hk' hp' => ?_, a4⟩
  rcases Nat.lt_or_ge k' m with q | q
  · exact a3 k' q hp'
  · rw [show k' = m by omega]
    exact hf
theorem z_best_take (h : z_best p f m o) (hp : p m = true) (ho : ∀ k, o = some k → f k < f m) : z_best p f (m + 1) (some m) := by
  have lt : ∀ k', k' < m → p k' = true → f k' < f m := by
    intro k' hk' hp'
    cases o with
    | none =>
      have := h k' hk'
      rw [hp'] at this
      cases this
    | some k =>
      have := h.2.2.1 k' hk' hp'
      have := ho k rfl
      omega
  refine ⟨by omega, hp, fun k' hk' hp' => ?_, lt⟩
  rcases Nat.lt_or_ge k' m with q | q
  · have := lt k' q hp'
    omega
  · rw [show k' = m by omega]
    exact Nat.le_refl _
theorem z_best_0 : z_best p f 0 none := fun k hk => absurd hk (Nat.not_lt_zero k)
end ZBE
theorem z_m1lt {k : Nat} (hk : k < 2 ^ 31) : (-1 : Int32) < nI k := by
  rw [fa_lt, nI_toInt hk]
  have : (-1 : Int32).toInt = -1 := by decide
  omega
theorem z_nle_m1 {k : Nat} (hk : k < 2 ^ 31) : ¬ nI k ≤ (-1 : Int32) := fun q => absurd (z_m1lt hk) (Int32.not_lt.mpr q)
-- ANOTHER LOOM
section ZLW
variable {T : kw_T} {n : Nat} {r : kw_R} {i j : kw_I} {w u : kw_L} {K : Nat → Int32} {nv : Nat} {L : List z_Sm} {S : Nat} {Wf : Nat → Nat}
theorem z_lE_SW (h : z_lE T r i w nv (z_E0 K L)) (h246 : i 24 6 = 0) (j5 : j 24 5 = i 24 5) (j6 : j 24 6 = nI S) (hS : S < 1024) (h26 : ∀ v, v < nv → z_hasB (Wf v) ∧ j 26 v = nI (Wf v)) (h27 : j 27 = i 27) (h29 : j 29 8 = i 29 8) (hd : ∀ b, 103 ≤ b → j b = i b) (hu : u 25 = w 25) : z_lE T r j u nv (z_env K L S Wf z_nofx) := by
  obtain ⟨⟨g1, g2, g3, g4, cd, st, nc, g5, g6⟩, h2, h3, h4⟩ := h
  refine ⟨⟨by rw [j5]; exact g1, g2, fun v hv => ⟨(h26 v hv).1.1, (h26 v hv).1.2, (h26 v hv).2⟩, fun v c hv hc => ?_, cd, st, nc, fun q => ?_, g6⟩, fun v hv => ?_, ?_, fun _ _ => rfl⟩
  · have a := g4 v c hv hc
    have a : z_seesC i w v c ↔ (Nat.testBit 0 v || z_see0 K v c) = true := a
    unfold z_seesC at a ⊢
    rw [h246, Nat.zero_testBit, Bool.false_or] at a
    have hz : ((0 : Int32) >>> (nI v &&& 31)) &&& (1 : Int32) = 0 := (z_bit0 (S := 0) (by decide) (by omega)).mpr (Nat.zero_testBit v)
    rw [j6, hu]
    show _ ↔ (S.testBit v || z_see0 K v c) = true
    rw [Bool.or_eq_true, ← a]
    have hb := z_bit0 (S := S) (v := v) (by omega) (by omega)
    constructor
    · rintro (q | q)
      · left
        cases hh : S.testBit v with
        | true => rfl
        | false => exact absurd (hb.mpr hh) q
      · exact Or.inr (Or.inr q)
    · rintro (q | q | q)
      · left
        intro z
        rw [hb.mp z] at q
        cases q
      · exact absurd hz q
      · exact Or.inr q
  · obtain ⟨⟨k1, k2, k3, k4, k5, k6, ⟨m, k7, k8, k9, k10⟩, k11⟩, k12⟩ := g5 q
    exact ⟨⟨k1, k2, k3, k4, by rw [hd _ k12]; exact k5, k6, ⟨m, k7, k8, by rw [hd _ (by omega)]; exact k9, k10⟩, by rw [hd _ (by omega)]; exact k11⟩, k12⟩
  · rw [h27]
    exact h2 v hv
  · rw [h29]
    exact h3
theorem z_likeW (hR : z_rows T r i K nv L) (hE : z_lE T r i w nv (z_env K L S Wf z_nofx)) {C : Nat} (hC : C < 1024) (hsm : ∀ v, v < nv → C.testBit v = false → S.testBit v = false ∧ Wf v = z_W0 K v) {Q : Int32 → kw_I → kw_L → Prop} (hQ : ∀ i' w', z_fe i i' → z_wo 28 w w' → Q (nI (z_lk (z_go (z_env K L S Wf z_nofx) 0 (fun c => K (60 + c)) nv) (fun c => K (60 + c)))) i' w') : w_X0_likenessWithout 52 (nI C) T n r i w Q := by
  have hS := hR.1
  intro i2 e2 i7 e7
  have o7 : ∀ b, b ≠ 52 → i7 b = i b := fun b hb => by rw [e7, kw_st_offF hb, e2, kw_st_offF hb]
  have fe7 : z_fe i i7 := ⟨fun b _ b2 _ _ => o7 b b2, by rw [o7 29 (by decide)], fun f f1 f2 => by rw [e7, kw_st_row, if_neg f2, e2, kw_st_row, if_neg f1]⟩
  rw [z_r52_0 hS]
  refine ⟨z_T23 hS, z_pic2 (z_rows_fe hR fe7) (m := 0) (Or.inl ⟨by decide, rfl⟩) fun a a1 a2 a3 => ?_⟩
  have ea : a = 11 := by omega
  subst ea
  refine z_endFrom (k := 0) (lo := 0) (hi := 0) (F := fun c => K (60 + c)) (z_rows_fe hR fe7) (z_lE_fe hE fe7 (fun _ _ => rfl)) (Nat.zero_le _) hC hsm a2 ?_ ?_ (by omega) (by omega) (fun d hd q => absurd rfl q) a1 (by decide) (by decide) ?_
  · rw [e7, kw_st_row, if_neg (by decide), e2, kw_st_same]
    rfl
  · rw [e7, kw_st_same]
    rfl
  · intro a i3 w3 b1 b2 b3 b4
    have fe3 : z_fe i i3 := ⟨fun b x1 x2 x3 x4 => (b2.1 b x1 x2 x3 x4).trans (fe7.1 b x1 x2 x3 x4), b2.2.1.trans fe7.2.1, fun f f1 f2 => (b2.2.2 f f1 f2).trans (fe7.2.2 f f1 f2)⟩
    refine z_pic2 (z_rows_fe hR fe3) (m := 0) (Or.inl ⟨by decide, rfl⟩) fun a' c1 c2 c3 => z_like9 b1 c1 ?_
    rw [z_lk_eq b4 c2]
    exact hQ i3 w3 fe3 b3
/-- guesses may be others -/
theorem z_fr_gs {i' : kw_I} {w' : kw_L} (h : z_fr T n r i w nv L) (hf : ∀ b, b ≠ 29 → b ≠ 52 → ¬ (53 ≤ b ∧ b ≤ 63) → i' b = i b) (h29 : i' 29 8 = i 29 8) (hw : z_wo 28 w w') (hg : z_gs i' (i 86) nv L) : z_fr T n r i' w' nv L ∧ i' 86 = i 86 := by
  obtain ⟨h1, c12, hK, hLk, rd, gs⟩ := h
  have hn := hK.1
  have o : ∀ b, b ≠ 29 → (b < 52 ∨ 63 < b) → i' b = i b := fun b b1 b2 => hf b b1 (by omega) (by omega)
  have e86 : i' 86 = i 86 := o 86 (by decide) (by decide)
  have rd' : z_rd T r i' w' (i 86) nv L := z_rd_eq rd (o 24 (by decide) (by decide)) (o 26 (by decide) (by decide)) (o 27 (by decide) (by decide)) h29 (fun b hb => o b (by omega) (by omega)) (hw 25 (by decide)) (by rw [o 23 (by decide) (by decide)]) (fun b b1 b2 => o b (by omega) (by omega)) hn
  obtain ⟨c1, c2, ⟨n1, n2, n3⟩, c4, c5, c6, c7, c8, c9, c10⟩ := h1
  refine ⟨⟨⟨c1, c2, ⟨?_, ?_, ?_⟩, ?_, ?_, ?_, ?_, ?_, ?_, ?_⟩, ?_, ?_, ?_, ?_, ?_⟩, e86⟩
  · rw [e86]
    exact z_SK_eq n1 (by rw [o 2 (by decide) (by decide)]; exact ⟨rfl, rfl, rfl⟩) (fun b b1 b2 => o b (by omega) (by omega)) (fun _ _ => rfl)
  · rw [e86]; exact n2
  · rw [e86]
    exact z_laws_eq n3 (fun _ _ => rfl) (fun _ _ _ => rfl) (fun a b ha _ c1 _ => o b (by omega) (by omega))
  · exact z_im_eq c4 (o 87 (by decide) (by decide)) (o 88 (by decide) (by decide)) (fun b hb => o b (by omega) (by omega))
  · rw [o 18 (by decide) (by decide), o 19 (by decide) (by decide), o 84 (by decide) (by decide), o 90 (by decide) (by decide)]
    exact c5
  · rw [o 1 (by decide) (by decide), o 83 (by decide) (by decide), o 84 (by decide) (by decide), o 85 (by decide) (by decide)]
    exact c6
  · obtain ⟨d, d1, d2, d3, d4⟩ := c7
    refine ⟨d, d1, by rw [o 70 (by decide) (by decide)]; exact d2, by rw [o 84 (by decide) (by decide)]; exact d3, fun v hv => ?_⟩
    rw [o 82 (by decide) (by decide), o 100 (by decide) (by decide), o 99 (by decide) (by decide), o (72 + v) (by omega) (by omega)]
    exact d4 v hv
  · rw [o 89 (by decide) (by decide)]; exact c8
  · rw [o 24 (by decide) (by decide)]; exact c9
  · intro _
    rw [e86]
    exact ⟨nv, L, hK, hLk, rd', hg⟩
  · rw [o 1 (by decide) (by decide)]; exact c12
  · rw [e86]; exact hK
  · rw [e86]; exact hLk
  · rw [e86]; exact rd'
  · rw [e86]; exact hg
end ZLW
-- THE GIFT
def z_gfp (K : Nat → Int32) (k : Nat) : Bool := !(z_W0 K (k / 8)).testBit (k % 8)
def z_gfo (f : Nat → Nat) (o : Option Nat) (a b c : Int32) : Prop := match o with
  | none => a = -1 ∧ b = -1 ∧ c = -1
  | some k => a = nI (f k) ∧ b = nI (k / 8) ∧ c = nI (k % 8)
theorem z_gfp_t {K : Nat → Int32} {k : Nat} : z_gfp K k = true ↔ (z_W0 K (k / 8)).testBit (k % 8) = false := by
  unfold z_gfp
  cases (z_W0 K (k / 8)).testBit (k % 8) <;> simp
theorem z_gfp_f {K : Nat → Int32} {k : Nat} : z_gfp K k = false ↔ (z_W0 K (k / 8)).testBit (k % 8) = true := by
  unfold z_gfp
  cases (z_W0 K (k / 8)).testBit (k % 8) <;> simp
theorem z_gb_iff {K : Nat → Int32} {L : List z_Sm} {nv : Nat} {a b c : Int32} : z_gb K L nv a b c ↔ ∃ o, z_best (z_gfp K) (z_gf K L nv) (8 * nv) o ∧ z_gfo (z_gf K L nv) o a b c := by
  constructor
  · rintro (⟨a1, a2, a3, a4⟩ | ⟨k, a1, a2, a3, a4, a5, a6, a7⟩)
    · exact ⟨none, fun k hk => z_gfp_f.mpr (a4 k hk), a1, a2, a3⟩
    · exact ⟨some k, ⟨a1, z_gfp_t.mpr a2, fun k' h1 h2 => a6 k' h1 (z_gfp_t.mp h2), fun k' h1 h2 => a7 k' h1 (z_gfp_t.mp h2)⟩, a3, a4, a5⟩
  · rintro ⟨o, h1, h2⟩
    cases o with
    | none => exact Or.inl ⟨h2.1, h2.2.1, h2.2.2, fun k hk => z_gfp_f.mp (h1 k hk)⟩
    | some k => exact Or.inr ⟨k, h1.1, z_gfp_t.mp h1.2.1, h2.1, h2.2.1, h2.2.2, fun k' q1 q2 => h1.2.2.1 k' q1 (z_gfp_t.mpr q2), fun k' q1 q2 => h1.2.2.2 k' q1 (z_gfp_t.mpr q2)⟩
theorem z_gW_B {K : Nat → Int32} {nv : Nat} (hK : z_Kr K nv) {v col u : Nat} (hu : u < nv) (hc : col < 8) : z_hasB (z_gW K v col u) := by
  obtain ⟨⟨h1, c, h2, h3⟩, h4⟩ := z_Kr_W hK hu
  unfold z_gW
  by_cases q : u = v
  · rw [if_pos q]
    have p8 : (2 : Nat) ^ col < 2 ^ 8 := Nat.pow_lt_pow_right (by decide) hc
    refine ⟨Nat.or_lt_two_pow (n := 8) h1 p8, c, h2, ?_⟩
    rw [Nat.testBit_or, h3, Bool.true_or]
  · rw [if_neg q]
    exact ⟨h1, c, h2, h3⟩
theorem z_one_bit {v k : Nat} (h : k ≠ v) : (2 ^ v).testBit k = false := by
  rw [Nat.testBit_two_pow]
  simp
  omega
section ZGI
variable {T : kw_T} {n : Nat} {r : kw_R} {i : kw_I} {w : kw_L} {nv : Nat} {L : List z_Sm}
theorem z_findGift (h : z_fr T n r i w nv L) {Q : kw_I → kw_L → Prop} (hQ : ∀ i' w', z_fr T n r i' w' nv L → i' 86 = i 86 → i' 2 = i 2 → i' 52 8 ≠ 0 → Q i' w') : w_X0_findGift 52 T n r i w Q := by
  have hS := h.1.1
  have hK := h.2.2.1
  have hn := hK.1
  have hE := h.2.2.2.2.1.2.1
  have h246 := h.2.2.2.2.1.2.2.1
  refine ⟨fun c8 i10 e10 => ?_, fun c8 => hQ i w h rfl rfl c8⟩
  rw [z_r52_7 hS]
  have e62 : ((T 62).2.toInt32) = (3 : Int32) := by rw [z_T62 hS]; rfl
  refine ⟨by rw [z_T62 hS], 4, ?_⟩
  rw [e62]
  have k62 : ∀ k, k < 3 → kw_in T 1 62 (nI k) := fun k hk => z_kin (z_T62 hS) hk (by decide)
  refine ⟨fun q => absurd q (by decide), fun _ => ⟨k62 0 (by decide), fun i11 e11 => ⟨fun q => absurd q (by decide), fun _ => ⟨k62 1 (by decide), fun i12 e12 => ⟨fun q => absurd q (by decide), fun _ => ⟨k62 2 (by decide), fun i13 e13 => ⟨fun _ => ⟨nv + 1, ?_⟩, fun q => absurd (by decide) q⟩⟩⟩⟩⟩⟩⟩
  have a13 : i13 = kw_st (kw_st (kw_st i10 62 0 (-1)) 62 1 (-1)) 62 2 (-1) := by rw [e13, e12, e11]; rfl
  -- the villages
  have loop : ∀ (d v : Nat) (j : kw_I) (u : kw_L) (o : Option Nat), v + d = nv → (∀ b, b ≠ 29 → b ≠ 52 → b ≠ 54 → b ≠ 55 → b ≠ 62 → j b = i b) → j 29 8 = i 29 8 → (∀ f, f ≠ 3 → f ≠ 4 → f ≠ 8 → j 52 f = i 52 f) → j 52 8 = 1 → z_wo 28 w u → z_best (z_gfp (i 86)) (z_gf (i 86) L nv) (8 * v) o → z_gfo (z_gf (i 86) L nv) o (j 62 0) (j 62 1) (j 62 2) → w_X0_findGift_23 52 T n r Q (d + 1) (nI v) j u := by
    intro d
    induction d with
    | zero =>
      intro v j u o hd g1 g2 g3 g4 g5 g6 g7
      have : v = nv := by omega
      subst this
      show s_X0_findGift_23 52 T n r Q _ (nI v) j u
      unfold s_X0_findGift_23
      rw [z_r52_1 hS, g1 24 (by decide) (by decide) (by decide) (by decide) (by decide), hE.1.1]
      refine ⟨z_T24 hS, fun _ => ?_, fun q => absurd (nI_le (Nat.le_refl _) (by omega)) q⟩
      obtain ⟨f1, f2⟩ := z_fr_gs h (i' := j) (w' := u) (fun b b1 b2 b3 => g1 b b1 b2 (by omega) (by omega) (by omega)) g2 g5 (by
        obtain ⟨s1, s2, s3⟩ := h.2.2.2.2.2
        refine ⟨fun s hs q => ?_, fun _ => z_gb_iff.mpr ⟨o, g6, g7⟩, fun q => ?_⟩
        · rw [g1 (57 + s) (by omega) (by omega) (by omega) (by omega) (by omega)]
          rw [g1 61 (by decide) (by decide) (by decide) (by decide) (by decide)] at q
          exact s1 s hs q
        · rw [g1 63 (by decide) (by decide) (by decide) (by decide) (by decide), g3 10 (by decide) (by decide) (by decide)]
          rw [g3 11 (by decide) (by decide) (by decide)] at q
          exact s3 q)
      exact hQ j u f1 f2 (g1 2 (by decide) (by decide) (by decide) (by decide) (by decide)) (by rw [g4]; decide)
    | succ d ih =>
      intro v j u o hd g1 g2 g3 g4 g5 g6 g7
      have hv : v < nv := by omega
      show s_X0_findGift_23 52 T n r Q _ (nI v) j u
      unfold s_X0_findGift_23
      rw [z_r52_1 hS, z_r24_1 hS, nI_clamp (by omega), g1 24 (by decide) (by decide) (by decide) (by decide) (by decide), hE.1.1]
      obtain ⟨hWB, hWe⟩ := z_Kr_W hK hv
      have e26 : ∀ v', v' < nv → i 26 v' = nI (z_W0 (i 86) v') := fun v' hv' => (hE.1.2.2.1 v' hv').2.2
      have ew : j 26 v = nI (z_W0 (i 86) v) := by rw [g1 26 (by decide) (by decide) (by decide) (by decide) (by decide)]; exact e26 v hv
      refine ⟨z_T24 hS, fun q => absurd q (nI_ge hv (by omega)), fun _ => ⟨z_kin (z_T26 hS) (by omega) (by decide), 9, ?_⟩⟩
      rw [ew]
      have k26 : kw_in T 1 26 (nI v) := z_kin (z_T26 hS) (by omega) (by decide)
      -- the colours
      have inner : ∀ (e col : Nat) (m : kw_I) (z : kw_L) (o : Option Nat), col + e = 8 → (∀ b, b ≠ 26 → b ≠ 29 → b ≠ 52 → b ≠ 54 → b ≠ 55 → b ≠ 62 → m b = i b) → (∀ x, x ≠ v → m 26 x = i 26 x) → m 29 8 = i 29 8 → (∀ f, f ≠ 3 → f ≠ 4 → f ≠ 8 → m 52 f = i 52 f) → m 52 8 = 1 → z_wo 28 w z → z_best (z_gfp (i 86)) (z_gf (i 86) L nv) (8 * v + col) o → z_gfo (z_gf (i 86) L nv) o (m 62 0) (m 62 1) (m 62 2) → w_X0_findGift_46 52 T n r Q (w_X0_findGift_23 52 T n r Q (d + 1)) (e + 1) (nI v) (nI (z_W0 (i 86) v)) (nI col) m z := by
        intro e
        induction e with
        | zero =>
          intro col m z o he b1 b2 b3 b4 b5 b6 b7 b8
          have : col = 8 := by omega
          subst this
          show s_X0_findGift_46 52 T n r Q _ _ (nI v) (nI (z_W0 (i 86) v)) (nI 8) m z
          unfold s_X0_findGift_46
          rw [z_r52_1 hS, z_r24_1 hS, nI_clamp (by omega), nI_1]
          refine ⟨fun _ => ⟨z_T24 hS, k26, fun m2 f2 => ?_⟩, fun q => absurd (by decide) q⟩
          have o2 : ∀ b, b ≠ 26 → m2 b = m b := fun b hb => by rw [f2, kw_st_offF hb]
          have r26 : m2 26 = i 26 := by
            funext x
            rw [f2, kw_st_row]
            by_cases q : x = v
            · rw [if_pos q, q, e26 v hv]
            · rw [if_neg q]
              exact b2 x q
          refine ih (v + 1) m2 z o (by omega) (fun b c1 c2 c3 c4 c5 => ?_) (by rw [o2 29 (by decide)]; exact b3) (fun f f1 f2 f3 => by rw [o2 52 (by decide)]; exact b4 f f1 f2 f3) (by rw [o2 52 (by decide)]; exact b5) b6 (by rw [show 8 * (v + 1) = 8 * v + 8 by omega]; exact b7) (by rw [o2 62 (by decide)]; exact b8)
          by_cases q : b = 26
          · rw [q, r26]
          · rw [o2 b q]
            exact b1 b q c1 c2 c3 c4 c5
        | succ e ihe =>
          intro col m z o he b1 b2 b3 b4 b5 b6 b7 b8
          have hc : col < 8 := by omega
          have kd : (8 * v + col) / 8 = v := by omega
          have km : (8 * v + col) % 8 = col := by omega
          show s_X0_findGift_46 52 T n r Q _ _ (nI v) (nI (z_W0 (i 86) v)) (nI col) m z
          unfold s_X0_findGift_46
          rw [z_r52_1 hS, z_r24_1 hS, z_r52_7 hS, nI_clamp (by omega), z_one_shl (show col < 31 by omega), z_one_shl (show v < 31 by omega), fa_or]
          refine ⟨fun q => absurd q (nI_ge (b := 8) hc (by decide)), fun _ => ⟨fun hb => ⟨z_T24 hS, k26, fun m2 f2 => ?_⟩, fun hb => ?_⟩⟩
          · have tb : (z_W0 (i 86) v).testBit col = false := (z_bit0 (by have := hWB.1; omega) (by omega)).mp hb
            have pk : z_gfp (i 86) (8 * v + col) = true := z_gfp_t.mpr (by rw [kd, km]; exact tb)
            have o2 : ∀ b, b ≠ 26 → m2 b = m b := fun b hb => by rw [f2, kw_st_offF hb]
            have hR2 : z_rows T r m2 (i 86) nv L := z_rows_eq (z_fr_rows h) (by rw [o2 24 (by decide), b1 24 (by decide) (by decide) (by decide) (by decide) (by decide) (by decide)]) (fun b c1 c2 => by rw [o2 b (by omega), b1 b (by omega) (by omega) (by omega) (by omega) (by omega) (by omega)]) (by rw [o2 11 (by decide), b1 11 (by decide) (by decide) (by decide) (by decide) (by decide) (by decide)])
            have hE2 : z_lE T r m2 z nv (z_env (i 86) L 0 (z_gW (i 86) v col) z_nofx) := z_lE_SW hE h246 (by rw [o2 24 (by decide), b1 24 (by decide) (by decide) (by decide) (by decide) (by decide) (by decide)]) (by rw [o2 24 (by decide), b1 24 (by decide) (by decide) (by decide) (by decide) (by decide) (by decide)]; exact h246) (by decide) (fun v' hv' => ⟨z_gW_B hK hv' hc, by
                rw [f2, kw_st_row]
                unfold z_gW
                by_cases q : v' = v
                · rw [if_pos q, if_pos q, q]
                · rw [if_neg q, if_neg q, b2 v' q]
                  exact e26 v' hv'⟩) (by rw [o2 27 (by decide), b1 27 (by decide) (by decide) (by decide) (by decide) (by decide) (by decide)]) (by rw [o2 29 (by decide)]; exact b3) (fun b hb => by rw [o2 b (by omega), b1 b (by omega) (by omega) (by omega) (by omega) (by omega) (by omega)]) (b6 25 (by decide))
            refine z_likeW hR2 hE2 (C := 2 ^ v) (by have := Nat.pow_lt_pow_right (a := 2) (by decide) (show v < 10 by omega); omega) (fun v' hv' q => ⟨Nat.zero_testBit v', by
              unfold z_gW
              rw [if_neg]
              intro e
              rw [e, Nat.testBit_two_pow_self] at q
              cases q⟩) fun m3 z3 c1 c2 => ?_
            have gfe : z_lk (z_go (z_env (i 86) L 0 (z_gW (i 86) v col) z_nofx) 0 (fun c => i 86 (60 + c)) nv) (fun c => i 86 (60 + c)) = z_gf (i 86) L nv (8 * v + col) := by
              unfold z_gf
              rw [kd, km]
            rw [gfe]
            have lle : z_gf (i 86) L nv (8 * v + col) ≤ 36 := z_lk_le _ _
            have o3 : ∀ b, b ≠ 26 → b ≠ 29 → b ≠ 52 → b ≠ 54 → b ≠ 55 → m3 b = m b := fun b x1 x2 x3 x4 x5 => by rw [c1.1 b x2 x3 x4 x5, o2 b x1]
            have r26 : ∀ x, x ≠ v → m3 26 x = i 26 x := fun x hx => by
              rw [c1.1 26 (by decide) (by decide) (by decide) (by decide), f2, kw_st_row, if_neg hx]
              exact b2 x hx
            have m62 : m3 62 = m 62 := o3 62 (by decide) (by decide) (by decide) (by decide) (by decide)
            have m29 : m3 29 8 = i 29 8 := by rw [c1.2.1, o2 29 (by decide)]; exact b3
            have m52 : ∀ f, f ≠ 3 → f ≠ 4 → m3 52 f = m 52 f := fun f f1 f2 => by rw [c1.2.2 f f1 f2, o2 52 (by decide)]
            have mz : z_wo 28 w z3 := fun b hb => (c2 b hb).trans (b6 b hb)
            have e0 : m3 62 ((0 : Int32)).toNatClampNeg = m 62 0 := by rw [m62]; rfl
            rw [e0]
            refine ⟨k62 0 (by decide), fun q => ?_, fun q => ⟨k62 0 (by decide), fun m4 f4 => ⟨k62 1 (by decide), fun m5 f5 => ⟨k62 2 (by decide), fun m6 f6 => ?_⟩⟩⟩⟩
            · show w_X0_findGift_46 52 T n r Q _ (e + 1) (nI v) (nI (z_W0 (i 86) v)) (nI col + 1) m3 z3
              rw [nI_1]
              refine ihe (col + 1) m3 z3 o (by omega) (fun b x1 x2 x3 x4 x5 x6 => by rw [o3 b x1 x2 x3 x4 x5]; exact b1 b x1 x2 x3 x4 x5 x6) r26 m29 (fun f f1 f2 f3 => by rw [m52 f f1 f2]; exact b4 f f1 f2 f3) (by rw [m52 8 (by decide) (by decide)]; exact b5) mz ?_ (by rw [m62]; exact b8)
              cases o with
              | none =>
                rw [b8.1] at q
                exact absurd q (z_nle_m1 (by omega))
              | some k =>
                have l2 : z_gf (i 86) L nv k ≤ 36 := z_lk_le _ _
                rw [b8.1] at q
                exact z_best_keep (m := 8 * v + col) b7 ((nI_leI (by omega) (by omega)).mp q)
            · show w_X0_findGift_46 52 T n r Q _ (e + 1) (nI v) (nI (z_W0 (i 86) v)) (nI col + 1) m6 z3
              rw [nI_1]
              have a6 : m6 = kw_st (kw_st (kw_st m3 62 0 (nI (z_gf (i 86) L nv (8 * v + col)))) 62 1 (nI v)) 62 2 (nI col) := by rw [f6, f5, f4]; rfl
              have o6 : ∀ b, b ≠ 62 → m6 b = m3 b := fun b hb => by rw [a6, kw_st_offF hb, kw_st_offF hb, kw_st_offF hb]
              refine ihe (col + 1) m6 z3 (some (8 * v + col)) (by omega) (fun b x1 x2 x3 x4 x5 x6 => by rw [o6 b x6, o3 b x1 x2 x3 x4 x5]; exact b1 b x1 x2 x3 x4 x5 x6) (fun x hx => by rw [o6 26 (by decide)]; exact r26 x hx) (by rw [o6 29 (by decide)]; exact m29) (fun f f1 f2 f3 => by rw [o6 52 (by decide), m52 f f1 f2]; exact b4 f f1 f2 f3) (by rw [o6 52 (by decide), m52 8 (by decide) (by decide)]; exact b5) mz ?_ ?_
              · refine z_best_take (m := 8 * v + col) b7 pk (fun k hk => ?_)
                subst hk
                have l2 : z_gf (i 86) L nv k ≤ 36 := z_lk_le _ _
                rw [b8.1] at q
                rcases Nat.lt_or_ge (z_gf (i 86) L nv k) (z_gf (i 86) L nv (8 * v + col)) with y | y
                · exact y
                · exact absurd (nI_le y (by omega)) q
              · unfold z_gfo
                rw [a6]
                refine ⟨?_, ?_, ?_⟩
                · rw [kw_st_row, if_neg (by decide), kw_st_row, if_neg (by decide), kw_st_same]
                · rw [kw_st_row, if_neg (by decide), kw_st_same, kd]
                · rw [kw_st_same, km]
          · have tb : (z_W0 (i 86) v).testBit col = true := by
              cases hh : (z_W0 (i 86) v).testBit col with
              | true => rfl
              | false => exact absurd ((z_bit0 (by have := hWB.1; omega) (by omega)).mpr hh) hb
            show w_X0_findGift_46 52 T n r Q _ (e + 1) (nI v) (nI (z_W0 (i 86) v)) (nI col + 1) m z
            rw [nI_1]
            exact ihe (col + 1) m z o (by omega) b1 b2 b3 b4 b5 b6 (z_best_skip (m := 8 * v + col) b7 (z_gfp_f.mpr (by rw [kd, km]; exact tb))) b8
      exact inner 8 0 j u o (by omega) (fun b c1 c2 c3 c4 c5 c6 => g1 b c2 c3 c4 c5 c6) (fun x _ => by rw [g1 26 (by decide) (by decide) (by decide) (by decide) (by decide)]) g2 g3 g4 g5 g6 g7
  refine loop nv 0 i13 w none (by omega) (fun b c1 c2 c3 c4 c5 => ?_) ?_ (fun f f1 f2 f3 => ?_) ?_ (fun _ _ => rfl) z_best_0 ?_
  · rw [a13, kw_st_offF c5, kw_st_offF c5, kw_st_offF c5, e10, kw_st_offF c2]
  · rw [a13, kw_st_off (by decide), kw_st_off (by decide), kw_st_off (by decide), e10, kw_st_off (by decide)]
  · rw [a13, kw_st_off (by decide), kw_st_off (by decide), kw_st_off (by decide), e10, kw_st_row, if_neg f3]
  · rw [a13, kw_st_off (by decide), kw_st_off (by decide), kw_st_off (by decide), e10, kw_st_same]
  · unfold z_gfo
    rw [a13]
    refine ⟨?_, ?_, ?_⟩
    · rw [kw_st_row, if_neg (by decide), kw_st_row, if_neg (by decide), kw_st_same]
    · rw [kw_st_row, if_neg (by decide), kw_st_same]
    · rw [kw_st_same]
end ZGI
def z_gro (f : Nat → Nat) (o : Option Nat) (x2 x3 : Int32) : Prop := match o with
  | none => x2 = -1 ∧ x3 = -1
  | some k => x2 = nI k ∧ x3 = nI (f k)
theorem z_C21 : lw_C21 z_Inv := by
  intro T n r i w x h hn
  have hS := h.1
  have hb := z_B_le (x := x) (m := 2) (by decide)
  have no : ¬ z_B x 3 → T 84 = (0, 10) ∧ w_X10_gift 84 x T n r i w (fun v2 i2 => -1 = v2 ∧ lw_N z_Inv n T n r i2 w) := fun hq => ⟨z_T84 hS, z_lies (m := 2) (by decide) (fun c => absurd c hq) (fun _ => z_f2 ⟨rfl, z_N h⟩)⟩
  refine ⟨fun c => no (fun z => (hb.mp z).1 c), fun c => ⟨fun c2 => ?_, fun c2 => no (fun z => c2 (hb.mp z).2)⟩⟩
  have hB : z_B x 3 := hb.mpr ⟨c, c2⟩
  refine z_weaveIf h fun r' i' w' nv L hf o86 o2 => ?_
  have hS' := hf.1.1
  rw [z_r1_5 hS', z_r52_7 hS']
  refine ⟨z_T52 hS', z_findGift hf fun i2 w2 hf2 e86 e2 e8 => ?_⟩
  obtain ⟨q, hq, rfl⟩ := hB
  rw [nI_clamp (by omega)]
  refine ⟨z_kin (z_T62 hS') hq (by decide), z_T84 hS', z_lies (m := 2) (by decide) (fun _ => z_t2 (z_plain fun j p1 p2 => ?_)) (fun y => absurd ⟨q, hq, rfl⟩ y)⟩
  obtain ⟨o, ho, hv⟩ := z_gb_iff.mp (hf2.2.2.2.2.2.2.1 e8)
  have hK := hf2.2.2.1
  have hn10 := hK.1
  have loop : ∀ (d k : Nat) (m : kw_I) (o' : Option Nat) (x2 x3 : Int32), k + d = 8 * nv → z_Inv T n r' m w2 → m 86 = i2 86 → m 84 27 = 0 → m 84 30 = -1 → m 84 32 = 0 → z_best (z_gfp (i2 86)) (z_gf (i2 86) L nv) k o' → z_gro (z_gf (i2 86) L nv) o' x2 x3 → w_X10_gift_22 84 (nI q) T n r' w2 (fun v2 i3 => i2 62 q = v2 ∧ lw_N z_Inv n T n r' i3 w2) (d + 1) x2 x3 (nI k) m := by
    intro d
    induction d with
    | zero =>
      intro k m o' x2 x3 hd g1 g2 g3 g4 g5 g6 g7
      have : k = 8 * nv := by omega
      subst this
      show s_X10_gift_22 84 (nI q) T n r' w2 _ _ x2 x3 (nI _) m
      unfold s_X10_gift_22
      refine z_villages hS' ?_
      rw [g2, hK.2.1, show (8 : Int32) * nI nv = nI (8 * nv) from pk_mul 8 nv]
      refine ⟨fun _ => ?_, fun y => absurd (nI_le (Nat.le_refl _) (by omega)) y⟩
      have eo := z_best_one ho g6
      subst eo
      have fin : ∀ y : Int32, i2 62 q = y → (i2 62 q = y ∧ lw_N z_Inv n T n r' m w2) := fun y hy => ⟨hy, g1, by omega⟩
      cases o with
      | none =>
        refine ⟨fun y => absurd g7.1 y, fun _ => fin _ ?_⟩
        rcases (show q = 0 ∨ q = 1 ∨ q = 2 by omega) with rfl | rfl | rfl
        · exact hv.1
        · exact hv.2.1
        · exact hv.2.2
      | some k =>
        have hk := ho.1
        rw [g7.1, g7.2]
        refine ⟨fun _ => ⟨fun y => ⟨fun y2 => fin _ ?_, fun y2 => fin _ ?_⟩, fun y => fin _ ?_⟩, fun y => absurd y (z_m1ne (by omega))⟩
        · have q2 : q = 2 := by
            rcases (show q = 0 ∨ q = 1 ∨ q = 2 by omega) with rfl | rfl | rfl
            · exact absurd rfl y
            · exact absurd rfl y2
            · rfl
          rw [q2, hv.2.2]
          exact (pk_rem (d := 8) (by omega) (by decide) (by decide)).symm
        · have q1 : q = 1 := (nI_eq (b := 1) (by omega) (by decide)).mp y2
          rw [q1, hv.2.1]
          exact (pk_div (d := 8) (by omega) (by decide) (by decide)).symm
        · have q0 : q = 0 := (nI_eq (b := 0) (by omega) (by decide)).mp y
          rw [q0, hv.1]
    | succ d ih =>
      intro k m o' x2 x3 hd g1 g2 g3 g4 g5 g6 g7
      show s_X10_gift_22 84 (nI q) T n r' w2 _ _ x2 x3 (nI _) m
      unfold s_X10_gift_22
      refine z_villages hS' ?_
      rw [g2, hK.2.1, show (8 : Int32) * nI nv = nI (8 * nv) from pk_mul 8 nv]
      refine ⟨fun y => absurd y (nI_ge (by omega) (by omega)), fun _ m1 f1 m2 f2 => ?_⟩
      have kv : k / 8 < nv := by omega
      have em : nI k - nI k / (8 : Int32) * 8 = nI (k % 8) := pk_rem (d := 8) (by omega) (by decide) (by decide)
      have ed : nI k / (8 : Int32) = nI (k / 8) := pk_div (d := 8) (by omega) (by decide) (by decide)
      rw [em] at f2
      rw [ed] at f1
      have o3 : ∀ b, b ≠ 84 → m2 b = m b := fun b hb => by rw [f2, kw_st_offF hb, f1, kw_st_offF hb]
      have p3 : ∀ f, f ≠ 28 → f ≠ 29 → m2 84 f = m 84 f := fun f x1 x2 => by rw [f2, kw_st_row, if_neg x2, f1, kw_st_row, if_neg x1]
      have e28 : m2 84 28 = nI (k / 8) := by rw [f2, kw_st_row, if_neg (by decide), f1, kw_st_same]
      have e29 : m2 84 29 = nI (k % 8) := by rw [f2, kw_st_same]
      have m86 : m2 86 = i2 86 := by rw [o3 86 (by decide), g2]
      have I2 : z_Inv T n r' m2 w2 := z_Inv_gz g1 (fun b b1 _ _ _ => o3 b b1) (fun f _ _ _ f4 _ => p3 f (by omega) (by omega)) rfl
      rw [e28, e29]
      refine z_factOf (k := 5) hS' (by omega) (by decide) ?_
      obtain ⟨hWB, hWe⟩ := z_Kr_W hK kv
      rw [m86, hWe]
      have hW31 := hWB.1
      refine ⟨fun hb => ?_, fun hb => ?_⟩
      · have tb : (z_W0 (i2 86) (k / 8)).testBit (k % 8) = false := by
          cases hh : (z_W0 (i2 86) (k / 8)).testBit (k % 8) with
          | false => rfl
          | true => exact absurd ((z_bit1 (by omega) (by omega)).mpr hh) hb
        have mv : z_mv m2 nv 0 (z_gW (i2 86) (k / 8) (k % 8)) z_nofx := by
          refine ⟨by decide, by rw [p3 27 (by decide) (by decide), g3]; rfl, fun v hv => ⟨z_gW_B hK hv (by omega), ?_⟩, fun v c hv hc => ?_⟩
          · rw [e28, e29, m86, (z_Kr_W hK hv).2]
            unfold z_gW
            by_cases y : v = k / 8
            · rw [if_pos y, if_pos (by rw [y]), z_one_shl (by omega), fa_or]
            · rw [if_neg y, if_neg (fun z => y ((nI_eq (by omega) (by omega)).mp z))]
              exact (by rw [show (0 : Int32) = nI 0 from rfl, fa_or, Nat.or_zero])
          · rw [p3 30 (by decide) (by decide), g4, if_neg (fun z => z_m1ne (by omega) z.symm)]
            rfl
        refine z_tries (L := L) (S := 0) (Wf := z_gW (i2 86) (k / 8) (k % 8)) (fx := z_nofx) hS' (by rw [m86]; exact hK) (by rw [m86]; exact hf2.2.2.2.1) mv (by rw [p3 32 (by decide) (by decide)]; exact g5) (fun v c x _ _ q => by cases q) (fun c hc y => absurd y (z_m1ne (by omega))) fun m3 b1 b2 => z_villages hS' ?_
        have n86 : m3 86 = i2 86 := (b1.1 86 (by decide) (by decide) (by decide)).trans m86
        rw [n86, hK.2.1, z_r84_24 hS', z_r84_2 hS', show (36 : Int32) * nI nv = nI (36 * nv) from pk_mul 36 nv]
        refine z_like10 (fb := 60) (z_T98 hS') (z_T86 hS') (by omega) (by omega) (by decide) (by decide) ?_
        have el : z_lk (fun c => m3 98 (36 * nv + c)) (fun c => m3 86 (60 + c)) = z_gf (i2 86) L nv k := by
          unfold z_gf
          refine z_lk_eq (fun c hc => ?_) (fun c hc => by rw [n86])
          rw [b2 nv (Nat.le_refl _) c hc, m86]
          exact z_go_eq (fun c hc => if_neg (z_m1ne (by omega))) nv c hc
        rw [el]
        have lle : z_gf (i2 86) L nv k ≤ 36 := z_lk_le _ _
        have pk : z_gfp (i2 86) k = true := z_gfp_t.mpr tb
        have go : ∀ (o2 : Option Nat) (y2 y3 : Int32), z_best (z_gfp (i2 86)) (z_gf (i2 86) L nv) (k + 1) o2 → z_gro (z_gf (i2 86) L nv) o2 y2 y3 → w_X10_gift_115 84 (nI q) T n r' w2 (fun v2 i3 => i2 62 q = v2 ∧ lw_N z_Inv n T n r' i3 w2) (w_X10_gift_22 84 (nI q) T n r' w2 (fun v2 i3 => i2 62 q = v2 ∧ lw_N z_Inv n T n r' i3 w2) (d + 1)) y2 y3 (nI k) m3 := by
          intro o2 y2 y3 h1 h2
          show w_X10_gift_22 84 (nI q) T n r' w2 _ (d + 1) y2 y3 (nI k + 1) m3
          rw [nI_1]
          refine ih (k + 1) m3 o2 y2 y3 (by omega) (z_Inv_gr I2 (by decide) b1) n86 ?_ ?_ ?_ h1 h2
          · rw [b1.2 27 (by decide) (by decide) (by decide), p3 27 (by decide) (by decide)]; exact g3
          · rw [b1.2 30 (by decide) (by decide) (by decide), p3 30 (by decide) (by decide)]; exact g4
          · rw [b1.2 32 (by decide) (by decide) (by decide), p3 32 (by decide) (by decide)]; exact g5
        refine ⟨fun y => go (some k) _ _ (z_best_take g6 pk (fun k' hk' => ?_)) ⟨rfl, rfl⟩, fun y => go o' _ _ ?_ g7⟩
        · subst hk'
          have l2 : z_gf (i2 86) L nv k' ≤ 36 := z_lk_le _ _
          rw [g7.2] at y
          exact (nI_ltI (by omega) (by omega)).mp y
        · cases o' with
          | none =>
            rw [g7.2] at y
            exact absurd (z_m1lt (by omega)) y
          | some k' =>
            have l2 : z_gf (i2 86) L nv k' ≤ 36 := z_lk_le _ _
            rw [g7.2] at y
            refine z_best_keep g6 ?_
            rcases Nat.lt_or_ge (z_gf (i2 86) L nv k') (z_gf (i2 86) L nv k) with z | z
            · exact absurd (nI_lt z (by omega)) y
            · exact z
      · have tb : (z_W0 (i2 86) (k / 8)).testBit (k % 8) = true := (z_bit1 (by omega) (by omega)).mp hb
        show w_X10_gift_22 84 (nI q) T n r' w2 _ (d + 1) x2 x3 (nI k + 1) m2
        rw [nI_1]
        exact ih (k + 1) m2 o' x2 x3 (by omega) I2 m86 (by rw [p3 27 (by decide) (by decide)]; exact g3) (by rw [p3 30 (by decide) (by decide)]; exact g4) (by rw [p3 32 (by decide) (by decide)]; exact g5) (z_best_skip g6 (z_gfp_f.mpr tb)) g7
  exact ⟨8 * nv + 1, loop (8 * nv) 0 j none (-1) (-1) (by omega) (z_Inv_gp hf2.1 p1) (p1.1 86 (by decide)) p2.1 p2.2.2.2.1 p2.2.2.2.2.2 z_best_0 ⟨rfl, rfl⟩⟩
