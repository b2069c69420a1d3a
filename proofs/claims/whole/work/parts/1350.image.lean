-- IMAGES
theorem z_sh_2 {T : kw_T} {r : kw_R} (hS : z_S T r) : z_sh T r 2 := ⟨z_T2 hS, z_T3 hS, fun j hj => ⟨by rw [show 2 + 2 + j = 4 + j by omega]; exact z_Ttrow hS hj, by rw [show 2 + 2 + j = 4 + j by omega]; exact z_rtrow hS hj⟩, z_T10 hS, fun q hq => ⟨by rw [show 2 + 9 + q = 11 + q by omega]; exact z_Tprow hS hq, by rw [show 2 + 9 + q = 11 + q by omega]; exact z_rprow hS hq⟩, z_T14 hS, z_T15 hS, z_T16 hS, z_r2_0 hS, z_r2_1 hS, z_r2_2 hS, z_r2_3 hS, z_r2_4 hS⟩
theorem z_cpo {T : kw_T} {a b m : Nat} {x : Int32} (ha : T a = (1, m)) (hb : T b = (1, m)) (hx : x = nI m) (hm : m < 1000) : kw_cpo T a b (0 : Int32) 0 x := by
  unfold kw_cpo
  rw [ha, hb, hx]
  refine ⟨rfl, rfl, by decide, by decide, nI_pos (by omega), ?_, ?_⟩
  · show (0 : Int32).toNatClampNeg + (nI m).toNatClampNeg ≤ m
    rw [nI_clamp (by omega)]
    show 0 + m ≤ m
    omega
  · show (0 : Int32).toNatClampNeg + (nI m).toNatClampNeg ≤ m
    rw [nI_clamp (by omega)]
    show 0 + m ≤ m
    omega
section ZCP
variable {T : kw_T} {n : Nat} {r : kw_R} {i : kw_I} {w : kw_L} {d s : Nat}
/-- what a copy is -/
def z_cpd (i i' : kw_I) (d s : Nat) : Prop := (∀ b, (b < d ∨ d + 13 < b) → i' b = i b) ∧ (∀ j v, j < 6 → v < 10 → i' (d + 2 + j) v = i (s + 2 + j) v) ∧ (∀ q c, q < 3 → c < 36 → i' (d + 9 + q) c = i (s + 9 + q) c) ∧ (∀ c, c < 8 → i' (d + 12) c = i (s + 12) c) ∧ (∀ t, t < 2 → i' (d + 13) t = i (s + 13) t) ∧ i' d 5 = i s 5 ∧ i' d 6 = i s 6 ∧ i' d 7 = i s 7
theorem z_SK_cpd {i' : kw_I} {K : Nat → Int32} (h : z_SK i s K) (hc : z_cpd i i' d s) : z_SK i' d K := by
  obtain ⟨a1, a2, a3, a4, a5, a6, a7⟩ := h
  obtain ⟨-, b1, b2, b3, b4, b5, b6, b7⟩ := hc
  exact ⟨fun j v hj hv => by rw [b1 j v hj hv]; exact a1 j v hj hv, fun q c hq hc => by rw [b2 q c hq hc]; exact a2 q c hq hc, fun c hc => by rw [b3 c hc]; exact a3 c hc, fun t ht => by rw [b4 t ht]; exact a4 t ht, b5.trans a5, b6.trans a6, b7.trans a7⟩
theorem z_copyFrom (hd : z_sh T r d) (hs : z_sh T r s) (hdis : d + 14 < s ∨ s + 14 < d) (hel : ∀ j, j < 6 → kw_el T 1 (r (s + 14) j)) {Q : kw_R → kw_I → Prop} (hQ : ∀ r' i', (∀ b, b ≠ d + 14 → r' b = r b) → (∀ j, j < 6 → r' (d + 14) j = r (s + 14) j) → z_cpd i i' d s → Q r' i') : w_X6_copyFrom d s T n r i w Q := by
  obtain ⟨d1, d2, d3, d4, d5, d6, d7, d8, d9, d10, d11, d12, d13⟩ := hd
  obtain ⟨s1, s2, s3, s4, s5, s6, s7, s8, s9, s10, s11, s12, s13⟩ := hs
  have c0 : ((0 : Int32)).toNatClampNeg = 0 := rfl
  -- the texts
  have texts : ∀ (e j : Nat) (r2 : kw_R) (i2 : kw_I), j + e = 6 → (∀ b, b ≠ d + 14 → r2 b = r b) → (∀ j', j' < j → r2 (d + 14) j' = r (s + 14) j') → (∀ b, (b ≤ d ∨ d + 13 < b) → i2 b = i b) → (∀ j v, j < 6 → v < 10 → i2 (d + 2 + j) v = i (s + 2 + j) v) → (∀ q c, q < 3 → c < 36 → i2 (d + 9 + q) c = i (s + 9 + q) c) → (∀ c, c < 8 → i2 (d + 12) c = i (s + 12) c) → (∀ t, t < 2 → i2 (d + 13) t = i (s + 13) t) → w_X6_copyFrom_96 d s T n w Q (e + 1) (nI j) r2 i2 := by
    intro e
    induction e with
    | zero =>
      intro j r2 i2 he g1 g2 g3 g4 g5 g6 g7
      have : j = 6 := by omega
      subst this
      refine ⟨fun _ => ⟨s1, fun i3 e3 i4 e4 i5 e5 => ?_⟩, fun q => absurd (by decide) q⟩
      have sd : s ≠ d := by omega
      have o5 : ∀ b, b ≠ d → i5 b = i2 b := fun b hb => by rw [e5, kw_st_offF hb, e4, kw_st_offF hb, e3, kw_st_offF hb]
      have es : i2 s = i s := g3 s (by omega)
      refine hQ r2 i5 g1 g2 ⟨fun b hb => by rw [o5 b (by omega)]; exact g3 b (by omega), fun j v hj hv => by rw [o5 _ (by omega)]; exact g4 j v hj hv, fun q c hq hc => by rw [o5 _ (by omega)]; exact g5 q c hq hc, fun c hc => by rw [o5 _ (by omega)]; exact g6 c hc, fun t ht => by rw [o5 _ (by omega)]; exact g7 t ht, ?_, ?_, ?_⟩
      · rw [e5, kw_st_row, if_neg (by decide), e4, kw_st_row, if_neg (by decide), e3, kw_st_same, es]
      · rw [e5, kw_st_row, if_neg (by decide), e4, kw_st_same, e3, kw_st_off sd, es]
      · rw [e5, kw_st_same, e4, kw_st_off sd, e3, kw_st_off sd, es]
    | succ e ih =>
      intro j r2 i2 he g1 g2 g3 g4 g5 g6 g7
      show s_X6_copyFrom_96 d s T n w Q _ (nI j) r2 i2
      unfold s_X6_copyFrom_96
      have rs : r2 s 4 = s + 14 := by rw [g1 s (by omega)]; exact s13
      have rd : r2 d 4 = d + 14 := by rw [g1 d (by omega)]; exact d13
      have rt : r2 (s + 14) = r (s + 14) := g1 _ (by omega)
      rw [rs, rd, nI_clamp (by omega), nI_1, rt]
      refine ⟨fun q => absurd q (nI_ge (b := 6) (by omega) (by decide)), fun _ => ⟨s1, z_kin s8 (by omega) (by decide), z_kin d8 (by omega) (by decide), hel j (by omega), fun r3 f3 => ih (j + 1) r3 i2 (by omega) (fun b hb => by rw [f3, kw_st_offF hb]; exact g1 b hb) (fun j' hj' => ?_) g3 g4 g5 g6 g7⟩⟩
      rw [f3, kw_st_row]
      by_cases q : j' = j
      · rw [if_pos q, q]
      · rw [if_neg q]
        exact g2 j' (by omega)
  -- the pictures
  have pics : ∀ (e q : Nat) (i2 : kw_I), q + e = 3 → (∀ b, (b < d + 2 ∨ d + 13 < b) → i2 b = i b) → (∀ j v, j < 6 → v < 10 → i2 (d + 2 + j) v = i (s + 2 + j) v) → (∀ q' c, q' < q → c < 36 → i2 (d + 9 + q') c = i (s + 9 + q') c) → w_X6_copyFrom_35 d s T n w Q (e + 1) (nI q) r i2 := by
    intro e
    induction e with
    | zero =>
      intro q i2 he g1 g2 g3
      have : q = 3 := by omega
      subst this
      show s_X6_copyFrom_35 d s T n w Q _ (nI 3) r i2
      unfold s_X6_copyFrom_35
      rw [s11, d11, s12, d12]
      refine ⟨fun _ => ⟨s1, z_cpo s6 d6 rfl (by decide), fun i3 e3 => ⟨z_cpo s7 d7 rfl (by decide), fun i4 e4 => ⟨7, ?_⟩⟩⟩, fun q => absurd (by decide) q⟩
      have e3' : i3 = kw_cpy i2 (s + 12) (d + 12) 0 0 8 := e3
      have e4' : i4 = kw_cpy i3 (s + 13) (d + 13) 0 0 2 := e4
      have o4 : ∀ b, b ≠ d + 12 → b ≠ d + 13 → i4 b = i2 b := fun b b1 b2 => by rw [e4', z_cpy_off b2, e3', z_cpy_off b1]
      refine texts 6 0 r i4 (by omega) (fun _ _ => rfl) (fun j' hj' => absurd hj' (Nat.not_lt_zero j')) (fun b hb => by rw [o4 b (by omega) (by omega)]; exact g1 b (by omega)) (fun j v hj hv => by rw [o4 _ (by omega) (by omega)]; exact g2 j v hj hv) (fun q c hq hc => by rw [o4 _ (by omega) (by omega)]; exact g3 q c hq hc) (fun c hc => ?_) (fun t ht => ?_)
      · rw [e4', z_cpy_off (by omega), e3', z_cpy_row hc, g1 _ (by omega)]
      · rw [e4', z_cpy_row ht, e3', z_cpy_off (by omega), g1 _ (by omega)]
    | succ e ih =>
      intro q i2 he g1 g2 g3
      show s_X6_copyFrom_35 d s T n w Q _ (nI q) r i2
      unfold s_X6_copyFrom_35
      rw [s10, d10, nI_clamp (by omega), nI_1, (s5 q (by omega)).2, (d5 q (by omega)).2]
      refine ⟨fun q => absurd q (nI_ge (b := 3) (by omega) (by decide)), fun _ => ⟨s1, z_kin s4 (by omega) (by decide), z_kin d4 (by omega) (by decide), z_cpo (s5 q (by omega)).1 (d5 q (by omega)).1 rfl (by decide), fun i3 e3 => ?_⟩⟩
      have e3' : i3 = kw_cpy i2 (s + 9 + q) (d + 9 + q) 0 0 36 := e3
      have o3 : ∀ b, b ≠ d + 9 + q → i3 b = i2 b := fun b hb => by rw [e3', z_cpy_off hb]
      refine ih (q + 1) i3 (by omega) (fun b hb => by rw [o3 b (by omega)]; exact g1 b hb) (fun j v hj hv => by rw [o3 _ (by omega)]; exact g2 j v hj hv) (fun q' c hq' hc => ?_)
      by_cases y : q' = q
      · rw [y, e3', z_cpy_row hc, g1 _ (by omega)]
      · rw [o3 _ (by omega)]
        exact g3 q' c (by omega) hc
  -- the traits
  have traits : ∀ (e j : Nat) (i2 : kw_I), j + e = 6 → (∀ b, (b < d + 2 ∨ d + 13 < b) → i2 b = i b) → (∀ j' v, j' < j → v < 10 → i2 (d + 2 + j') v = i (s + 2 + j') v) → w_X6_copyFrom_2 d s T n w Q (e + 1) (nI j) r i2 := by
    intro e
    induction e with
    | zero =>
      intro j i2 he g1 g2
      have : j = 6 := by omega
      subst this
      exact ⟨fun _ => ⟨4, pics 3 0 i2 (by omega) g1 g2 (fun q' c hq' => absurd hq' (Nat.not_lt_zero q'))⟩, fun q => absurd (by decide) q⟩
    | succ e ih =>
      intro j i2 he g1 g2
      show s_X6_copyFrom_2 d s T n w Q _ (nI j) r i2
      unfold s_X6_copyFrom_2
      rw [s9, d9, nI_clamp (by omega), nI_1, (s3 j (by omega)).2, (d3 j (by omega)).2]
      refine ⟨fun q => absurd q (nI_ge (b := 6) (by omega) (by decide)), fun _ => ⟨s1, z_kin s2 (by omega) (by decide), z_kin d2 (by omega) (by decide), z_cpo (s3 j (by omega)).1 (d3 j (by omega)).1 rfl (by decide), fun i3 e3 => ?_⟩⟩
      have e3' : i3 = kw_cpy i2 (s + 2 + j) (d + 2 + j) 0 0 10 := e3
      have o3 : ∀ b, b ≠ d + 2 + j → i3 b = i2 b := fun b hb => by rw [e3', z_cpy_off hb]
      refine ih (j + 1) i3 (by omega) (fun b hb => by rw [o3 b (by omega)]; exact g1 b hb) (fun j' v hj' hv => ?_)
      by_cases y : j' = j
      · rw [y, e3', z_cpy_row hv, g1 _ (by omega)]
      · rw [o3 _ (by omega)]
        exact g2 j' v (by omega) hv
  exact ⟨7, traits 6 0 i (by omega) (fun _ _ => rfl) (fun j' v hj' => absurd hj' (Nat.not_lt_zero j'))⟩
end ZCP
/-- laws in another memory -/
theorem z_laws_mv {T T' : kw_T} {n n' : Nat} {r r' : kw_R} {i i' : kw_I} {ro ro' : Nat → Nat} {K K' : Nat → Int32} (h : z_laws T n r i ro K) (hn : n ≤ n') (hT : ∀ b, b < n → T' b = T b) (hro : ∀ j, j < 6 → ro' j = ro j) (hr : ∀ b, 103 ≤ b → b < n → T b = (0, 1) → r' b = r b) (hi : ∀ a b, 103 ≤ a → a + 2 < n → T a = (0, 1) → (T (a + 1)).1 = 1 → (T (a + 2)).1 = 1 → a ≤ b → b ≤ a + 2 → i' b = i b) (hK : ∀ k, 179 ≤ k → k < 4987 → K' k = K k) : z_laws T' n' r' i' ro' K' := by
  obtain ⟨h1, nl, h2, h3, h4, h5⟩ := h
  refine ⟨fun j hj => ?_, nl, h2, by rw [hK 179 (by decide) (by decide)]; exact h3, by rw [hK 180 (by decide) (by decide)]; exact h4, fun j hj => ?_⟩
  · obtain ⟨a, b⟩ := h1 j hj
    rw [hro j hj]
    refine ⟨?_, by omega⟩
    rcases a with a | a
    · exact Or.inl a
    · right
      rw [hT _ b]
      exact a
  · obtain ⟨g1, L, g2, g3⟩ := h5 j hj
    rw [hro j (by omega)]
    have ⟨g20, cd, st, hl, _⟩ := g2
    obtain ⟨l1, l2, l3, l4, l5, l6, ⟨m, l7, l8⟩, l9⟩ := hl
    refine ⟨by omega, L, z_lw_eq g2 (fun b b1 b2 => hT b (by omega)) (hr _ g20 (by omega) l1) (fun b b1 b2 => hi _ b g20 g1 l1 (by rw [l6]) (by rw [l7]) b1 b2), ?_⟩
    have hs := g3.choose_spec.choose_spec.choose_spec.1
    obtain ⟨sz, tk, vl, t1, t2, t3, t4⟩ := g3
    refine ⟨sz, tk, vl, t1, by rw [hK _ (by omega) (by omega)]; exact t2, fun p hp => ?_, t4⟩
    rw [hK _ (by omega) (by omega), hK _ (by omega) (by omega)]
    exact t3 p hp
theorem z_Kr_eq {K K' : Nat → Int32} {nv : Nat} (h : z_Kr K nv) (hK : ∀ k, k < 179 → K' k = K k) : z_Kr K' nv := by
  obtain ⟨h1, h2, h3, h4, h5, h6, h7⟩ := h
  refine ⟨h1, by rw [hK _ (by decide)]; exact h2, fun v hv => ?_, fun q c hq hc => by rw [hK _ (by omega)]; exact h4 q c hq hc, fun c hc => by rw [hK _ (by omega)]; exact h5 c hc, by rw [hK _ (by decide)]; exact h6, by rw [hK _ (by decide)]; exact h7⟩
  have := h3 v hv
  rw [hK _ (by omega), hK _ (by omega), hK _ (by omega), hK _ (by omega), hK _ (by omega), hK _ (by omega)]
  exact this
theorem z_C30 : lw_C30 z_Inv := by
  intro T n r i w x h hn
  have hS := h.1
  have hb := z_B_iff (x := x) (m := 2) (by decide)
  have no : ¬ z_B x 2 → w_X9_back_9 1 x T n w (fun v r1 i1 => T 84 = (0, 10) ∧ w_X10_back 84 x T n r1 i1 w (fun v2 i2 => v = v2 ∧ lw_N z_Inv n T n r1 i2 w)) r i := by
    intro hq
    exact z_refb h z_rf1 (m10 := fun i1 Q => w_X10_back 84 x T n r i1 w Q) (fun i1 Q o hQ => z_lies (m := 1) (by decide) (fun a => absurd a hq) (fun _ => z_f2 (z_ref10e hS z_rf1 hQ)))
  unfold w_X9_back
  rw [z_r1_1 hS, z_r1_0 hS]
  refine ⟨fun c => no (fun z => (hb.mp z).1 c), fun c => ⟨fun c2 => ?_, fun c2 => no (fun z => c2 (hb.mp z).2)⟩⟩
  have hB : z_B x 2 := hb.mpr ⟨c, c2⟩
  have hB0 := hB
  obtain ⟨k, hk, rfl⟩ := hB
  rw [nI_clamp (by omega)]
  obtain ⟨im1, im2, im3⟩ := h.2.2.2.1.1 k hk
  have k17 : kw_in T 6 17 (nI k) := z_kin (z_T17 hS) hk (by decide)
  have k88 : kw_in T 3 88 (nI k) := z_kin (z_T88 hS) hk (by decide)
  refine ⟨k17, fun e0 => ?_, fun e0 => ⟨k17, z_T2 hS, ?_⟩⟩
  · have e88 : i 88 k = 0 := by
      by_cases q : i 88 k = 0
      · exact q
      · have := (im3 q).1
        omega
    refine z_refb h z_rf2 (m10 := fun i1 Q => w_X10_back 84 (nI k) T n r i1 w Q) (fun i1 Q o hQ => z_lies (m := 1) (by decide) (fun _ => z_t2 ?_) (fun q => absurd hB0 q))
    rw [z_r84_4 hS, nI_clamp (by omega), o 88 (by decide) (by decide), e88]
    exact ⟨k88, fun q => absurd rfl q, fun _ => z_ref10e hS z_rf2 hQ⟩
  · have e88 : i 88 k ≠ 0 := fun q => e0 (im2 q)
    obtain ⟨a1, a2, a3, a4, a5, a6⟩ := im3 e88
    refine z_copyFrom (z_sh_2 hS) a3 (by omega) (fun j hj => (a6.1 j hj).1) fun r2 i2 q1 q2 q3 i3 e3 i4 e4 => ⟨z_T84 hS, z_lies (m := 1) (by decide) (fun _ => z_t2 ?_) (fun q => absurd hB0 q)⟩
    have hS2 : z_S T r2 := z_S_eq hS (fun a k _ _ _ h16 _ => by rw [q1 a h16])
    have o4 : ∀ b, b ≠ 1 → (b < 2 ∨ 15 < b) → i4 b = i b := fun b b1 b2 => by rw [e4, kw_st_offF b1, e3, kw_st_offF b1, q3.1 b (by omega)]
    rw [z_r84_4 hS2, nI_clamp (by omega), o4 88 (by decide) (by decide)]
    refine ⟨k88, fun _ => ⟨4988, ?_⟩, fun q => absurd q e88⟩
    -- the reference
    have loop : ∀ (d p : Nat) (m : kw_I), p + d = 4987 → z_io 86 i4 m → (∀ p', p' < p → m 86 p' = z_iK i k p') → w_X10_back_33 84 (nI k) T n r2 w (fun v2 i2 => (0 : Int32) = v2 ∧ lw_N z_Inv n T n r2 i2 w) (d + 1) (nI p) m := by
      intro d
      induction d with
      | zero =>
        intro p m hd g1 g2
        have : p = 4987 := by omega
        subst this
        refine ⟨fun _ m2 f2 => ⟨rfl, ?_, by omega⟩, fun q => absurd (by decide) q⟩
        have o5 : ∀ b, b ≠ 84 → b ≠ 86 → m2 b = i4 b := fun b b1 b2 => by rw [f2, kw_st_offF b1, g1 b b2]
        have o6 : ∀ b, b ≠ 1 → (b < 2 ∨ 15 < b) → b ≠ 84 → b ≠ 86 → m2 b = i b := fun b b1 b2 b3 b4 => by rw [o5 b b3 b4, o4 b b1 b2]
        have n86 : ∀ p, p < 4987 → m2 86 p = z_iK i k p := fun p hp => by rw [f2, kw_st_off (by decide)]; exact g2 p hp
        have p84 : ∀ f, f ≠ 0 → m2 84 f = i 84 f := fun f hf => by rw [f2, kw_st_row, if_neg hf, g1 84 (by decide), o4 84 (by decide) (by decide)]
        have p1 : ∀ f, f ≠ 9 → f ≠ 12 → m2 1 f = i 1 f := fun f f1 f2' => by rw [o5 1 (by decide) (by decide), e4, kw_st_row, if_neg f1, e3, kw_st_row, if_neg f2', q3.1 1 (by omega)]
        have hd : ∀ b, 103 ≤ b → m2 b = i b := fun b hb => o6 b (by omega) (by omega) (by omega) (by omega)
        have rr : ∀ b, 103 ≤ b → r2 b = r b := fun b hb => q1 b (by omega)
        have now : z_now T n r2 m2 := by
          refine ⟨?_, ?_, ?_⟩
          · have s2 : z_SK i2 2 (z_iK i k) := z_SK_cpd a4 q3
            refine z_SK_eq s2 ⟨?_, ?_, ?_⟩ (fun b b1 b2 => ?_) (fun p hp => n86 p (by omega))
            · rw [o5 2 (by decide) (by decide), e4, kw_st_off (by decide), e3, kw_st_off (by decide)]
            · rw [o5 2 (by decide) (by decide), e4, kw_st_off (by decide), e3, kw_st_off (by decide)]
            · rw [o5 2 (by decide) (by decide), e4, kw_st_off (by decide), e3, kw_st_off (by decide)]
            · rw [o5 b (by omega) (by omega), e4, kw_st_offF (by omega), e3, kw_st_offF (by omega)]
          · obtain ⟨nv, hK⟩ := a5
            exact ⟨nv, z_Kr_eq hK (fun p hp => n86 p (by omega))⟩
          · exact z_laws_mv a6 (Nat.le_refl _) (fun _ _ => rfl) q2 (fun b hb _ _ => rr b hb) (fun a b ha _ _ _ _ h1 _ => hd b (by omega)) (fun p _ hp => n86 p hp)
        obtain ⟨c1, c2, c3, c4, c5, c6, c7, c8, c9, c10⟩ := h
        refine ⟨hS2, c2, now, z_im_r (z_im_eq c4 (o6 87 (by decide) (by decide) (by decide) (by decide)) (o6 88 (by decide) (by decide) (by decide) (by decide)) hd) (q1 17 (by decide)) rr, ?_, ?_, ?_, ?_, ?_, ?_⟩
        · rw [o6 18 (by decide) (by decide) (by decide) (by decide), o6 19 (by decide) (by decide) (by decide) (by decide), p84 9 (by decide), o6 90 (by decide) (by decide) (by decide) (by decide)]
          exact c5
        · obtain ⟨b1, b2, b3, b4⟩ := c6
          refine ⟨?_, by rw [p1 10 (by decide) (by decide), p84 5 (by decide)]; exact b2, by rw [p1 11 (by decide) (by decide), p84 10 (by decide)]; exact b3, ?_⟩
          · rw [o5 1 (by decide) (by decide), e4, kw_st_same, f2, kw_st_same]
          · rw [o6 83 (by decide) (by decide) (by decide) (by decide), o6 85 (by decide) (by decide) (by decide) (by decide)]
            exact b4
        · obtain ⟨d, d1, d2, d3, d4⟩ := c7
          refine ⟨d, d1, by rw [o6 70 (by decide) (by decide) (by decide) (by decide)]; exact d2, by rw [p84 36 (by decide)]; exact d3, fun v hv => ?_⟩
          rw [o6 82 (by decide) (by decide) (by decide) (by decide), o6 100 (by decide) (by decide) (by decide) (by decide), o6 99 (by decide) (by decide) (by decide) (by decide), o6 (72 + v) (by omega) (by omega) (by omega) (by omega)]
          exact d4 v hv
        · rw [o6 89 (by decide) (by decide) (by decide) (by decide)]; exact c8
        · rw [o6 24 (by decide) (by decide) (by decide) (by decide)]; exact c9
        · intro q
          have e12 : m2 1 12 = 1 := by rw [o5 1 (by decide) (by decide), e4, kw_st_row, if_neg (by decide), e3, kw_st_same]
          rw [e12] at q
          exact absurd q (by decide)
      | succ d ih =>
        intro p m hd g1 g2
        show s_X10_back_33 84 (nI k) T n r2 w _ _ (nI p) m
        unfold s_X10_back_33
        rw [z_r84_3 hS2, z_r84_2 hS2, show (4987 : Int32) * nI k = nI (4987 * k) from pk_mul 4987 k, nI_add, nI_clamp (show p < 2 ^ 31 by omega), nI_clamp (show 4987 * k + p < 2 ^ 31 by omega), nI_1]
        refine ⟨fun q => absurd q (nI_ge (b := 4987) (by omega) (by decide)), fun _ => ⟨z_kin (z_T87 hS2) (by omega) (by decide), z_kin (z_T86 hS2) (by omega) (by decide), fun m2 f2 => ih (p + 1) m2 (by omega) (by rw [f2]; exact z_io_st g1) (fun p' hp' => ?_)⟩⟩
        rw [f2, kw_st_row]
        by_cases q : p' = p
        · rw [if_pos q, q, g1 87 (by decide), o4 87 (by decide) (by decide)]
          rfl
        · rw [if_neg q]
          exact g2 p' (by omega)
    exact loop 4987 0 i4 (by omega) (fun _ _ => rfl) (fun p' hp' => absurd hp' (Nat.not_lt_zero p'))
