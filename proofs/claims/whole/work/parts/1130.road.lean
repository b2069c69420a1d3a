-- THE CLASS'S ROAD
def z_lE (T : kw_T) (r : kw_R) (i : kw_I) (w : kw_L) (nv : Nat) (E : z_E) : Prop := z_loom T r i w nv E.1 E.2.1 E.2.2.2.2.1 ∧ (∀ v, v < nv → i 27 v = E.2.2.1 v) ∧ i 29 8 = E.2.2.2.1 ∧ ∀ v c, E.2.2.2.2.2 v c = none
theorem z_lE_io {T : kw_T} {r : kw_R} {i j : kw_I} {w u : kw_L} {nv : Nat} {E : z_E} (h : z_lE T r i w nv E) (h24 : j 24 = i 24) (h26 : j 26 = i 26) (h27 : j 27 = i 27) (h29 : j 29 8 = i 29 8) (hd : ∀ b, 103 ≤ b → j b = i b) (hu : u 25 = w 25) : z_lE T r j u nv E :=
  ⟨z_loom_io h.1 h24 h26 hd hu, by rw [h27]; exact h.2.1, by rw [h29]; exact h.2.2.1, h.2.2.2⟩
section ZRO
variable {T : kw_T} {n : Nat} {r : kw_R} {i : kw_I} {w : kw_L} {nv v : Nat} {E : z_E}
theorem z_weaveE {sa oa : Nat} {Q : kw_I → kw_L → Prop} (hS : z_S T r) (hE : z_lE T r i w nv E) (hv : v < nv) (hsa : T sa = (1, 36)) (hoa : T oa = (1, 36)) (hne : sa ≠ oa) (hs29 : sa ≠ 29) (ho : 29 < oa ∧ oa < 103)
    (hQ : ∀ (i' : kw_I) (w' : kw_L), (∀ b, b ≠ 29 → b ≠ oa → i' b = i b) → i' 29 8 = i 29 8 → z_wo 28 w w' → (∀ c, c < 36 → i' oa c = z_wv E v (i sa) c) → Q i' w') : w_X2_weave 24 (nI v) sa oa T n r i w Q := by
  obtain ⟨h1, h2, h3, h4⟩ := hE
  refine z_weave hS h1 hv hsa hoa hne hs29 ho fun i' w' a1 a2 a3 a4 => hQ i' w' a1 a2 a3 (z_wv_of (fun c hc => ?_))
  have := a4 c hc
  rw [h2 v hv, h3] at this
  exact z_cv_row (h4 v c) this
theorem z_colE {sa oa c : Nat} {Q : Int32 → kw_I → kw_L → Prop} (hS : z_S T r) (hE : z_lE T r i w nv E) (hv : v < nv) (hc : c < 36) (hsa : T sa = (1, 36)) (hoa : T oa = (1, 36)) (hoa2 : oa ≠ 29)
    (hQ : ∀ (x : Int32) (i' : kw_I) (w' : kw_L), z_io 29 i i' → i' 29 8 = i 29 8 → z_wo 28 w w' → x = z_cv E v c (z_was E v (i sa) c) (z_left (i oa) c) (z_above (i oa) c) → Q x i' w') : w_X2_colourIn 24 (nI v) (nI c) sa oa T n r i w Q := by
  obtain ⟨h1, h2, h3, h4⟩ := hE
  refine z_colL hS h1 hv hc hsa hoa hoa2 fun x i' w' a1 a2 a3 a4 => hQ x i' w' a1 a2 a3 ?_
  rw [h2 v hv, h3] at a4
  exact z_cv_row (h4 v c) a4
def z_E0 (K : Nat → Int32) (L : List z_Sm) : z_E := z_env K L 0 (z_W0 K) z_nofx
noncomputable def z_on (K : Nat → Int32) (L : List z_Sm) (v : Nat) : Nat → Int32 := z_go (z_E0 K L) 0 (fun c => K (60 + c)) v
noncomputable def z_rw (K : Nat → Int32) (L : List z_Sm) (nv v : Nat) : Nat → Int32 := z_bk (z_E0 K L) (fun c => K (96 + c)) nv (nv - v)
/-- what the class keeps of the road -/
def z_rd (T : kw_T) (r : kw_R) (i : kw_I) (w : kw_L) (K : Nat → Int32) (nv : Nat) (L : List z_Sm) : Prop := r 23 3 = 10 ∧ z_lE T r i w nv (z_E0 K L) ∧ i 24 6 = 0 ∧ (∀ v, v < nv → ∀ c, c < 36 → i (31 + v) c = z_on K L (v + 1) c) ∧ (i 23 4 ≠ 0 → ∀ v, v < nv → ∀ c, c < 36 → i (42 + v) c = z_rw K L nv v c)
/-- pictures of the State now -/
def z_pic (i : kw_I) (K : Nat → Int32) : Prop := ∀ q c, q < 3 → c < 36 → i (11 + q) c = K (60 + 36 * q + c)
theorem z_weaveAll {K : Nat → Int32} {L : List z_Sm} {la : Nat} (hS : z_S T r) (hSK : z_SK i 2 K) (hK : z_Kr K nv) (hL : z_inF T r i K L la) (hop : i 24 6 = 0) {Q : kw_R → kw_I → kw_L → Prop}
    (hQ : ∀ i' w', (∀ b, (b < 23 ∨ 40 < b) → i' b = i b) → (∀ f, f ≠ 4 → i' 23 f = i 23 f) → (∀ b, b ≠ 25 → b ≠ 28 → w' b = w b) → z_rd T (kw_st (kw_st r 23 3 10) 24 7 la) i' w' K nv L → i' 23 4 = 0 → Q (kw_st (kw_st r 23 3 10) 24 7 la) i' w') : w_X5_weaveAll 23 2 T n r i w Q := by
  have hn := hK.1
  refine ⟨z_T2 hS, fun r5 e5 i10 e10 => ?_⟩
  rw [z_r2_1 hS] at e5
  have hS5 : z_S T r5 := z_S_eq hS (fun a k h1 h2 _ _ _ => by
    rw [e5]
    by_cases q : a = 23
    · subst q
      rw [kw_st_row, if_neg (fun e => h1 (by rw [e]))]
    · rw [kw_st_off q])
  rw [z_r23_0 hS5]
  have o10 : z_io 23 i i10 := by rw [e10]; exact z_io_st (fun _ _ => rfl)
  have hSK10 : z_SK i10 2 K := by
    obtain ⟨a1, a2, a3, a4, a5, a6, a7⟩ := hSK
    refine ⟨fun j v hj hv => ?_, fun q c hq hc => ?_, fun c hc => ?_, fun t ht => ?_, ?_, ?_, ?_⟩
    · rw [o10 _ (by omega)]; exact a1 j v hj hv
    · rw [o10 _ (by omega)]; exact a2 q c hq hc
    · rw [o10 _ (by omega)]; exact a3 c hc
    · rw [o10 _ (by omega)]; exact a4 t ht
    · rw [o10 _ (by omega)]; exact a5
    · rw [o10 _ (by omega)]; exact a6
    · rw [o10 _ (by omega)]; exact a7
  have hL10 : z_inF T r5 i10 K L la := by
    rcases hL with h | ⟨j, nl, b1, b2, b3, b4, b5, b6⟩
    · exact Or.inl h
    · have := b6.1
      exact Or.inr ⟨j, nl, b1, b2, b3, b4, by rw [b5, e5, kw_st_off (by decide)], z_lw_eq b6 (fun _ _ _ => rfl) (by rw [e5, kw_st_offF (by omega)]) (fun b c1 c2 => o10 b (by omega))⟩
  refine ⟨z_T24 hS, z_setUp hS5 hSK10 hK hL10 (by rw [o10 24 (by decide)]; exact hop) fun i18 w18 g1 g2 g3 g4 g5 g6 => ?_⟩
  rw [e5] at g4 hS5 ⊢
  have hS18 : z_S T (kw_st (kw_st r 23 3 10) 24 7 la) := z_S_eq hS5 (fun a k h1 h2 _ _ _ => by
    by_cases q : a = 24
    · subst q
      rw [kw_st_row, if_neg (fun e => h2 (by rw [e]))]
    · rw [kw_st_off q])
  have r233 : kw_st (kw_st r 23 3 10) 24 7 la 23 3 = 10 := by rw [kw_st_off (by decide), kw_st_same]
  have r10 : kw_st (kw_st r 23 3 10) 24 7 la 10 ((0 : Int32)).toNatClampNeg = 11 := z_r10_0 hS18
  rw [r233, r10]
  have hE18 : z_lE T (kw_st (kw_st r 23 3 10) 24 7 la) i18 w18 nv (z_E0 K L) := by
    refine ⟨?_, g5, g6, fun _ _ => rfl⟩
    obtain ⟨q1, q2, q3, q4, q5⟩ := g4
    refine ⟨q1, q2, q3, fun v c hv hc => ?_, q5⟩
    rw [q4 v c hv hc]
    show _ ↔ (Nat.testBit 0 v || z_see0 K v c) = true
    rw [Nat.zero_testBit, Bool.false_or]
  have e234 : i18 23 4 = 0 := by rw [g1 23 (by decide) (by decide) (by decide) (by decide), e10, kw_st_same]
  refine ⟨z_kin (k := 0) (z_T10 hS) (by decide) (by decide), ?_⟩
  generalize hr : kw_st (kw_st r 23 3 10) 24 7 la = r' at *
  have loop : ∀ (d v sa : Nat) (j : kw_I) (u : kw_L), v + d = nv → (sa = if v = 0 then 11 else 30 + v) → (∀ b, b ≠ 29 → (b < 31 ∨ 40 < b) → j b = i18 b) → j 29 8 = i18 29 8 → z_wo 28 w18 u → (∀ v', v' < v → ∀ c, c < 36 → j (31 + v') c = z_on K L (v' + 1) c) → w_X5_weaveAll_30 23 2 T n Q (d + 1) sa (nI v) r' j u := by
    intro d
    induction d with
    | zero =>
      intro v sa j u hd hsa h1 h2 h3 h4
      have : v = nv := by omega
      subst this
      unfold w_X5_weaveAll_30 s_X5_weaveAll_30
      rw [z_r23_0 hS18]
      refine ⟨z_T24 hS, fun _ => ?_, fun h => absurd (by rw [h1 24 (by decide) (by decide), g4.1]; exact nI_le (Nat.le_refl _) (by omega)) h⟩
      refine hQ j u (fun b hb => ?_) (fun f hf => ?_) (fun b b1 b2 => ?_) ⟨r233, ?_, ?_, h4, fun q => absurd ?_ q⟩ ?_
      · rw [h1 b (by omega) (by omega), g1 b (by omega) (by omega) (by omega) (by omega), o10 b (by omega)]
      · rw [h1 23 (by decide) (by decide), g1 23 (by decide) (by decide) (by decide) (by decide), e10, kw_st_row, if_neg hf]
      · rw [h3 b b2, g3 b b1]
      · exact z_lE_io hE18 (h1 24 (by decide) (by decide)) (h1 26 (by decide) (by decide)) (h1 27 (by decide) (by decide)) h2 (fun b hb => h1 b (by omega) (by omega)) (h3 25 (by decide))
      · rw [h1 24 (by decide) (by decide)]
        exact g2
      · rw [h1 23 (by decide) (by decide)]
        exact e234
      · rw [h1 23 (by decide) (by decide)]
        exact e234
    | succ d ih =>
      intro v sa j u hd hsa h1 h2 h3 h4
      unfold w_X5_weaveAll_30 s_X5_weaveAll_30
      have hEj : z_lE T r' j u nv (z_E0 K L) := z_lE_io hE18 (h1 24 (by decide) (by decide)) (h1 26 (by decide) (by decide)) (h1 27 (by decide) (by decide)) h2 (fun b hb => h1 b (by omega) (by omega)) (h3 25 (by decide))
      rw [z_r23_0 hS18, z_r23_1 hS18, nI_clamp (by omega), z_rorow hS18 (by omega)]
      have k30 : kw_in T 5 30 (nI v) := z_kin (z_T30 hS) (by omega) (by decide)
      refine ⟨z_T24 hS, fun h => absurd h (by rw [hEj.1.1]; exact nI_ge (by omega) (by omega)), fun _ => ⟨k30, ?_⟩⟩
      have hTsa : T sa = (1, 36) := by
        rw [hsa]
        by_cases q : v = 0
        · rw [if_pos q]
          exact z_T11 hS
        · rw [if_neg q, show 30 + v = 31 + (v - 1) by omega]
          exact z_Torow hS (by omega)
      have hsrc : ∀ c, c < 36 → j sa c = z_on K L v c := by
        intro c hc
        rw [hsa]
        by_cases q : v = 0
        · rw [if_pos q, h1 11 (by decide) (by decide), g1 11 (by decide) (by decide) (by decide) (by decide), q]
          exact hSK10.2.1 0 c (by decide) hc
        · rw [if_neg q, show 30 + v = 31 + (v - 1) by omega, h4 (v - 1) (by omega) c hc, show v - 1 + 1 = v by omega]
      refine z_weaveE hS18 hEj (by omega) hTsa (z_Torow hS (by omega)) (by rw [hsa]; by_cases q : v = 0 <;> simp [q] <;> omega) (by rw [hsa]; by_cases q : v = 0 <;> simp [q] <;> omega) (by omega) fun j2 u2 a1 a2 a3 a4 => ⟨k30, ?_⟩
      rw [nI_1]
      refine ih (v + 1) (31 + v) j2 u2 (by omega) (by rw [if_neg (by omega)]; omega) (fun b b1 b2 => ?_) ?_ (fun b hb => (a3 b hb).trans (h3 b hb)) (fun v' hv' c hc => ?_)
      · rw [a1 b b1 (by omega)]
        exact h1 b b1 b2
      · rw [a2]
        exact h2
      · rcases Nat.lt_or_ge v' v with q | q
        · rw [a1 _ (by omega) (by omega)]
          exact h4 v' q c hc
        · have : v' = v := by omega
          subst this
          rw [a4 c hc]
          show _ = z_wv (z_E0 K L) (0 + v') (z_on K L v') c
          rw [Nat.zero_add]
          exact z_wv_eq hsrc c hc
  exact ⟨nv + 1, loop nv 0 11 i18 w18 (by omega) rfl (fun _ _ _ => rfl) rfl (fun _ _ => rfl) (fun v' hv' => absurd hv' (Nat.not_lt_zero v'))⟩
end ZRO
