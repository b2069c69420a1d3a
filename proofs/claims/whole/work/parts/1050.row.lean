-- ROWS THAT ARE WOVEN
/-- x is what is woven in a cell -/
def z_cell (W : Nat) (wi : (Nat → Int32) → Int64 → Int64) (v c : Nat) (was left above ta yr x : Int32) : Prop := ∃ col, x = nI col ∧ z_Nr W (wi (z_ask v c was left above ta yr) (if was = -1 then ta.toInt64 else was.toInt64)).toInt col
theorem z_cell_one {W : Nat} {wi : (Nat → Int32) → Int64 → Int64} {v c : Nat} {was left above ta yr x y : Int32} (h : z_cell W wi v c was left above ta yr x) (h' : z_cell W wi v c was left above ta yr y) : x = y := by
  obtain ⟨a, rfl, ha⟩ := h
  obtain ⟨b, rfl, hb⟩ := h'
  rw [z_Nr_one ha hb]
theorem z_cell_B {W : Nat} {wi : (Nat → Int32) → Int64 → Int64} {v c : Nat} {was left above ta yr x : Int32} (h : z_cell W wi v c was left above ta yr x) : z_B x 8 := by
  obtain ⟨a, rfl, ha⟩ := h
  exact ⟨a, ha.1, rfl⟩
def z_left (g : Nat → Int32) (c : Nat) : Int32 := if c % 6 = 0 then -1 else g (c - 1)
def z_above (g : Nat → Int32) (c : Nat) : Int32 := if c < 6 then -1 else g (c - 6)
/-- g is what is woven by one who sees f -/
def z_row (W : Nat) (wi : (Nat → Int32) → Int64 → Int64) (v : Nat) (see : Nat → Bool) (ta yr : Int32) (f g : Nat → Int32) (m : Nat) : Prop := ∀ c, c < m → z_cell W wi v c (if see c = true then f c else -1) (z_left g c) (z_above g c) ta yr (g c)
theorem z_row_one {W : Nat} {wi : (Nat → Int32) → Int64 → Int64} {v : Nat} {see : Nat → Bool} {ta yr : Int32} {f f' g g' : Nat → Int32} {m : Nat} (h : z_row W wi v see ta yr f g m) (h' : z_row W wi v see ta yr f' g' m) (hf : ∀ c, c < m → see c = true → f c = f' c) : ∀ c, c < m → g c = g' c := by
  intro c
  induction c using Nat.strongRecOn with
  | ind c ih =>
    intro hc
    have a := h c hc
    have b := h' c hc
    have e1 : z_left g c = z_left g' c := by
      unfold z_left
      by_cases q : c % 6 = 0
      · rw [if_pos q, if_pos q]
      · rw [if_neg q, if_neg q, ih (c - 1) (by omega) (by omega)]
    have e2 : z_above g c = z_above g' c := by
      unfold z_above
      by_cases q : c < 6
      · rw [if_pos q, if_pos q]
      · rw [if_neg q, if_neg q, ih (c - 6) (by omega) (by omega)]
    have e3 : (if see c = true then f c else -1) = (if see c = true then f' c else -1) := by
      by_cases q : see c = true
      · rw [if_pos q, if_pos q, hf c hc q]
      · rw [if_neg q, if_neg q]
    rw [e1, e2, e3] at a
    exact z_cell_one a b
/-- a row stays woven where another row has its numbers -/
theorem z_row_eq {W : Nat} {wi : (Nat → Int32) → Int64 → Int64} {v : Nat} {see : Nat → Bool} {ta yr : Int32} {f f' g g' : Nat → Int32} {m : Nat} (h : z_row W wi v see ta yr f g m) (hf : ∀ c, c < m → f c = f' c) (hg : ∀ c, c < m → g c = g' c) : z_row W wi v see ta yr f' g' m := by
  intro c hc
  have a := h c hc
  have e1 : z_left g c = z_left g' c := by
    unfold z_left
    by_cases q : c % 6 = 0
    · rw [if_pos q, if_pos q]
    · rw [if_neg q, if_neg q, hg (c - 1) (by omega)]
  have e2 : z_above g c = z_above g' c := by
    unfold z_above
    by_cases q : c < 6
    · rw [if_pos q, if_pos q]
    · rw [if_neg q, if_neg q, hg (c - 6) (by omega)]
  rw [e1, e2, hf c hc, hg c hc] at a
  exact a
/-- what the loom's cells stand for -/
def z_loom (T : kw_T) (r : kw_R) (i : kw_I) (w : kw_L) (nv : Nat) (W : Nat → Nat) (see : Nat → Nat → Bool) (wi : (Nat → Int32) → Int64 → Int64) : Prop :=
  i 24 5 = nI nv ∧ nv ≤ 10 ∧ (∀ v, v < nv → W v < 256 ∧ (∃ c, c < 8 ∧ (W v).testBit c = true) ∧ i 26 v = nI (W v)) ∧ (∀ v c, v < nv → c < 36 → (z_seesC i w v c ↔ see v c = true)) ∧ ∃ (cd st : Nat → Nat) (nc : Nat), (r 24 7 ≠ 0 → z_law T r i (r 24 7) cd st nc ∧ 103 ≤ r 24 7) ∧ ∀ ask d, z_wishC (r 24 7) cd st nc ask d = wi ask d
theorem z_loom_io {T : kw_T} {r : kw_R} {i j : kw_I} {w u : kw_L} {nv : Nat} {W : Nat → Nat} {see : Nat → Nat → Bool} {wi : (Nat → Int32) → Int64 → Int64} (h : z_loom T r i w nv W see wi) (h24 : j 24 = i 24) (h26 : j 26 = i 26) (hd : ∀ b, 103 ≤ b → j b = i b) (hu : u 25 = w 25) : z_loom T r j u nv W see wi := by
  obtain ⟨h1, h2, h3, h4, cd, st, nc, h5, h6⟩ := h
  refine ⟨by rw [h24]; exact h1, h2, fun v hv => by rw [h26]; exact h3 v hv, fun v c hv hc => by unfold z_seesC; rw [h24, hu]; exact h4 v c hv hc, cd, st, nc, fun h => ?_, h6⟩
  obtain ⟨⟨g1, g2, g3, g4, g5, g6, ⟨m, g7, g8, g9, g10⟩, g11⟩, g12⟩ := h5 h
  exact ⟨⟨g1, g2, g3, g4, by rw [hd _ g12]; exact g5, g6, ⟨m, g7, g8, by rw [hd _ (by omega)]; exact g9, g10⟩, by rw [hd _ (by omega)]; exact g11⟩, g12⟩
section ZWV
variable {T : kw_T} {n : Nat} {r : kw_R} {i : kw_I} {w : kw_L} {nv : Nat} {W : Nat → Nat} {see : Nat → Nat → Bool} {wi : (Nat → Int32) → Int64 → Int64} {sa oa v : Nat}
/-- a cell of a village by the loom -/
theorem z_colL {Q : Int32 → kw_I → kw_L → Prop} (hS : z_S T r) (hL : z_loom T r i w nv W see wi) (hv : v < nv) {c : Nat} (hc : c < 36) (hsa : T sa = (1, 36)) (hoa : T oa = (1, 36)) (hoa2 : oa ≠ 29)
    (hQ : ∀ (x : Int32) (i' : kw_I) (w' : kw_L), z_io 29 i i' → i' 29 8 = i 29 8 → z_wo 28 w w' → z_cell (W v) wi v c (if see v c = true then i sa c else -1) (z_left (i oa) c) (z_above (i oa) c) (i 27 v) (i 29 8) x → Q x i' w') : w_X2_colourIn 24 (nI v) (nI c) sa oa T n r i w Q := by
  obtain ⟨h1, h2, h3, h4, cd, st, nc, h5, h6⟩ := hL
  obtain ⟨g1, g2, g3⟩ := h3 v hv
  refine z_colourIn (was := if see v c = true then i sa c else -1) hS (by omega) hc g1 g2 g3 rfl h5 hsa hoa hoa2 (fun q => ?_) (fun q => ?_) ?_
  · rw [if_pos ((h4 v c hv hc).mp q)]
  · rw [if_neg (fun z => q ((h4 v c hv hc).mpr z))]
  · intro col i' w' a1 a2 a3 a4
    rw [h6] at a4
    exact hQ _ i' w' a1 a2 a3 ⟨col, rfl, a4⟩
theorem z_weave_loop {Q : kw_I → kw_L → Prop} (hS : z_S T r) (hL : z_loom T r i w nv W see wi) (hv : v < nv) (hsa : T sa = (1, 36)) (hoa : T oa = (1, 36)) (hne : sa ≠ oa) (hs29 : sa ≠ 29) (ho : 29 < oa ∧ oa < 103)
    (hQ : ∀ (i' : kw_I) (w' : kw_L), (∀ b, b ≠ 29 → b ≠ oa → i' b = i b) → i' 29 8 = i 29 8 → z_wo 28 w w' → z_row (W v) wi v (see v) (i 27 v) (i 29 8) (i sa) (i' oa) 36 → Q i' w') :
    ∀ (k c : Nat) (j : kw_I) (u : kw_L), c + k = 36 → (∀ b, b ≠ 29 → b ≠ oa → j b = i b) → j 29 8 = i 29 8 → z_wo 28 w u → z_row (W v) wi v (see v) (i 27 v) (i 29 8) (i sa) (j oa) c → w_X2_weave_3 24 (nI v) sa oa T n r Q (k + 1) (nI c) j u := by
  intro k
  induction k with
  | zero =>
    intro c j u hc h1 h2 h3 h4
    have : c = 36 := by omega
    subst this
    exact ⟨fun _ => hQ j u h1 h2 h3 h4, fun h => absurd (by decide) h⟩
  | succ k ih =>
    intro c j u hc h1 h2 h3 h4
    refine ⟨fun h => absurd h (nI_ge (a := c) (b := 36) (by omega) (by decide)), fun _ => ?_⟩
    have hL2 : z_loom T r j u nv W see wi := z_loom_io hL (h1 24 (by decide) (by omega)) (h1 26 (by decide) (by omega)) (fun b hb => h1 b (by omega) (by omega)) (h3 25 (by decide))
    refine z_colL hS hL2 hv (by omega) hsa hoa (by omega) fun x i' w' a1 a2 a3 a4 => ?_
    refine ⟨z_kin hoa (by omega) (by decide), fun i2 e2 => ?_⟩
    rw [nI_clamp (by omega)] at e2
    show w_X2_weave_3 24 (nI v) sa oa T n r Q (k + 1) (nI c + 1) i2 w'
    rw [nI_1]
    have eo : i' oa = j oa := a1 oa (by omega)
    refine ih (c + 1) i2 w' (by omega) (fun b b1 b2 => ?_) ?_ (fun b hb => (a3 b hb).trans (h3 b hb)) ?_
    · rw [e2, kw_st_offF b2, a1 b b1]
      exact h1 b b1 b2
    · rw [e2, kw_st_offF (by omega), a2]
      exact h2
    · have row : ∀ d, i2 oa d = if d = c then x else j oa d := by
        intro d
        rw [e2, kw_st_row, eo]
      intro d hd
      have el : z_left (i2 oa) d = z_left (j oa) d := by
        unfold z_left
        by_cases q : d % 6 = 0
        · rw [if_pos q, if_pos q]
        · rw [if_neg q, if_neg q, row, if_neg (by omega)]
      have ea : z_above (i2 oa) d = z_above (j oa) d := by
        unfold z_above
        by_cases q : d < 6
        · rw [if_pos q, if_pos q]
        · rw [if_neg q, if_neg q, row, if_neg (by omega)]
      rcases Nat.lt_or_ge d c with q | q
      · have er : i2 oa d = j oa d := by rw [row, if_neg (by omega)]
        rw [el, ea, er]
        exact h4 d q
      · have : d = c := by omega
        subst this
        have er : i2 oa d = x := by rw [row, if_pos rfl]
        rw [el, ea, er]
        rw [h1 sa hs29 hne, h1 27 (by decide) (by omega), h2] at a4
        exact a4
theorem z_weave {Q : kw_I → kw_L → Prop} (hS : z_S T r) (hL : z_loom T r i w nv W see wi) (hv : v < nv) (hsa : T sa = (1, 36)) (hoa : T oa = (1, 36)) (hne : sa ≠ oa) (hs29 : sa ≠ 29) (ho : 29 < oa ∧ oa < 103)
    (hQ : ∀ (i' : kw_I) (w' : kw_L), (∀ b, b ≠ 29 → b ≠ oa → i' b = i b) → i' 29 8 = i 29 8 → z_wo 28 w w' → z_row (W v) wi v (see v) (i 27 v) (i 29 8) (i sa) (i' oa) 36 → Q i' w') : w_X2_weave 24 (nI v) sa oa T n r i w Q :=
  ⟨37, z_weave_loop hS hL hv hsa hoa hne hs29 ho hQ 36 0 i w rfl (fun _ _ _ => rfl) rfl (fun _ _ => rfl) (fun c hc => absurd hc (Nat.not_lt_zero c))⟩
end ZWV
