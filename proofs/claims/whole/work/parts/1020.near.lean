-- COMPARING LONGS
theorem z_cle {x y : Int64} : lg_cmp x y ≤ 0 ↔ x ≤ y := by
  unfold lg_cmp
  by_cases h : x > y
  · rw [if_pos h]
    exact ⟨fun c => absurd c (by decide), fun c => absurd h (Int64.not_lt.mpr c)⟩
  · rw [if_neg h]
    have h2 : x ≤ y := Int64.not_lt.mp h
    by_cases e : x = y
    · rw [if_pos e]
      exact ⟨fun _ => h2, fun _ => by decide⟩
    · rw [if_neg e]
      exact ⟨fun _ => h2, fun _ => by decide⟩
theorem z_clt {x y : Int64} : lg_cmp x y < 0 ↔ x < y := by
  unfold lg_cmp
  by_cases h : x > y
  · rw [if_pos h]
    exact ⟨fun c => absurd c (by decide), fun c => absurd (Int64.lt_trans h c) (Int64.lt_irrefl)⟩
  · rw [if_neg h]
    have h2 : x ≤ y := Int64.not_lt.mp h
    by_cases e : x = y
    · rw [if_pos e]
      exact ⟨fun c => absurd c (by decide), fun c => absurd (e ▸ c) (Int64.lt_irrefl)⟩
    · rw [if_neg e]
      exact ⟨fun _ => Int64.lt_of_le_of_ne h2 e, fun _ => by decide⟩
theorem z_ceq {x y : Int64} : lg_cmp x y = 0 ↔ x = y := by
  unfold lg_cmp
  by_cases h : x > y
  · rw [if_pos h]
    exact ⟨fun c => absurd c (by decide), fun c => absurd (c ▸ h) (Int64.lt_irrefl)⟩
  · rw [if_neg h]
    by_cases e : x = y
    · rw [if_pos e]
      exact ⟨fun _ => e, fun _ => rfl⟩
    · rw [if_neg e]
      exact ⟨fun c => absurd c (by decide), fun c => absurd c e⟩
theorem z_cgt {x y : Int64} : 0 < lg_cmp x y ↔ y < x := by
  rw [← Int32.not_le, z_cle, Int64.not_le]
theorem z_cge {x y : Int64} : 0 ≤ lg_cmp x y ↔ y ≤ x := by
  rw [← Int32.not_lt, z_clt, Int64.not_lt]
-- THE NEAREST COLOUR OF SOME WOOL
theorem z_bit : ∀ W, W < 256 → ∀ c, c < 8 → (((nI W >>> (nI c &&& 31)) &&& (1 : Int32)) = 0 ↔ W.testBit c = false) := by decide +kernel
/-- c is that colour of the wool W which is nearest to z, of two the lower -/
def z_Nr (W : Nat) (z : Int) (c : Nat) : Prop := c < 8 ∧ W.testBit c = true ∧ ∀ d, d < 8 → W.testBit d = true → ((z - c).natAbs < (z - d).natAbs ∨ ((z - c).natAbs = (z - d).natAbs ∧ c ≤ d))
theorem z_Nr_one {W : Nat} {z : Int} {c d : Nat} (h : z_Nr W z c) (h' : z_Nr W z d) : c = d := by
  have a := h.2.2 d h'.1 h'.2.1
  have b := h'.2.2 c h.1 h.2.1
  omega
/-- it is enough to look from the edge -/
theorem z_Nr_clamp {W : Nat} {z : Int} {c : Nat} (h : z_Nr W (if z < 0 then 0 else if 7 < z then 7 else z) c) : z_Nr W z c := by
  refine ⟨h.1, h.2.1, fun d hd hb => ?_⟩
  have a := h.2.2 d hd hb
  have hc := h.1
  split at a
  · omega
  · split at a <;> omega
section ZNR
variable {T : kw_T} {n : Nat} {r : kw_R} {i : kw_I} {w : kw_L} {Q : Int32 → Prop}
theorem z_near10_loop {W : Nat} (hW : W < 256) {z : Int64} (hz : -1000000000000 ≤ z.toInt ∧ z.toInt ≤ 1000000000000) (hQ : ∀ c, z_Nr W z.toInt c → Q (nI c)) (h0 : ∃ c, c < 8 ∧ W.testBit c = true) :
    ∀ (m c : Nat) (x3 : Int32) (l4 : Int64), c + m = 8 → ((x3 = -1 ∧ ∀ d, d < c → W.testBit d = false) ∨ (∃ b, x3 = nI b ∧ b < c ∧ W.testBit b = true ∧ l4.toInt = ((z.toInt - b).natAbs : Nat) ∧ ∀ d, d < c → W.testBit d = true → ((z.toInt - b).natAbs < (z.toInt - d).natAbs ∨ ((z.toInt - b).natAbs = (z.toInt - d).natAbs ∧ b ≤ d)))) → w_X10_nearest_8 (nI W) z T n r i w Q (m + 1) x3 l4 (nI c) := by
  intro m
  induction m with
  | zero =>
    intro c x3 l4 hc hI
    have hc8 : c = 8 := by omega
    subst hc8
    refine ⟨fun _ => ?_, fun h => absurd (by decide) h⟩
    rcases hI with ⟨-, h⟩ | ⟨b, rfl, hb, hbit, -, h⟩
    · obtain ⟨d, hd, hb⟩ := h0
      rw [h d hd] at hb
      cases hb
    · exact hQ b ⟨hb, hbit, h⟩
  | succ m ih =>
    intro c x3 l4 hc hI
    have hc8 : c < 8 := by omega
    have step : ∀ s0 : Int64, s0.toInt = ((z.toInt - c).natAbs : Nat) → w_X10_nearest_36 (nI W) z T n r i w Q (w_X10_nearest_8 (nI W) z T n r i w Q (m + 1)) x3 l4 (nI c) s0 := by
      intro s0 hs
      refine ⟨fun h => ?_, fun h => ?_⟩
      · have hb := (z_bit W hW c hc8).mp h
        show w_X10_nearest_8 (nI W) z T n r i w Q (m + 1) x3 l4 (nI c + 1)
        rw [nI_1]
        refine ih (c + 1) x3 l4 (by omega) ?_
        rcases hI with ⟨e, h⟩ | ⟨b, e, hb2, hbit, hl, h⟩
        · refine Or.inl ⟨e, fun d hd => ?_⟩
          rcases Nat.lt_or_ge d c with q | q
          · exact h d q
          · rw [show d = c by omega]
            exact hb
        · refine Or.inr ⟨b, e, by omega, hbit, hl, fun d hd hd2 => ?_⟩
          rcases Nat.lt_or_ge d c with q | q
          · exact h d q hd2
          · rw [show d = c by omega, hb] at hd2
            cases hd2
      · have hb : W.testBit c = true := by
          cases hh : W.testBit c with
          | true => rfl
          | false => exact absurd ((z_bit W hW c hc8).mpr hh) h
        have take : ∀ hold : (x3 = -1 ∧ ∀ d, d < c → W.testBit d = false) ∨ (∃ b, x3 = nI b ∧ b < c ∧ s0 < l4 ∧ l4.toInt = ((z.toInt - b).natAbs : Nat) ∧ ∀ d, d < c → W.testBit d = true → ((z.toInt - b).natAbs < (z.toInt - d).natAbs ∨ ((z.toInt - b).natAbs = (z.toInt - d).natAbs ∧ b ≤ d))), w_X10_nearest_63 (nI W) z T n r i w Q (w_X10_nearest_8 (nI W) z T n r i w Q (m + 1)) (nI c) s0 := by
          intro hold
          show w_X10_nearest_8 (nI W) z T n r i w Q (m + 1) (nI c) s0 (nI c + 1)
          rw [nI_1]
          refine ih (c + 1) (nI c) s0 (by omega) (Or.inr ⟨c, rfl, by omega, hb, hs, fun d hd hd2 => ?_⟩)
          rcases Nat.lt_or_ge d c with q | q
          · rcases hold with ⟨-, h⟩ | ⟨b, -, -, hlt, hl, h⟩
            · rw [h d q] at hd2
              cases hd2
            · have := h d q hd2
              rw [fa_lt64, hs, hl] at hlt
              omega
          · omega
        refine ⟨fun e => ?_, fun e => ⟨fun h2 => ?_, fun h2 => ?_⟩⟩
        · rcases hI with ⟨_, h⟩ | ⟨b, e2, hb2, -⟩
          · exact take (Or.inl ⟨e, h⟩)
          · exfalso
            rw [e2] at e
            have e3 : (nI b).toInt = (-1 : Int32).toInt := by rw [e]
            rw [nI_toInt (by omega)] at e3
            have : (-1 : Int32).toInt = -1 := by decide
            omega
        · rcases hI with ⟨e2, _⟩ | ⟨b, e2, hb2, hbit, hl, h⟩
          · exact absurd e2 e
          · exact take (Or.inr ⟨b, e2, hb2, z_clt.mp h2, hl, h⟩)
        · rcases hI with ⟨e2, _⟩ | ⟨b, e2, hb2, hbit, hl, h⟩
          · exact absurd e2 e
          · show w_X10_nearest_8 (nI W) z T n r i w Q (m + 1) x3 l4 (nI c + 1)
            rw [nI_1]
            refine ih (c + 1) x3 l4 (by omega) (Or.inr ⟨b, e2, by omega, hbit, hl, fun d hd hd2 => ?_⟩)
            rcases Nat.lt_or_ge d c with q | q
            · exact h d q hd2
            · have e4 : d = c := by omega
              subst e4
              rw [z_clt, fa_lt64, hs, hl] at h2
              omega
    refine ⟨fun h => ?_, fun _ => ⟨fun h => ?_, fun h => ?_⟩⟩
    · exact absurd h (nI_ge (a := c) (b := 8) hc8 (by decide))
    · rw [z_cle, nI_l (by omega), fa_le64, lN_toInt (by omega)] at h
      refine step _ ?_
      rw [nI_l (by omega), fb_subL (by rw [lN_toInt (by omega)]; omega) (by rw [lN_toInt (by omega)]; omega), lN_toInt (by omega)]
      omega
    · rw [z_cle, nI_l (by omega), fa_le64, lN_toInt (by omega)] at h
      refine step _ ?_
      rw [nI_l (by omega), fb_subL (by rw [lN_toInt (by omega)]; omega) (by rw [lN_toInt (by omega)]; omega), lN_toInt (by omega)]
      omega
theorem z_near10 {W : Nat} (hW : W < 256) {z : Int64} (hz : -1000000000000 ≤ z.toInt ∧ z.toInt ≤ 1000000000000) (h0 : ∃ c, c < 8 ∧ W.testBit c = true) (hQ : ∀ c, z_Nr W z.toInt c → Q (nI c)) : w_X10_nearest (nI W) z T n r i w Q :=
  ⟨9, z_near10_loop hW hz hQ h0 8 0 (-1) 0 (by omega) (Or.inl ⟨rfl, fun d hd => by omega⟩)⟩
end ZNR
section ZNR2
variable {T : kw_T} {n : Nat} {r : kw_R} {i : kw_I} {w : kw_L} {Q : Int32 → Prop} {a0 : Nat}
theorem z_near2_loop {W : Nat} (hW : W < 256) {z : Int64} {m : Nat} (hm : m < 8) (hQ : ∀ c, z_Nr W (m : Int) c → Q (nI c)) (h0 : ∃ c, c < 8 ∧ W.testBit c = true) :
    ∀ (k a : Nat), a + k = 8 → (∀ d, d < 8 → W.testBit d = true → (a ≤ ((m : Int) - d).natAbs)) → w_X2_nearest_17 a0 (nI W) z T n r i w Q (k + 1) (nI m) (nI a) := by
  intro k
  induction k with
  | zero =>
    intro a ha hI
    obtain ⟨d, hd, hb⟩ := h0
    have := hI d hd hb
    omega
  | succ k ih =>
    intro a ha hI
    have ha8 : a < 8 := by omega
    have next : (∀ d, d < 8 → W.testBit d = true → (a + 1 ≤ ((m : Int) - d).natAbs)) → w_X2_nearest_74 a0 (nI W) z T n r i w Q (w_X2_nearest_17 a0 (nI W) z T n r i w Q (k + 1)) (nI m) (nI a) := by
      intro h
      show w_X2_nearest_17 a0 (nI W) z T n r i w Q (k + 1) (nI m) (nI a + 1)
      rw [nI_1]
      exact ih (a + 1) (by omega) h
    have bt : ∀ c, c < 8 → ¬ ((nI W >>> (nI c &&& 31)) &&& (1 : Int32)) = 0 → W.testBit c = true := by
      intro c hc h
      cases hh : W.testBit c with
      | true => rfl
      | false => exact absurd ((z_bit W hW c hc).mpr hh) h
    have high : (∀ d, d < 8 → W.testBit d = true → (d : Int) = m - a → False) → w_X2_nearest_55 a0 (nI W) z T n r i w Q (w_X2_nearest_17 a0 (nI W) z T n r i w Q (k + 1)) (nI m) (nI a) (nI m + nI a) := by
      intro hlow
      rw [nI_add]
      refine ⟨fun h => ?_, fun h => ⟨fun h2 => ?_, fun h2 => ?_⟩⟩
      · have h8 : 8 ≤ m + a := (nI_leI (a := 8) (by decide) (by omega)).mp h
        refine next fun d hd hb => ?_
        have := hI d hd hb
        have h9 : (d : Int) ≠ m - a := fun e => hlow d hd hb e
        omega
      · have h8 : m + a < 8 := by
          rcases Nat.lt_or_ge (m + a) 8 with q | q
          · exact q
          · exact absurd ((nI_leI (a := 8) (by decide) (by omega)).mpr q) h
        have hz := (z_bit W hW _ h8).mp h2
        refine next fun d hd hb => ?_
        have := hI d hd hb
        have h9 : (d : Int) ≠ m - a := fun e => hlow d hd hb e
        have : d ≠ m + a := fun e => by rw [e, hz] at hb; cases hb
        omega
      · have h8 : m + a < 8 := by
          rcases Nat.lt_or_ge (m + a) 8 with q | q
          · exact q
          · exact absurd ((nI_leI (a := 8) (by decide) (by omega)).mpr q) h
        refine hQ _ ⟨h8, bt _ h8 h2, fun d hd hb => ?_⟩
        have := hI d hd hb
        have h9 : (d : Int) ≠ m - a := fun e => hlow d hd hb e
        omega
    refine ⟨fun h => absurd h (nI_ge (a := a) (b := 8) ha8 (by decide)), fun _ => ⟨fun h => ?_, fun h => ?_⟩⟩
    · refine high fun d hd hb e => ?_
      rcases Nat.lt_or_ge m a with q | q
      · omega
      · rw [pk_sub q] at h
        exact absurd h (nI_pos (by omega))
    · have q : a ≤ m := by
        rcases Nat.lt_or_ge m a with q | q
        · exact absurd (pk_sneg (by omega) q) h
        · exact q
      rw [pk_sub q]
      refine ⟨fun h2 => ?_, fun h2 => ?_⟩
      · have hz := (z_bit W hW _ (by omega)).mp h2
        refine high fun d hd hb e => ?_
        rw [show d = m - a by omega, hz] at hb
        cases hb
      · refine hQ _ ⟨by omega, bt _ (by omega) h2, fun d hd hb => ?_⟩
        have := hI d hd hb
        omega
theorem z_near2 {W : Nat} (hW : W < 256) {z : Int64} (h0 : ∃ c, c < 8 ∧ W.testBit c = true) (hQ : ∀ c, z_Nr W z.toInt c → Q (nI c)) : w_X2_nearest a0 (nI W) z T n r i w Q := by
  have e0 : (0 : Int64).toInt = 0 := by decide
  have e7 : (7 : Int64).toInt = 7 := by decide
  obtain ⟨m, hm, e, hc⟩ : ∃ m : Nat, m < 8 ∧ (if (if z < (7 : Int64) then z else (7 : Int64)) < (0 : Int64) then (0 : Int64) else (if z < (7 : Int64) then z else (7 : Int64))) = lN m ∧ (m : Int) = (if z.toInt < 0 then 0 else if 7 < z.toInt then 7 else z.toInt) := by
    by_cases h7 : z < 7
    · rw [if_pos h7]
      have g7 := (fa_lt64 z 7).mp h7
      rw [e7] at g7
      by_cases h1 : z < 0
      · rw [if_pos h1]
        have g1 := (fa_lt64 z 0).mp h1
        rw [e0] at g1
        exact ⟨0, by decide, rfl, by rw [if_pos g1]; rfl⟩
      · rw [if_neg h1]
        obtain ⟨k, hk, rfl⟩ := pk_lOf h1
        rw [pk_lT hk] at g7 ⊢
        exact ⟨k, by omega, rfl, by rw [if_neg (by omega), if_neg (by omega)]⟩
    · rw [if_neg h7, if_neg (by decide)]
      have g7 : ¬ z.toInt < 7 := by
        rw [← e7]
        exact fun q => h7 ((fa_lt64 z 7).mpr q)
      refine ⟨7, by decide, rfl, ?_⟩
      rw [if_neg (by omega)]
      by_cases g8 : 7 < z.toInt
      · rw [if_pos g8]
        rfl
      · rw [if_neg g8]
        omega
  refine ⟨9, ?_⟩
  rw [e, lN_i]
  exact z_near2_loop hW hm (fun c h => hQ c (z_Nr_clamp (by rw [← hc]; exact h))) h0 8 0 (by omega) (fun d _ _ => Nat.zero_le _)
end ZNR2
