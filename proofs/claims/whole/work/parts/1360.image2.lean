-- A NEW STATE OBJECT
theorem z_row_off {α : Type} {f : Nat → α} {a b : Nat} {x : α} (h : b ≠ a) : kw_row f a x b = f b := if_neg h
section ZI6
variable {T : kw_T} {n : Nat} {r : kw_R} {i : kw_I} {w : kw_L} {s : Nat}
theorem z_fill {a m : Nat} {x : Int32} (hT : T a = (1, m)) (hm : m < 1000) {Q : kw_I → Prop} (hQ : ∀ i', z_io a i i' → (∀ k, k < m → i' a k = x) → Q i') : w_J7_fill_53178 a x T n r i w Q := by
  have e : ((T a).2.toInt32) = nI m := by rw [hT]; rfl
  refine ⟨by rw [hT], m + 1, ?_⟩
  rw [e]
  have loop : ∀ (d k : Nat) (j : kw_I), k + d = m → z_io a i j → (∀ k', k' < k → j a k' = x) → w_J7_fill_53178_5 a x T n r w Q (d + 1) (nI k) (nI m) j := by
    intro d
    induction d with
    | zero =>
      intro k j hk g1 g2
      have : k = m := by omega
      subst this
      exact ⟨fun _ => hQ j g1 g2, fun q => absurd (nI_le (Nat.le_refl _) (by omega)) q⟩
    | succ d ih =>
      intro k j hk g1 g2
      show s_J7_fill_53178_5 a x T n r w Q _ (nI k) (nI m) j
      unfold s_J7_fill_53178_5
      rw [nI_clamp (by omega), nI_1]
      refine ⟨fun q => absurd q (nI_ge (by omega) (by omega)), fun _ => ⟨z_kin hT (by omega) (by omega), fun j2 e2 => ih (k + 1) j2 (by omega) (by rw [e2]; exact z_io_st g1) (fun k' hk' => ?_)⟩⟩
      rw [e2, kw_st_row]
      by_cases q : k' = k
      · rw [if_pos q]
      · rw [if_neg q]
        exact g2 k' (by omega)
  exact loop m 0 i (by omega) (fun _ _ => rfl) (fun k' hk' => absurd hk' (Nat.not_lt_zero k'))
/-- a new one's numbers -/
def z_f6 (i : kw_I) (s : Nat) : Prop := (∀ j v, j < 6 → i (s + 2 + j) v = 0) ∧ (∀ q c, q < 3 → i (s + 9 + q) c = 0) ∧ (∀ c, c < 8 → i (s + 12) c = 1) ∧ i (s + 13) 0 = 10 ∧ i (s + 13) 1 = 0 ∧ i s 5 = 0 ∧ i s 6 = 0 ∧ i s 7 = -1
theorem z_init6 (h0 : 0 < s) (hn : s + 20 ≤ kw_SB) (hTs : T s = (0, 6)) {Q : kw_T → Nat → kw_R → kw_I → Prop} (hQ : ∀ T' r' i', (∀ b, (b ≤ s ∨ s + 14 < b) → T' b = T b) → z_sh T' r' s → (∀ b, s < b → b ≤ s + 14 → (T' b).1 < 8) → (∀ b, (b < s ∨ s + 14 < b) → r' b = r b) → (∀ j, r' (s + 14) j = 0) → (∀ b, (b < s ∨ s + 14 < b) → i' b = i b) → z_f6 i' s → Q T' (s + 15) r' i') : w_X6_init s T (s + 1) r i w Q := by
  have al : ∀ a k, s + 1 ≤ a → a + k ≤ s + 20 → kw_al a k := fun a k h1 h2 => ⟨by omega, by omega⟩
  refine ⟨al _ _ (by omega) (by omega), fun T9 r9 i9 eT9 er9 ei9 => ?_⟩
  have t9 : T9 s = (0, 6) := by rw [eT9]; unfold kw_mT; rw [if_neg (by omega), if_neg (by omega)]; exact hTs
  refine ⟨t9, fun r13 er13 => ⟨al _ _ (by omega) (by omega), fun T20 r20 i20 eT20 er20 ei20 => ?_⟩⟩
  have t20 : T20 s = (0, 6) := by rw [eT20]; unfold kw_mT; rw [if_neg (by omega), if_neg (by omega)]; exact t9
  refine ⟨t20, fun r24 er24 => ⟨al _ _ (by omega) (by omega), fun T30 i30 eT30 ei30 => ?_⟩⟩
  have t30 : T30 s = (0, 6) := by rw [eT30]; unfold kw_row; rw [if_neg (by omega)]; exact t20
  refine ⟨t30, fun r32 er32 => ⟨al _ _ (by omega) (by omega), fun T37 i37 eT37 ei37 => ?_⟩⟩
  have t37 : T37 s = (0, 6) := by rw [eT37]; unfold kw_row; rw [if_neg (by omega)]; exact t30
  refine ⟨t37, fun r39 er39 => ⟨al _ _ (by omega) (by omega), fun T45 r45 eT45 er45 => ?_⟩⟩
  have t45 : T45 s = (0, 6) := by rw [eT45]; unfold kw_row; rw [if_neg (by omega)]; exact t37
  refine ⟨t45, fun r48 er48 i53 ei53 i58 ei58 i63 ei63 => ?_⟩
  -- kinds
  have hT : ∀ b, T45 b = if b = s + 14 then (7, 6) else if b = s + 13 then (1, 2) else if b = s + 12 then (1, 8) else if b = s + 8 then (5, 3) else if s + 8 < b ∧ b ≤ s + 11 then (1, 36) else if b = s + 1 then (5, 6) else if s + 1 < b ∧ b ≤ s + 7 then (1, 10) else T b := by
    intro b
    rw [eT45, eT37, eT30, eT20, eT9]
    rfl
  -- references
  have hr : ∀ b, r48 b = if b = s then (fun f => if f = 4 then s + 14 else if f = 3 then s + 13 else if f = 2 then s + 12 else if f = 1 then s + 8 else if f = 0 then s + 1 else r s f) else if b = s + 14 then (fun _ => 0) else if b = s + 8 then (fun j => if j < 3 then s + 9 + j else 0) else if b = s + 1 then (fun j => if j < 6 then s + 2 + j else 0) else r b := by
    intro b
    by_cases q : b = s
    · rw [if_pos q, q]
      funext f
      rw [er48, kw_st_row, er45, z_row_off (by omega), er39, kw_st_row, er32, kw_st_row, er24, kw_st_row, er20]
      unfold kw_mR
      rw [z_row_off (by omega), er13, kw_st_row, er9]
      unfold kw_mR
      rw [z_row_off (by omega)]
    · rw [if_neg q, er48, kw_st_offF q, er45]
      unfold kw_row
      by_cases q1 : b = s + 14
      · rw [if_pos (by omega), if_pos q1]
      · rw [if_neg (by omega), if_neg q1, er39, kw_st_offF q, er32, kw_st_offF q, er24, kw_st_offF q, er20]
        unfold kw_mR kw_row
        by_cases q2 : b = s + 8
        · rw [if_pos (by omega), if_pos q2]
        · rw [if_neg (by omega), if_neg q2, er13, kw_st_offF q, er9]
          unfold kw_mR kw_row
          by_cases q3 : b = s + 1
          · rw [if_pos q3]
          · rw [if_neg q3]
  -- numbers
  have hi : ∀ b, b ≠ s → i63 b = if b = s + 13 then (fun _ => 0) else if b = s + 12 then (fun _ => 0) else if s + 8 < b ∧ b ≤ s + 11 then (fun _ => 0) else if s + 1 < b ∧ b ≤ s + 7 then (fun _ => 0) else i b := by
    intro b q
    rw [ei63, kw_st_offF q, ei58, kw_st_offF q, ei53, kw_st_offF q, ei37, ei30, ei20, ei9]
    rfl
  have r2 : r48 s 2 = s + 12 := by rw [hr, if_pos rfl]; rfl
  have r3 : r48 s 3 = s + 13 := by rw [hr, if_pos rfl]; rfl
  rw [r2, r3]
  have T12 : T45 (s + 12) = (1, 8) := by rw [hT, if_neg (by omega), if_neg (by omega), if_pos rfl]
  have T13 : T45 (s + 13) = (1, 2) := by rw [hT, if_neg (by omega), if_pos rfl]
  refine z_fill T12 (by decide) fun i71 g1 g2 => ⟨z_kin (k := 0) T13 (by decide) (by decide), fun i81 e81 => ?_⟩
  have o81 : ∀ b, b ≠ s + 12 → b ≠ s + 13 → i81 b = i63 b := fun b b1 b2 => by rw [e81, kw_st_offF b2, g1 b b1]
  refine hQ T45 r48 i81 (fun b hb => ?_) ⟨t45, ?_, fun j hj => ⟨?_, ?_⟩, ?_, fun q hq => ⟨?_, ?_⟩, T12, T13, ?_, ?_, ?_, r2, r3, ?_⟩ (fun b b1 b2 => ?_) (fun b hb => ?_) (fun j => ?_) (fun b hb => ?_) ⟨fun j v hj => ?_, fun q c hq => ?_, fun c hc => ?_, ?_, ?_, ?_, ?_, ?_⟩
  · rw [hT, if_neg (by omega), if_neg (by omega), if_neg (by omega), if_neg (by omega), if_neg (by omega), if_neg (by omega), if_neg (by omega)]
  · rw [hT, if_neg (by omega), if_neg (by omega), if_neg (by omega), if_neg (by omega), if_neg (by omega), if_pos rfl]
  · rw [hT, if_neg (by omega), if_neg (by omega), if_neg (by omega), if_neg (by omega), if_neg (by omega), if_neg (by omega), if_pos (by omega)]
  · rw [hr, if_neg (by omega), if_neg (by omega), if_neg (by omega), if_pos rfl]
    exact if_pos hj
  · rw [hT, if_neg (by omega), if_neg (by omega), if_neg (by omega), if_pos rfl]
  · rw [hT, if_neg (by omega), if_neg (by omega), if_neg (by omega), if_neg (by omega), if_pos (by omega)]
  · rw [hr, if_neg (by omega), if_neg (by omega), if_pos rfl]
    exact if_pos hq
  · rw [hT, if_pos rfl]
  · rw [hr, if_pos rfl]; rfl
  · rw [hr, if_pos rfl]; rfl
  · rw [hr, if_pos rfl]; rfl
  · rw [hT]
    by_cases q1 : b = s + 14
    · rw [if_pos q1]; decide
    · rw [if_neg q1]
      by_cases q2 : b = s + 13
      · rw [if_pos q2]; decide
      · rw [if_neg q2]
        by_cases q3 : b = s + 12
        · rw [if_pos q3]; decide
        · rw [if_neg q3]
          by_cases q4 : b = s + 8
          · rw [if_pos q4]; decide
          · rw [if_neg q4]
            by_cases q5 : s + 8 < b ∧ b ≤ s + 11
            · rw [if_pos q5]; decide
            · rw [if_neg q5]
              by_cases q6 : b = s + 1
              · rw [if_pos q6]; decide
              · rw [if_neg q6, if_pos (by omega)]; decide
  · rw [hr, if_neg (by omega), if_neg (by omega), if_neg (by omega), if_neg (by omega)]
  · rw [hr, if_neg (by omega), if_pos rfl]
  · rw [o81 b (by omega) (by omega), hi b (by omega), if_neg (by omega), if_neg (by omega), if_neg (by omega), if_neg (by omega)]
  · rw [o81 _ (by omega) (by omega), hi _ (by omega), if_neg (by omega), if_neg (by omega), if_neg (by omega), if_pos (by omega)]
  · rw [o81 _ (by omega) (by omega), hi _ (by omega), if_neg (by omega), if_neg (by omega), if_pos (by omega)]
  · rw [e81, kw_st_off (by omega)]
    exact g2 c hc
  · rw [e81]
    exact kw_st_same
  · rw [e81, kw_st_row, if_neg (by decide), g1 _ (by omega), hi _ (by omega), if_pos rfl]
  · rw [o81 _ (by omega) (by omega), ei63, kw_st_row, if_neg (by decide), ei58, kw_st_row, if_neg (by decide), ei53, kw_st_same]
  · rw [o81 _ (by omega) (by omega), ei63, kw_st_row, if_neg (by decide), ei58, kw_st_same]
  · rw [o81 _ (by omega) (by omega), ei63, kw_st_same]
end ZI6
theorem z_sh_mv {T T' : kw_T} {r r' : kw_R} {s : Nat} (h : z_sh T r s) (hT : ∀ b, s ≤ b → b ≤ s + 14 → T' b = T b) (hr : ∀ b, s ≤ b → b < s + 14 → r' b = r b) : z_sh T' r' s := by
  obtain ⟨d1, d2, d3, d4, d5, d6, d7, d8, d9, d10, d11, d12, d13⟩ := h
  refine ⟨by rw [hT _ (by omega) (by omega)]; exact d1, by rw [hT _ (by omega) (by omega)]; exact d2, fun j hj => ⟨by rw [hT _ (by omega) (by omega)]; exact (d3 j hj).1, by rw [hr _ (by omega) (by omega)]; exact (d3 j hj).2⟩, by rw [hT _ (by omega) (by omega)]; exact d4, fun q hq => ⟨by rw [hT _ (by omega) (by omega)]; exact (d5 q hq).1, by rw [hr _ (by omega) (by omega)]; exact (d5 q hq).2⟩, by rw [hT _ (by omega) (by omega)]; exact d6, by rw [hT _ (by omega) (by omega)]; exact d7, by rw [hT _ (by omega) (by omega)]; exact d8, ?_, ?_, ?_, ?_, ?_⟩
  · rw [hr _ (by omega) (by omega)]; exact d9
  · rw [hr _ (by omega) (by omega)]; exact d10
  · rw [hr _ (by omega) (by omega)]; exact d11
  · rw [hr _ (by omega) (by omega)]; exact d12
  · rw [hr _ (by omega) (by omega)]; exact d13
/-- no Law object lies in a State object, nor one State object in another -/
theorem z_sh_no {T : kw_T} {r : kw_R} {s a b : Nat} (h : z_sh T r s) (h1 : T a = (0, 1)) (h2 : (T (a + 1)).1 = 1) (h3 : (T (a + 2)).1 = 1) (hb : a ≤ b) (hb2 : b ≤ a + 2) : b < s ∨ s + 14 < b := by
  obtain ⟨d1, d2, d3, d4, d5, d6, d7, d8, -⟩ := h
  rcases Nat.lt_or_ge b s with q | q
  · exact Or.inl q
  · right
    rcases Nat.lt_or_ge (s + 14) b with z | z
    · exact z
    · exfalso
      rcases Nat.lt_or_ge a s with y | y
      · rcases (show s = a + 1 ∨ s = a + 2 by omega) with e | e
        · rw [← e, d1] at h2
          exact absurd h2 (by decide)
        · rw [← e, d1] at h3
          exact absurd h3 (by decide)
      · rcases (show a = s ∨ a = s + 1 ∨ (s + 2 ≤ a ∧ a < s + 8) ∨ a = s + 8 ∨ (s + 9 ≤ a ∧ a < s + 12) ∨ a = s + 12 ∨ a = s + 13 ∨ a = s + 14 by omega) with e | e | e | e | e | e | e | e
        · rw [e, d1] at h1; cases h1
        · rw [e, d2] at h1; cases h1
        · have := (d3 (a - (s + 2)) (by omega)).1
          rw [show s + 2 + (a - (s + 2)) = a by omega, h1] at this
          cases this
        · rw [e, d4] at h1; cases h1
        · have := (d5 (a - (s + 9)) (by omega)).1
          rw [show s + 9 + (a - (s + 9)) = a by omega, h1] at this
          cases this
        · rw [e, d6] at h1; cases h1
        · rw [e, d7] at h1; cases h1
        · rw [e, d8] at h1; cases h1
theorem z_sh_ap {T : kw_T} {r : kw_R} {s t : Nat} (h : z_sh T r s) (h2 : T t = (0, 6)) (hne : t ≠ s) : t < s ∨ s + 14 < t := by
  obtain ⟨d1, d2, d3, d4, d5, d6, d7, d8, -⟩ := h
  rcases Nat.lt_or_ge t s with q | q
  · exact Or.inl q
  · right
    rcases Nat.lt_or_ge (s + 14) t with z | z
    · exact z
    · exfalso
      rcases (show t = s + 1 ∨ (s + 2 ≤ t ∧ t < s + 8) ∨ t = s + 8 ∨ (s + 9 ≤ t ∧ t < s + 12) ∨ t = s + 12 ∨ t = s + 13 ∨ t = s + 14 by omega) with e | e | e | e | e | e | e
      · rw [e, d2] at h2; cases h2
      · have := (d3 (t - (s + 2)) (by omega)).1
        rw [show s + 2 + (t - (s + 2)) = t by omega, h2] at this
        cases this
      · rw [e, d4] at h2; cases h2
      · have := (d5 (t - (s + 9)) (by omega)).1
        rw [show s + 9 + (t - (s + 9)) = t by omega, h2] at this
        cases this
      · rw [e, d6] at h2; cases h2
      · rw [e, d7] at h2; cases h2
      · rw [e, d8] at h2; cases h2
