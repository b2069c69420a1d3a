-- EATEN CELLS
section ZW2
variable {T : kw_T} {n : Nat} {r : kw_R} {i : kw_I} {w : kw_L} {nv : Nat} {L : List z_Sm}
theorem z_weaveIf2 (h : z_Inv T n r i w) {Q : kw_R → kw_I → kw_L → Prop} (hQ : ∀ r' i' w' nv L, z_fr T n r' i' w' nv L → i' 86 = i 86 → i' 2 = i 2 → (∀ b, 62 ≤ b → i' b = i b) → Q r' i' w') : w_X9_weaveIfStale 1 T n r i w Q := by
  have hS := h.1
  refine ⟨fun c => ?_, fun c => ?_⟩
  · obtain ⟨n1, ⟨nv, hK⟩, n3⟩ := h.2.2.1
    obtain ⟨L, la, hL, hLk⟩ := z_laws_in n3
    rw [z_r1_4 hS, z_r1_0 hS]
    refine ⟨z_T23 hS, z_weaveAll hS n1 hK hL h.2.2.2.2.2.2.2.2.1 fun i1 w1 a1 a2 a3 a4 a5 => ?_⟩
    have rr : ∀ b, b ≠ 23 → b ≠ 24 → kw_st (kw_st r 23 3 10) 24 7 la b = r b := fun b b1 b2 => by rw [kw_st_offF b2, kw_st_offF b1]
    have hS1 : z_S T (kw_st (kw_st r 23 3 10) 24 7 la) := z_S_eq hS (fun a k h1 h2 _ _ _ => by
      by_cases q : a = 24
      · subst q
        rw [kw_st_row, if_neg (fun e => h2 (by rw [e])), kw_st_off (by decide)]
      · rw [kw_st_off q]
        by_cases q2 : a = 23
        · subst q2
          rw [kw_st_row, if_neg (fun e => h1 (by rw [e]))]
        · rw [kw_st_off q2])
    have e15 : kw_st (kw_st r 23 3 10) 24 7 la 1 5 = 52 := z_r1_5 hS1
    rw [e15]
    refine ⟨z_T52 hS, z_forget hS1 fun i2 b1 b2 b3 b4 i3 e3 => ?_⟩
    have o3 : ∀ b, b ≠ 1 → b ≠ 52 → b ≠ 61 → i3 b = i1 b := fun b c1 c2 c3 => by rw [e3, kw_st_offF c1, b1 b c2 c3]
    have o : ∀ b, b ≠ 1 → b ≠ 52 → b ≠ 61 → (b < 23 ∨ 40 < b) → i3 b = i b := fun b c1 c2 c3 c4 => by rw [o3 b c1 c2 c3, a1 b c4]
    have e86 : i3 86 = i 86 := o 86 (by decide) (by decide) (by decide) (by decide)
    have hd : ∀ b, 103 ≤ b → i3 b = i b := fun b hb => o b (by omega) (by omega) (by omega) (by omega)
    have f1 : ∀ f, f ≠ 12 → i3 1 f = i 1 f := fun f hf => by rw [e3, kw_st_row, if_neg hf, b1 1 (by decide) (by decide), a1 1 (by decide)]
    have f12 : i3 1 12 = 0 := by rw [e3, kw_st_same]
    have rd : z_rd T (kw_st (kw_st r 23 3 10) 24 7 la) i3 w1 (i 86) nv L := z_rd_eq a4 (o3 24 (by decide) (by decide) (by decide)) (o3 26 (by decide) (by decide) (by decide)) (o3 27 (by decide) (by decide) (by decide)) (by rw [o3 29 (by decide) (by decide) (by decide)]) (fun b hb => o3 b (by omega) (by omega) (by omega)) rfl (by rw [o3 23 (by decide) (by decide) (by decide)]) (fun b c1 c2 => o3 b (by omega) (by omega) (by omega)) hK.1
    have gs : z_gs i3 (i 86) nv L := by
      refine ⟨fun s hs q => absurd ?_ q, fun q => absurd ?_ q, fun q => absurd ?_ q⟩
      · rw [e3, kw_st_off (by decide)]
        exact b2 s hs
      · rw [e3, kw_st_off (by decide)]
        exact b3
      · rw [e3, kw_st_off (by decide)]
        exact b4
    refine hQ _ i3 w1 nv L ⟨⟨hS1, h.2.1, ⟨?_, ?_, ?_⟩, ?_, ?_, ?_, ?_, ?_, ?_, ?_⟩, f12, by rw [e86]; exact hK, by rw [e86]; exact hLk, by rw [e86]; exact rd, by rw [e86]; exact gs⟩ e86 (o 2 (by decide) (by decide) (by decide) (by decide)) (fun b hb => o b (by omega) (by omega) (by omega) (by omega))
    · rw [e86]
      exact z_SK_eq n1 (by rw [o 2 (by decide) (by decide) (by decide) (by decide)]; exact ⟨rfl, rfl, rfl⟩) (fun b c1 c2 => o b (by omega) (by omega) (by omega) (by omega)) (fun _ _ => rfl)
    · rw [e86]
      exact ⟨nv, hK⟩
    · rw [e86]
      exact z_laws_eq n3 (fun j _ => by rw [rr 16 (by decide) (by decide)]) (fun b hb _ => rr b (by omega) (by omega)) (fun a b ha _ c1 _ => hd b (by omega))
    · exact z_im_r (z_im_eq h.2.2.2.1 (o 87 (by decide) (by decide) (by decide) (by decide)) (o 88 (by decide) (by decide) (by decide) (by decide)) hd) (rr 17 (by decide) (by decide)) (fun b hb => rr b (by omega) (by omega))
    · rw [o 18 (by decide) (by decide) (by decide) (by decide), o 19 (by decide) (by decide) (by decide) (by decide), o 84 (by decide) (by decide) (by decide) (by decide), o 90 (by decide) (by decide) (by decide) (by decide)]
      exact h.2.2.2.2.1
    · rw [f1 9 (by decide), f1 10 (by decide), f1 11 (by decide), o 83 (by decide) (by decide) (by decide) (by decide), o 84 (by decide) (by decide) (by decide) (by decide), o 85 (by decide) (by decide) (by decide) (by decide)]
      exact h.2.2.2.2.2.1
    · obtain ⟨d, d1, d2, d3, d4⟩ := h.2.2.2.2.2.2.1
      refine ⟨d, d1, by rw [o 70 (by decide) (by decide) (by decide) (by decide)]; exact d2, by rw [o 84 (by decide) (by decide) (by decide) (by decide)]; exact d3, fun v hv => ?_⟩
      rw [o 82 (by decide) (by decide) (by decide) (by decide), o 100 (by decide) (by decide) (by decide) (by decide), o 99 (by decide) (by decide) (by decide) (by decide), o (72 + v) (by omega) (by omega) (by omega) (by omega)]
      exact d4 v hv
    · rw [o 89 (by decide) (by decide) (by decide) (by decide)]
      exact h.2.2.2.2.2.2.2.1
    · exact rd.2.2.1
    · intro _
      exact ⟨nv, L, by rw [e86]; exact hK, by rw [e86]; exact hLk, by rw [e86]; exact rd, by rw [e86]; exact gs⟩
  · obtain ⟨nv, L, k1, k2, k3, k4⟩ := h.2.2.2.2.2.2.2.2.2 c
    exact hQ r i w nv L ⟨h, c, k1, k2, k3, k4⟩ rfl rfl (fun _ _ => rfl)
end ZW2
/-- rising cells -/
def z_so (f : Nat → Nat) (m : Nat) : Prop := (∀ a b, a < b → b < m → f a < f b) ∧ ∀ a, a < m → f a < 36
/-- where a cell goes -/
def z_pq (f : Nat → Nat) (m c p : Nat) : Prop := p ≤ m ∧ (∀ k, k < p → f k < c) ∧ ∀ k, p ≤ k → k < m → c ≤ f k
def z_insf (f : Nat → Nat) (p c : Nat) : Nat → Nat := fun k => if k < p then f k else if k = p then c else f (k - 1)
theorem z_pq_ex {f : Nat → Nat} {c : Nat} : ∀ m, (∀ a b, a < b → b < m → f a < f b) → ∃ p, z_pq f m c p := by
  intro m
  induction m with
  | zero => exact fun _ => ⟨0, Nat.le_refl 0, fun k hk => absurd hk (Nat.not_lt_zero k), fun k _ hk => absurd hk (Nat.not_lt_zero k)⟩
  | succ m ih =>
    intro h
    obtain ⟨p, h1, h2, h3⟩ := ih (fun a b h1 h2 => h a b h1 (by omega))
    by_cases q : p = m
    · subst q
      by_cases z : f p < c
      · refine ⟨p + 1, Nat.le_refl _, fun k hk => ?_, fun k h1 h2 => by omega⟩
        by_cases y : k = p
        · rw [y]; exact z
        · exact h2 k (by omega)
      · refine ⟨p, by omega, h2, fun k h1 h2 => ?_⟩
        rw [show k = p by omega]
        omega
    · refine ⟨p, by omega, h2, fun k h4 h5 => ?_⟩
      by_cases y : k = m
      · rw [y]
        have := h3 p (Nat.le_refl _) (by omega)
        have := h p m (by omega) (by omega)
        omega
      · exact h3 k h4 (by omega)
theorem z_pq_one {f : Nat → Nat} {m c p p' : Nat} (h : z_pq f m c p) (h' : z_pq f m c p') : p = p' := by
  obtain ⟨a1, a2, a3⟩ := h
  obtain ⟨b1, b2, b3⟩ := h'
  rcases Nat.lt_trichotomy p p' with q | q | q
  · have := b2 p q
    have := a3 p (Nat.le_refl _) (by omega)
    omega
  · exact q
  · have := a2 p' q
    have := b3 p' (Nat.le_refl _) (by omega)
    omega
theorem z_so_ins {f : Nat → Nat} {m c p : Nat} (h : z_so f m) (hp : z_pq f m c p) (hc : c < 36) (hno : ¬ (p < m ∧ f p = c)) : z_so (z_insf f p c) (m + 1) := by
  obtain ⟨a1, a2, a3⟩ := hp
  have gt : ∀ k, p ≤ k → k < m → c < f k := by
    intro k h1 h2
    have := a3 k h1 h2
    by_cases q : k = p
    · have hh : f p ≠ c := fun e => hno ⟨by omega, e⟩
      subst q
      omega
    · have := h.1 p k (by omega) h2
      have := a3 p (Nat.le_refl _) (by omega)
      omega
  refine ⟨fun a b h1 h2 => ?_, fun a ha => ?_⟩
  · unfold z_insf
    by_cases q1 : a < p
    · rw [if_pos q1]
      by_cases q2 : b < p
      · rw [if_pos q2]
        exact h.1 a b h1 (by omega)
      · rw [if_neg q2]
        by_cases q3 : b = p
        · rw [if_pos q3]
          exact a2 a q1
        · rw [if_neg q3]
          have := a2 a q1
          have := gt (b - 1) (by omega) (by omega)
          omega
    · rw [if_neg q1, if_neg (show ¬ b < p by omega), if_neg (show ¬ b = p by omega)]
      by_cases q3 : a = p
      · rw [if_pos q3]
        exact gt (b - 1) (by omega) (by omega)
      · rw [if_neg q3]
        exact h.1 (a - 1) (b - 1) (by omega) (by omega)
  · unfold z_insf
    by_cases q1 : a < p
    · rw [if_pos q1]
      exact h.2 a (by omega)
    · rw [if_neg q1]
      by_cases q3 : a = p
      · rw [if_pos q3]
        exact hc
      · rw [if_neg q3]
        exact h.2 (a - 1) (by omega)
section ZIN
variable {T : kw_T} {n : Nat} {r : kw_R} {i : kw_I} {w : kw_L} {f : Nat → Nat} {m c p : Nat}
theorem z_insert3 (hS : z_S T r) (hm : m < 5) (hc : c < 36) (hso : z_so f m) (hp : z_pq f m c p) (h5 : i 64 5 = nI m) (hrow : ∀ k, k < m → i 66 k = nI (f k)) {Q : Int32 → kw_I → Prop} (h0 : (p < m ∧ f p = c) → Q 0 i) (h1 : ¬ (p < m ∧ f p = c) → ∀ i', (∀ b, b ≠ 64 → b ≠ 66 → i' b = i b) → (∀ q, q ≠ 5 → i' 64 q = i 64 q) → i' 64 5 = nI (m + 1) → (∀ k, k < m + 1 → i' 66 k = nI (z_insf f p c k)) → Q 1 i') : w_X3_insert 64 (nI c) T n r i w Q := by
  obtain ⟨a1, a2, a3⟩ := hp
  have k66 : ∀ k, k < 5 → kw_in T 1 66 (nI k) := fun k hk => z_kin (z_T66 hS) hk (by decide)
  -- cells move
  have c54 : ¬ (p < m ∧ f p = c) → w_X3_insert_54 64 (nI c) T n r w Q (nI p) i := by
    intro hno
    unfold w_X3_insert_54
    rw [h5]
    refine ⟨m - p + 1, ?_⟩
    have loop : ∀ (d t : Nat) (j : kw_I), p + d = t → t ≤ m → z_io 66 i j → (∀ k, k ≤ m → j 66 k = if k ≤ t then i 66 k else i 66 (k - 1)) → w_X3_insert_59 64 (nI c) T n r w Q (d + 1) (nI p) (nI t) j := by
      intro d
      induction d with
      | zero =>
        intro t j hd ht g1 g2
        have : t = p := by omega
        subst this
        show s_X3_insert_59 64 (nI c) T n r w Q _ (nI t) (nI t) j
        unfold s_X3_insert_59
        rw [z_r64_1 hS, nI_clamp (by omega)]
        refine ⟨fun _ => ⟨k66 t (by omega), fun j2 e2 j3 e3 => h1 hno j3 (fun b b1 b2 => by rw [e3, kw_st_offF b1, e2, kw_st_offF b2, g1 b b2]) (fun q hq => by rw [e3, kw_st_row, if_neg hq, e2, kw_st_off (by decide), g1 64 (by decide)]) ?_ (fun k hk => ?_)⟩, fun q => absurd (nI_le (Nat.le_refl _) (by omega)) q⟩
        · rw [e3, kw_st_same, e2, kw_st_off (by decide), g1 64 (by decide), h5, nI_1]
        · rw [e3, kw_st_off (by decide), e2, kw_st_row]
          unfold z_insf
          by_cases y : k = t
          · rw [if_pos y, if_neg (show ¬ k < t by omega), if_pos y]
          · rw [if_neg y, g2 k (by omega)]
            by_cases z : k < t
            · rw [if_pos (by omega), if_pos z]
              exact hrow k (by omega)
            · rw [if_neg (by omega), if_neg z, if_neg y]
              exact hrow (k - 1) (by omega)
      | succ d ih =>
        intro t j hd ht g1 g2
        show s_X3_insert_59 64 (nI c) T n r w Q _ (nI p) (nI t) j
        unfold s_X3_insert_59
        have e1 : nI t - (1 : Int32) = nI (t - 1) := pk_sub (b := 1) (by omega)
        have e2 : nI t + (-1 : Int32) = nI (t - 1) := by
          rw [show t = t - 1 + 1 by omega, z_m1', show t - 1 + 1 - 1 = t - 1 by omega]
        rw [z_r64_1 hS, e1, e2, nI_clamp (show t - 1 < 2 ^ 31 by omega), nI_clamp (show t < 2 ^ 31 by omega)]
        refine ⟨fun q => absurd q (nI_ge (by omega) (by omega)), fun _ => ⟨k66 (t - 1) (by omega), k66 t (by omega), fun j2 f2 => ih (t - 1) j2 (by omega) (by omega) (by rw [f2]; exact z_io_st g1) (fun k hk => ?_)⟩⟩
        rw [f2, kw_st_row]
        by_cases y : k = t
        · rw [if_pos y, g2 (t - 1) (by omega), if_pos (by omega), if_neg (by omega), y]
        · rw [if_neg y, g2 k hk]
          by_cases z : k ≤ t
          · rw [if_pos z, if_pos (by omega)]
          · rw [if_neg z, if_neg (by omega)]
    refine loop (m - p) m i (by omega) (Nat.le_refl _) (fun _ _ => rfl) (fun k hk => by rw [if_pos hk])
  have c34 : w_X3_insert_34 64 (nI c) T n r w Q (nI p) i := by
    unfold w_X3_insert_34
    rw [h5, z_r64_1 hS, nI_clamp (by omega)]
    refine ⟨fun q => c54 (fun z => ?_), fun q => ?_⟩
    · have := (nI_leI (by omega) (by omega)).mp q
      omega
    · have hpm : p < m := by
        rcases Nat.lt_or_ge p m with z | z
        · exact z
        · exact absurd (nI_le z (by omega)) q
      have f36 := hso.2 p hpm
      rw [hrow p hpm]
      exact ⟨k66 p (by omega), fun z => c54 (fun y => z (by rw [y.2])), fun z => h0 ⟨hpm, (nI_eq (by omega) (by omega)).mp z⟩⟩
  unfold w_X3_insert
  rw [h5]
  refine ⟨m - p + 1, ?_⟩
  have loop : ∀ (d t : Nat), p + d = t → t ≤ m → w_X3_insert_12 64 (nI c) T n r w Q (d + 1) (nI t) (nI t - 1) i := by
    intro d
    induction d with
    | zero =>
      intro t hd ht
      have : t = p := by omega
      subst this
      show s_X3_insert_12 64 (nI c) T n r w Q _ (nI t) (nI t - 1) i
      unfold s_X3_insert_12
      rw [z_r64_1 hS]
      refine ⟨fun _ => c34, fun q => ?_⟩
      have ht0 : 0 < t := by
        rcases Nat.eq_zero_or_pos t with z | z
        · exact absurd (by rw [z]; decide) q
        · exact z
      rw [show nI t - (1 : Int32) = nI (t - 1) from pk_sub (b := 1) ht0, nI_clamp (by omega), hrow (t - 1) (by omega)]
      exact ⟨k66 (t - 1) (by omega), fun _ => c34, fun z => absurd (nI_lt (a2 (t - 1) (by omega)) (by omega)) z⟩
    | succ d ih =>
      intro t hd ht
      show s_X3_insert_12 64 (nI c) T n r w Q _ (nI t) (nI t - 1) i
      unfold s_X3_insert_12
      have f36 := hso.2 (t - 1) (by omega)
      rw [z_r64_1 hS, show nI t - (1 : Int32) = nI (t - 1) from pk_sub (b := 1) (by omega), nI_clamp (by omega), hrow (t - 1) (by omega)]
      refine ⟨fun q => absurd q (nI_pos (by omega)), fun _ => ⟨k66 (t - 1) (by omega), fun z => ?_, fun z => ?_⟩⟩
      · have := (nI_ltI (by omega) (by omega)).mp z
        have := a3 (t - 1) (by omega) (by omega)
        omega
      · have := ih (t - 1) (by omega) (by omega)
        rw [Int32.sub_eq_add_neg] at this
        exact this
  exact loop (m - p) m (by omega) (Nat.le_refl _)
theorem z_eats10 (hS : z_S T r) (hm : m < 5) (hc : c < 36) (hso : z_so f m) (hp : z_pq f m c p) (h5 : i 84 35 = nI m) (hrow : ∀ k, k < m → i 101 k = nI (f k)) {Q : Int32 → kw_I → Prop} (h0 : (p < m ∧ f p = c) → Q 0 i) (h1 : ¬ (p < m ∧ f p = c) → ∀ i', (∀ b, b ≠ 84 → b ≠ 101 → i' b = i b) → (∀ q, q ≠ 35 → i' 84 q = i 84 q) → i' 84 35 = nI (m + 1) → (∀ k, k < m + 1 → i' 101 k = nI (z_insf f p c k)) → Q 1 i') : w_X10_eats 84 (nI c) T n r i w Q := by
  obtain ⟨a1, a2, a3⟩ := hp
  have k66 : ∀ k, k < 5 → kw_in T 1 101 (nI k) := fun k hk => z_kin (z_T101 hS) hk (by decide)
  have c54 : ¬ (p < m ∧ f p = c) → w_X10_eats_54 84 (nI c) T n r w Q (nI p) i := by
    intro hno
    unfold w_X10_eats_54
    rw [h5]
    refine ⟨m - p + 1, ?_⟩
    have loop : ∀ (d t : Nat) (j : kw_I), p + d = t → t ≤ m → z_io 101 i j → (∀ k, k ≤ m → j 101 k = if k ≤ t then i 101 k else i 101 (k - 1)) → w_X10_eats_59 84 (nI c) T n r w Q (d + 1) (nI p) (nI t) j := by
      intro d
      induction d with
      | zero =>
        intro t j hd ht g1 g2
        have : t = p := by omega
        subst this
        show s_X10_eats_59 84 (nI c) T n r w Q _ (nI t) (nI t) j
        unfold s_X10_eats_59
        rw [z_r84_33 hS, nI_clamp (by omega)]
        refine ⟨fun _ => ⟨k66 t (by omega), fun j2 e2 j3 e3 => h1 hno j3 (fun b b1 b2 => by rw [e3, kw_st_offF b1, e2, kw_st_offF b2, g1 b b2]) (fun q hq => by rw [e3, kw_st_row, if_neg hq, e2, kw_st_off (by decide), g1 84 (by decide)]) ?_ (fun k hk => ?_)⟩, fun q => absurd (nI_le (Nat.le_refl _) (by omega)) q⟩
        · rw [e3, kw_st_same, e2, kw_st_off (by decide), g1 84 (by decide), h5, nI_1]
        · rw [e3, kw_st_off (by decide), e2, kw_st_row]
          unfold z_insf
          by_cases y : k = t
          · rw [if_pos y, if_neg (show ¬ k < t by omega), if_pos y]
          · rw [if_neg y, g2 k (by omega)]
            by_cases z : k < t
            · rw [if_pos (by omega), if_pos z]
              exact hrow k (by omega)
            · rw [if_neg (by omega), if_neg z, if_neg y]
              exact hrow (k - 1) (by omega)
      | succ d ih =>
        intro t j hd ht g1 g2
        show s_X10_eats_59 84 (nI c) T n r w Q _ (nI p) (nI t) j
        unfold s_X10_eats_59
        have e1 : nI t - (1 : Int32) = nI (t - 1) := pk_sub (b := 1) (by omega)
        have e2 : nI t + (-1 : Int32) = nI (t - 1) := by
          rw [show t = t - 1 + 1 by omega, z_m1', show t - 1 + 1 - 1 = t - 1 by omega]
        rw [z_r84_33 hS, e1, e2, nI_clamp (show t - 1 < 2 ^ 31 by omega), nI_clamp (show t < 2 ^ 31 by omega)]
        refine ⟨fun q => absurd q (nI_ge (by omega) (by omega)), fun _ => ⟨k66 (t - 1) (by omega), k66 t (by omega), fun j2 f2 => ih (t - 1) j2 (by omega) (by omega) (by rw [f2]; exact z_io_st g1) (fun k hk => ?_)⟩⟩
        rw [f2, kw_st_row]
        by_cases y : k = t
        · rw [if_pos y, g2 (t - 1) (by omega), if_pos (by omega), if_neg (by omega), y]
        · rw [if_neg y, g2 k hk]
          by_cases z : k ≤ t
          · rw [if_pos z, if_pos (by omega)]
          · rw [if_neg z, if_neg (by omega)]
    refine loop (m - p) m i (by omega) (Nat.le_refl _) (fun _ _ => rfl) (fun k hk => by rw [if_pos hk])
  -- from the place where the search ends
  have c36 : ∀ t, t ≤ m → (t = p ∧ ¬ (p < m ∧ f p = c)) ∨ (t = p + 1 ∧ p < m ∧ f p = c) → w_X10_eats_36 84 (nI c) T n r w Q (nI t) i := by
    intro t ht hcase
    unfold w_X10_eats_36
    rw [z_r84_33 hS]
    refine ⟨fun q => ?_, fun q => ?_⟩
    · have t0 : t = 0 := by
        rcases Nat.eq_zero_or_pos t with z | z
        · exact z
        · exact absurd q (nI_nle z (by omega))
      rcases hcase with ⟨e, hno⟩ | ⟨e, _⟩
      · rw [e]
        exact c54 hno
      · omega
    · have t0 : 0 < t := by
        rcases Nat.eq_zero_or_pos t with z | z
        · exact absurd (by rw [z]; decide) q
        · exact z
      have f36 := hso.2 (t - 1) (by omega)
      rw [show nI t - (1 : Int32) = nI (t - 1) from pk_sub (b := 1) t0, nI_clamp (by omega), hrow (t - 1) (by omega)]
      refine ⟨k66 (t - 1) (by omega), fun z => ?_, fun z => ?_⟩
      · rcases hcase with ⟨e, hno⟩ | ⟨e, h1, h2⟩
        · rw [e]
          exact c54 hno
        · rw [e, show p + 1 - 1 = p by omega] at z
          exact absurd (by rw [h2]) z
      · have ze := (nI_eq (by omega) (by omega)).mp z
        rcases hcase with ⟨e, hno⟩ | ⟨e, h1, h2⟩
        · have := a2 (t - 1) (by omega)
          omega
        · exact h0 ⟨h1, h2⟩
  refine z_isCell10 (fun _ => z_t2 ?_) (fun q => absurd ⟨c, hc, rfl⟩ q)
  rw [h5]
  by_cases hdup : p < m ∧ f p = c
  · refine ⟨m - (p + 1) + 1, ?_⟩
    have loop : ∀ (d t : Nat), p + 1 + d = t → t ≤ m → w_X10_eats_14 84 (nI c) T n r w Q (d + 1) (nI t) i := by
      intro d
      induction d with
      | zero =>
        intro t hd ht
        show s_X10_eats_14 84 (nI c) T n r w Q _ (nI t) i
        unfold s_X10_eats_14
        rw [z_r84_33 hS]
        refine ⟨fun _ => c36 t ht (Or.inr ⟨by omega, hdup⟩), fun q => ?_⟩
        rw [show nI t - (1 : Int32) = nI (t - 1) from pk_sub (b := 1) (by omega), nI_clamp (by omega), hrow (t - 1) (by omega), show t - 1 = p by omega, hdup.2]
        exact ⟨k66 p (by omega), fun _ => c36 t ht (Or.inr ⟨by omega, hdup⟩), fun z => absurd (nI_le (Nat.le_refl _) (by omega)) z⟩
      | succ d ih =>
        intro t hd ht
        show s_X10_eats_14 84 (nI c) T n r w Q _ (nI t) i
        unfold s_X10_eats_14
        have f36 := hso.2 (t - 1) (by omega)
        have e2 : nI t + (-1 : Int32) = nI (t - 1) := by
          rw [show t = t - 1 + 1 by omega, z_m1', show t - 1 + 1 - 1 = t - 1 by omega]
        rw [z_r84_33 hS, show nI t - (1 : Int32) = nI (t - 1) from pk_sub (b := 1) (by omega), nI_clamp (by omega), hrow (t - 1) (by omega), e2]
        refine ⟨fun q => absurd q (nI_nle (by omega) (by omega)), fun _ => ⟨k66 (t - 1) (by omega), fun z => ?_, fun z => ih (t - 1) (by omega) (by omega)⟩⟩
        have := (nI_leI (by omega) (by omega)).mp z
        have := hso.1 p (t - 1) (by omega) (by omega)
        omega
    exact loop (m - (p + 1)) m (by omega) (Nat.le_refl _)
  · refine ⟨m - p + 1, ?_⟩
    have loop : ∀ (d t : Nat), p + d = t → t ≤ m → w_X10_eats_14 84 (nI c) T n r w Q (d + 1) (nI t) i := by
      intro d
      induction d with
      | zero =>
        intro t hd ht
        show s_X10_eats_14 84 (nI c) T n r w Q _ (nI t) i
        unfold s_X10_eats_14
        rw [z_r84_33 hS]
        refine ⟨fun _ => c36 t ht (Or.inl ⟨by omega, hdup⟩), fun q => ?_⟩
        have t0 : 0 < t := by
          rcases Nat.eq_zero_or_pos t with z | z
          · exact absurd (by rw [z]; decide) q
          · exact z
        have f36 := a2 (t - 1) (by omega)
        rw [show nI t - (1 : Int32) = nI (t - 1) from pk_sub (b := 1) (by omega), nI_clamp (by omega), hrow (t - 1) (by omega)]
        exact ⟨k66 (t - 1) (by omega), fun _ => c36 t ht (Or.inl ⟨by omega, hdup⟩), fun z => absurd (nI_le (by omega) (by omega)) z⟩
      | succ d ih =>
        intro t hd ht
        show s_X10_eats_14 84 (nI c) T n r w Q _ (nI t) i
        unfold s_X10_eats_14
        have f36 := hso.2 (t - 1) (by omega)
        have e2 : nI t + (-1 : Int32) = nI (t - 1) := by
          rw [show t = t - 1 + 1 by omega, z_m1', show t - 1 + 1 - 1 = t - 1 by omega]
        rw [z_r84_33 hS, show nI t - (1 : Int32) = nI (t - 1) from pk_sub (b := 1) (by omega), nI_clamp (by omega), hrow (t - 1) (by omega), e2]
        refine ⟨fun q => absurd q (nI_nle (by omega) (by omega)), fun _ => ⟨k66 (t - 1) (by omega), fun z => ?_, fun z => ih (t - 1) (by omega) (by omega)⟩⟩
        have := (nI_leI (by omega) (by omega)).mp z
        have := a3 (t - 1) (by omega) (by omega)
        have : f (t - 1) = c := by omega
        by_cases y : t - 1 = p
        · exact absurd ⟨by omega, by rw [← y]; exact this⟩ hdup
        · have := hso.1 p (t - 1) (by omega) (by omega)
          have := a3 p (Nat.le_refl _) (by omega)
          omega
    exact loop (m - p) m (by omega) (Nat.le_refl _)
end ZIN
/-- how cells are taken, from the m-th on; d are left -/
def z_TK (g : Nat → Int32) : Nat → Nat → (Nat → Nat) → Option (Nat × (Nat → Nat)) → Prop
  | 0, m, f, o => o = some (m, f)
  | d + 1, m, f, o => (g m = -1 ∧ (∀ k, m < k → k < 5 → g k = -1) ∧ o = some (m, f)) ∨ (g m = -1 ∧ (∃ k, m < k ∧ k < 5 ∧ g k ≠ -1) ∧ o = none) ∨ (g m ≠ -1 ∧ ¬ z_B (g m) 36 ∧ o = none) ∨ ∃ c p, c < 36 ∧ g m = nI c ∧ z_pq f m c p ∧ ((p < m ∧ f p = c ∧ o = none) ∨ (¬ (p < m ∧ f p = c) ∧ z_TK g d (m + 1) (z_insf f p c) o))
section ZTA
variable {T : kw_T} {n : Nat} {r : kw_R} {i : kw_I} {w : kw_L} {g : Nat → Int32}
theorem z_takeCells (hS : z_S T r) {Q : Int32 → kw_I → Prop} (h1 : ∀ i' m f, z_TK g 5 0 (fun _ => 0) (some (m, f)) → m ≤ 5 → z_so f m → (∀ b, ¬ (64 ≤ b ∧ b ≤ 66) → i' b = i b) → i' 64 5 = nI m → (∀ k, k < m → i' 66 k = nI (f k)) → Q 1 i') (h0 : ∀ i', z_TK g 5 0 (fun _ => 0) none → (∀ b, ¬ (64 ≤ b ∧ b ≤ 66) → i' b = i b) → Q 0 i') : w_X3_takeCells 64 (g 0) (g 1) (g 2) (g 3) (g 4) T n r i w Q := by
  unfold w_X3_takeCells
  rw [z_r64_0 hS]
  have k65 : ∀ k, k < 5 → kw_in T 1 65 (nI k) := fun k hk => z_kin (z_T65 hS) hk (by decide)
  refine ⟨k65 0 (by decide), fun i1 e1 => ⟨k65 1 (by decide), fun i2 e2 => ⟨k65 2 (by decide), fun i3 e3 => ⟨k65 3 (by decide), fun i4 e4 => ⟨k65 4 (by decide), fun i5 e5 i6 e6 => ⟨6, ?_⟩⟩⟩⟩⟩⟩
  have r65 : ∀ k, k < 5 → i6 65 k = g k := by
    intro k hk
    rw [e6, kw_st_off (by decide), e5, e4, e3, e2, e1]
    show kw_st (kw_st (kw_st (kw_st (kw_st i 65 0 (g 0)) 65 1 (g 1)) 65 2 (g 2)) 65 3 (g 3)) 65 4 (g 4) 65 k = g k
    rw [kw_st_row, kw_st_row, kw_st_row, kw_st_row, kw_st_row]
    rcases (show k = 0 ∨ k = 1 ∨ k = 2 ∨ k = 3 ∨ k = 4 by omega) with rfl | rfl | rfl | rfl | rfl <;> rfl
  have o6 : ∀ b, ¬ (64 ≤ b ∧ b ≤ 66) → i6 b = i b := fun b hb => by rw [e6, kw_st_offF (by omega), e5, kw_st_offF (by omega), e4, kw_st_offF (by omega), e3, kw_st_offF (by omega), e2, kw_st_offF (by omega), e1, kw_st_offF (by omega)]
  have ⟨Z, hZ⟩ : ∃ Z : Option (Nat × (Nat → Nat)) → Prop, Z = z_TK g 5 0 (fun _ => 0) := ⟨_, rfl⟩
  rw [← hZ] at h1 h0
  -- nothing more comes
  have over : ∀ (e k m : Nat) (f : Nat → Nat) (j : kw_I), k + e = 5 → m < k → (∀ b, ¬ (64 ≤ b ∧ b ≤ 66) → j b = i b) → j 65 = i6 65 → j 64 5 = nI m → m ≤ 5 → z_so f m → (∀ q, q < m → j 66 q = nI (f q)) → ((∀ q, k ≤ q → q < 5 → g q = -1) → Z (some (m, f))) → ((∃ q, k ≤ q ∧ q < 5 ∧ g q ≠ -1) → Z none) → w_X3_takeCells_45 64 (g 0) (g 1) (g 2) (g 3) (g 4) T n r w Q (e + 1) (nI k) j := by
    intro e
    induction e with
    | zero =>
      intro k m f j hk hm o1 o2 o3 o4 o5 o7 z1 z0
      have : k = 5 := by omega
      subst this
      exact ⟨fun _ => h1 j m f (z1 (fun q h1 h2 => by omega)) o4 o5 o1 o3 o7, fun q => absurd (by decide) q⟩
    | succ e ih =>
      intro k m f j hk hm o1 o2 o3 o4 o5 o7 z1 z0
      show s_X3_takeCells_45 64 (g 0) (g 1) (g 2) (g 3) (g 4) T n r w Q _ (nI k) j
      unfold s_X3_takeCells_45
      rw [z_r64_0 hS, nI_clamp (by omega), o2, r65 k (by omega), o3]
      refine ⟨fun q => absurd q (nI_ge (b := 5) (by omega) (by decide)), fun _ => ⟨k65 k (by omega), fun q => ?_, fun q => ?_⟩⟩
      · have zn := z0 ⟨k, Nat.le_refl _, by omega, q⟩
        exact ⟨k65 k (by omega), z_isCell9 (fun _ => z_t ⟨fun _ => h0 j zn o1, fun y => absurd (nI_lt hm (by omega)) y⟩) (fun _ => z_f (h0 j zn o1))⟩
      · show w_X3_takeCells_45 64 (g 0) (g 1) (g 2) (g 3) (g 4) T n r w Q (e + 1) (nI k + 1) j
        rw [nI_1]
        refine ih (k + 1) m f j (by omega) (by omega) o1 o2 o3 o4 o5 o7 (fun y => z1 (fun p h1 h2 => ?_)) (fun ⟨p, h1, h2, h3⟩ => z0 ⟨p, by omega, h2, h3⟩)
        by_cases y2 : p = k
        · rw [y2]; exact q
        · exact y p (by omega) h2
  have loop : ∀ (d m : Nat) (f : Nat → Nat) (j : kw_I), m + d = 5 → (∀ b, ¬ (64 ≤ b ∧ b ≤ 66) → j b = i b) → j 65 = i6 65 → j 64 5 = nI m → z_so f m → (∀ q, q < m → j 66 q = nI (f q)) → (∀ o, z_TK g d m f o → Z o) → w_X3_takeCells_45 64 (g 0) (g 1) (g 2) (g 3) (g 4) T n r w Q (d + 1) (nI m) j := by
    intro d
    induction d with
    | zero =>
      intro m f j hd o1 o2 o3 o5 o7 hz
      have : m = 5 := by omega
      subst this
      exact ⟨fun _ => h1 j 5 f (hz _ rfl) (by decide) o5 o1 o3 o7, fun q => absurd (by decide) q⟩
    | succ d ih =>
      intro m f j hd o1 o2 o3 o5 o7 hz
      show s_X3_takeCells_45 64 (g 0) (g 1) (g 2) (g 3) (g 4) T n r w Q _ (nI m) j
      unfold s_X3_takeCells_45
      rw [z_r64_0 hS, nI_clamp (by omega), o2, r65 m (by omega), o3]
      refine ⟨fun q => absurd q (nI_ge (b := 5) (by omega) (by decide)), fun _ => ⟨k65 m (by omega), fun q => ⟨k65 m (by omega), z_isCell9 (fun hb => z_t ⟨fun y => absurd y (nI_nlt (Nat.le_refl _) (by omega)), fun _ => ⟨k65 m (by omega), ?_⟩⟩) (fun hb => z_f (h0 j (hz none (Or.inr (Or.inr (Or.inl ⟨q, hb, rfl⟩)))) o1))⟩, fun q => ?_⟩⟩
      · obtain ⟨c, hc, ec⟩ := hb
        obtain ⟨p, hp⟩ := z_pq_ex (f := f) (c := c) m o5.1
        rw [ec]
        refine z_insert3 hS (by omega) hc o5 hp o3 o7 (fun hd2 => z_f2 (h0 j (hz none (Or.inr (Or.inr (Or.inr ⟨c, p, hc, ec, hp, Or.inl ⟨hd2.1, hd2.2, rfl⟩⟩)))) o1)) (fun hno j2 b1 b2 b3 b4 => z_t2 ?_)
        show w_X3_takeCells_45 64 (g 0) (g 1) (g 2) (g 3) (g 4) T n r w Q (d + 1) (nI m + 1) j2
        rw [nI_1]
        exact ih (m + 1) (z_insf f p c) j2 (by omega) (fun b hb => by rw [b1 b (by omega) (by omega)]; exact o1 b hb) (by rw [b1 65 (by decide) (by decide)]; exact o2) b3 (z_so_ins o5 hp hc hno) b4 (fun o ho => hz o (Or.inr (Or.inr (Or.inr ⟨c, p, hc, ec, hp, Or.inr ⟨hno, ho⟩⟩))))
      · show w_X3_takeCells_45 64 (g 0) (g 1) (g 2) (g 3) (g 4) T n r w Q (d + 1) (nI m + 1) j
        rw [nI_1]
        exact over d (m + 1) m f j (by omega) (by omega) o1 o2 o3 (by omega) o5 o7 (fun y => hz _ (Or.inl ⟨q, fun k h1 h2 => y k (by omega) h2, rfl⟩)) (fun ⟨k, h1, h2, h3⟩ => hz _ (Or.inr (Or.inl ⟨q, ⟨k, by omega, h2, h3⟩, rfl⟩)))
  exact loop 5 0 (fun _ => 0) i6 (by omega) o6 rfl (by rw [e6, kw_st_same]; rfl) ⟨fun a b _ h => absurd h (Nat.not_lt_zero b), fun a h => absurd h (Nat.not_lt_zero a)⟩ (fun q hq => absurd hq (Nat.not_lt_zero q)) (fun o ho => by rw [hZ]; exact ho)
end ZTA
