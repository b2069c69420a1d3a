-- HOW IT BEGINS: THE CLASS
theorem z_mT_off {T : kw_T} {a b N K : Nat} (h : b < a ∨ a + N < b) : kw_mT T a N K b = T b := by
  unfold kw_mT
  rw [if_neg (by omega), if_neg (by omega)]
set_option maxRecDepth 20000 in
theorem z_init9 {Q : kw_T → Nat → kw_R → kw_I → kw_L → Prop} (hQ : ∀ T r i w, (∀ a, a < 84 → T a = z_tl.getD a (99, 0)) → (∀ a, 84 ≤ a → T a = (99, 0)) → (∀ q ∈ z_rl, q.1 ≠ 84 → r q.1 q.2.1 = q.2.2) → (∀ j, r 16 j = 0) → (∀ j, r 17 j = 0) → z_f6 i 2 → (i 1 9 = 0 ∧ i 1 10 = 0 ∧ i 1 11 = -1 ∧ i 1 12 = 1) → i 18 1 = 0 → (∀ k, i 19 k = 0) → i 24 6 = 0 → i 70 2 = 0 → (∀ k, i 83 k = 0) → Q T 84 r i w) : w_X9_init 1 (kw_row (fun _ => (99, 0)) 1 (0, 9)) 2 (kw_row (fun _ _ => 0) 1 (fun _ => 0)) (kw_row (fun _ _ => 0) 1 (fun _ => 0)) (fun _ _ => 0) Q := by
  have al : ∀ a k, 0 < a → a + k ≤ 200 → kw_al a k := fun a k h1 h2 => ⟨h1, by unfold kw_SB; omega⟩
  refine ⟨al _ _ (by decide) (by decide), ?_⟩
  rintro _ _ _ rfl rfl rfl 
  refine ⟨al _ _ (by decide) (by decide), ?_⟩
  rintro _ _ _ rfl rfl rfl 
  refine ⟨rfl, ?_⟩
  rintro _ rfl
  refine ⟨al _ _ (by decide) (by decide), ?_⟩
  rintro _ _ _ rfl rfl rfl 
  refine ⟨rfl, ?_⟩
  rintro _ rfl
  refine ⟨al _ _ (by decide) (by decide), ?_⟩
  rintro _ _ rfl rfl 
  refine ⟨rfl, ?_⟩
  rintro _ rfl
  refine ⟨al _ _ (by decide) (by decide), ?_⟩
  rintro _ _ rfl rfl 
  refine ⟨rfl, ?_⟩
  rintro _ rfl
  refine ⟨al _ _ (by decide) (by decide), ?_⟩
  rintro _ _ rfl rfl 
  refine ⟨rfl, ?_⟩
  rintro _ rfl
  rintro _ rfl
  rintro _ rfl
  rintro _ rfl
  refine z_fill (a := 14) (m := 8) rfl (by decide) fun j hio h14 => ?_
  refine ⟨z_kin (a := 15) (m := 2) (k := 0) rfl (by decide) (by decide), ?_⟩
  rintro _ rfl
  refine ⟨rfl, ?_⟩
  rintro _ rfl
  refine ⟨al _ _ (by decide) (by decide), ?_⟩
  rintro _ _ rfl rfl 
  refine ⟨rfl, ?_⟩
  rintro _ rfl
  refine ⟨al _ _ (by decide) (by decide), ?_⟩
  rintro _ _ _ rfl rfl rfl 
  refine ⟨al _ _ (by decide) (by decide), ?_⟩
  rintro _ _ rfl rfl 
  refine ⟨rfl, ?_⟩
  rintro _ rfl
  rintro _ rfl
  refine ⟨rfl, ?_⟩
  rintro _ rfl
  refine ⟨al _ _ (by decide) (by decide), ?_⟩
  rintro _ _ _ rfl rfl rfl 
  refine ⟨al _ _ (by decide) (by decide), ?_⟩
  rintro _ _ rfl rfl 
  refine ⟨rfl, ?_⟩
  rintro _ rfl
  refine ⟨al _ _ (by decide) (by decide), ?_⟩
  rintro _ _ rfl rfl 
  refine ⟨rfl, ?_⟩
  rintro _ rfl
  rintro _ rfl
  rintro _ rfl
  rintro _ rfl
  rintro _ rfl
  rintro _ rfl
  rintro _ rfl
  rintro _ rfl
  rintro _ rfl
  refine ⟨rfl, ?_⟩
  rintro _ rfl
  refine ⟨al _ _ (by decide) (by decide), ?_⟩
  rintro _ _ _ rfl rfl rfl 
  refine ⟨al _ _ (by decide) (by decide), ?_⟩
  rintro _ _ _ rfl rfl rfl 
  refine ⟨al _ _ (by decide) (by decide), ?_⟩
  rintro _ _ rfl rfl 
  refine ⟨rfl, ?_⟩
  rintro _ rfl
  refine ⟨al _ _ (by decide) (by decide), ?_⟩
  rintro _ _ rfl rfl 
  refine ⟨rfl, ?_⟩
  rintro _ rfl
  refine ⟨al _ _ (by decide) (by decide), ?_⟩
  rintro _ _ rfl rfl 
  refine ⟨rfl, ?_⟩
  rintro _ rfl
  refine ⟨al _ _ (by decide) (by decide), ?_⟩
  rintro _ _ rfl rfl 
  refine ⟨rfl, ?_⟩
  rintro _ rfl
  refine ⟨al _ _ (by decide) (by decide), ?_⟩
  rintro _ _ rfl rfl 
  refine ⟨rfl, ?_⟩
  rintro _ rfl
  rintro _ rfl
  rintro _ rfl
  rintro _ rfl
  refine ⟨rfl, ?_⟩
  rintro _ rfl
  refine ⟨al _ _ (by decide) (by decide), ?_⟩
  rintro _ _ _ rfl rfl rfl 
  refine ⟨rfl, ?_⟩
  rintro _ rfl
  refine ⟨al _ _ (by decide) (by decide), ?_⟩
  rintro _ _ _ rfl rfl rfl 
  refine ⟨rfl, ?_⟩
  rintro _ rfl
  rintro _ rfl
  rintro _ rfl
  refine ⟨rfl, ?_⟩
  rintro _ rfl
  refine ⟨al _ _ (by decide) (by decide), ?_⟩
  rintro _ _ _ rfl rfl rfl 
  refine ⟨rfl, ?_⟩
  refine ⟨al _ _ (by decide) (by decide), ?_⟩
  rintro _ _ _ rfl rfl rfl 
  refine ⟨rfl, ?_⟩
  rintro _ rfl
  rintro _ rfl
  rintro _ rfl
  refine ⟨al _ _ (by decide) (by decide), ?_⟩
  rintro _ _ _ rfl rfl rfl 
  refine ⟨rfl, ?_⟩
  rintro _ rfl
  refine ⟨al _ _ (by decide) (by decide), ?_⟩
  rintro _ _ rfl rfl 
  refine ⟨rfl, ?_⟩
  rintro _ rfl
  refine ⟨al _ _ (by decide) (by decide), ?_⟩
  rintro _ _ rfl rfl 
  refine ⟨rfl, ?_⟩
  rintro _ rfl
  rintro _ rfl
  refine ⟨al _ _ (by decide) (by decide), ?_⟩
  rintro _ _ rfl rfl 
  refine ⟨rfl, ?_⟩
  rintro _ rfl
  rintro _ rfl
  rintro _ rfl
  rintro _ rfl
  refine ⟨rfl, ?_⟩
  rintro _ rfl
  refine ⟨rfl, ?_⟩
  rintro _ rfl
  refine ⟨al _ _ (by decide) (by decide), ?_⟩
  rintro _ _ _ rfl rfl rfl 
  refine ⟨al _ _ (by decide) (by decide), ?_⟩
  rintro _ _ rfl rfl 
  refine ⟨rfl, ?_⟩
  rintro _ rfl
  refine ⟨al _ _ (by decide) (by decide), ?_⟩
  rintro _ _ rfl rfl 
  refine ⟨rfl, ?_⟩
  rintro _ rfl
  refine ⟨al _ _ (by decide) (by decide), ?_⟩
  rintro _ _ rfl rfl 
  refine ⟨rfl, ?_⟩
  rintro _ rfl
  refine ⟨al _ _ (by decide) (by decide), ?_⟩
  rintro _ _ rfl rfl 
  refine ⟨rfl, ?_⟩
  rintro _ rfl
  refine ⟨al _ _ (by decide) (by decide), ?_⟩
  rintro _ _ rfl rfl 
  refine ⟨rfl, ?_⟩
  rintro _ rfl
  rintro _ rfl
  rintro _ rfl
  refine ⟨rfl, ?_⟩
  rintro _ rfl
  refine ⟨al _ _ (by decide) (by decide), ?_⟩
  rintro _ _ _ rfl rfl rfl 
  refine ⟨al _ _ (by decide) (by decide), ?_⟩
  rintro _ _ _ rfl rfl rfl 
  refine ⟨rfl, ?_⟩
  rintro _ rfl
  refine ⟨al _ _ (by decide) (by decide), ?_⟩
  rintro _ _ rfl rfl 
  refine ⟨rfl, ?_⟩
  rintro _ rfl
  rintro _ rfl
  rintro _ rfl
  refine ⟨rfl, ?_⟩
  rintro _ rfl
  refine ⟨al _ _ (by decide) (by decide), ?_⟩
  rintro _ _ rfl rfl 
  refine ⟨rfl, ?_⟩
  rintro _ rfl
  rintro _ rfl
  rintro _ rfl
  rintro _ rfl
  rintro _ rfl
  refine hQ _ _ _ _ ?_ (fun a ha => ?_) ?_ (fun k => rfl) (fun k => rfl) ⟨fun p v hp => ?_, fun q c hq => ?_, fun c hc => ?_, ?_, ?_, ?_, ?_, ?_⟩ ⟨rfl, rfl, rfl, rfl⟩ rfl (fun k => rfl) rfl rfl (fun k => rfl)
  · decide +kernel
  · repeat first | rw [z_row_off (by omega)] | rw [z_mT_off (by omega)]
  · decide +kernel
  · rcases (show p = 0 ∨ p = 1 ∨ p = 2 ∨ p = 3 ∨ p = 4 ∨ p = 5 by omega) with e | e | e | e | e | e
    · subst e; exact (congrFun (hio 4 (by decide)) v).trans rfl
    · subst e; exact (congrFun (hio 5 (by decide)) v).trans rfl
    · subst e; exact (congrFun (hio 6 (by decide)) v).trans rfl
    · subst e; exact (congrFun (hio 7 (by decide)) v).trans rfl
    · subst e; exact (congrFun (hio 8 (by decide)) v).trans rfl
    · subst e; exact (congrFun (hio 9 (by decide)) v).trans rfl
  · rcases (show q = 0 ∨ q = 1 ∨ q = 2 by omega) with e | e | e
    · subst e; exact (congrFun (hio 11 (by decide)) c).trans rfl
    · subst e; exact (congrFun (hio 12 (by decide)) c).trans rfl
    · subst e; exact (congrFun (hio 13 (by decide)) c).trans rfl
  · exact h14 c hc
  · rfl
  · exact (congrFun (hio 15 (by decide)) 1).trans rfl
  · exact (congrFun (hio 2 (by decide)) 5).trans rfl
  · exact (congrFun (hio 2 (by decide)) 6).trans rfl
  · exact (congrFun (hio 2 (by decide)) 7).trans rfl
theorem z_k0_at : z_k0 178 = 0 ∧ z_k0 179 = 0 ∧ z_k0 180 = -1 ∧ z_k0 176 = 10 ∧ z_k0 177 = 0 := by decide +kernel
theorem z_init : lw_init z_Inv := by
  refine z_init9 fun T r i w a1 a2 a3 a4 a5 a6 a7 a8 a9 a10 a11 a12 => ⟨rfl, ?_⟩
  refine z_init10 fun T' r' i' b1 b2 b3 b4 b5 b6 b7 b8 b9 b10 b11 b12 => ⟨rfl, ?_⟩
  have hS : z_S T' r' := by
    refine ⟨fun a ha => ?_, fun q hq => ?_⟩
    · rcases Nat.lt_or_ge a 84 with y | y
      · rw [b1 a y]; exact a1 a y
      · exact b3 a y ha
    · by_cases y : q.1 = 84
      · rw [y]; exact b5 q hq y
      · rw [b4 _ y]; exact a3 q hq y
  have T0 : ∀ a, 103 ≤ a → T' a = (99, 0) := fun a ha => by rw [b2 a ha]; exact a2 a (by omega)
  have hi : ∀ b, b < 84 → i' b = i b := b6
  have r16 : ∀ j, r' 16 j = 0 := fun j => by rw [b4 16 (by decide)]; exact a4 j
  have r17 : ∀ j, r' 17 j = 0 := fun j => by rw [b4 17 (by decide)]; exact a5 j
  have kz : ∀ k, k < 168 → i' 86 k = 0 := fun k hk => by
    rw [b9]
    unfold z_k0
    rw [if_neg (by omega), if_neg (by omega), if_neg (by omega)]
  have k1 : ∀ c, c < 8 → i' 86 (168 + c) = 1 := fun c hc => by
    rw [b9]
    unfold z_k0
    rw [if_pos (by omega)]
  obtain ⟨z178, z179, z180, z176, z177⟩ := z_k0_at
  obtain ⟨f1, f2, f3, f4, f5, f6, f7, f8⟩ := a6
  refine ⟨hS, ⟨Nat.le_refl _, fun a ha => ?_⟩, ⟨⟨fun j v hj hv => ?_, fun q c hq hc => ?_, fun c hc => ?_, fun t ht => ?_, ?_, ?_, ?_⟩, ⟨0, by decide, by rw [b9, z178]; rfl, fun v hv => absurd hv (Nat.not_lt_zero v), fun q c hq hc => ?_, fun c hc => ?_, ?_, ?_⟩, ⟨fun j hj => ⟨Or.inl (r16 j), by rw [r16]; decide⟩, 0, by decide, by rw [b9, z179]; rfl, Or.inl (by rw [b9, z180]), fun j hj => absurd hj (Nat.not_lt_zero j)⟩⟩, ⟨fun k hk => ⟨by rw [b10]; exact z_b0, fun _ => r17 k, fun z => absurd (b10 k) z⟩, fun _ => r17 0⟩, ⟨0, by decide, ?_, ?_, fun j hj => ?_⟩, ⟨?_, ?_, ?_, ?_, ?_, ?_, ?_⟩, ⟨0, by decide, ?_, ?_, fun v hv => absurd hv (Nat.not_lt_zero v)⟩, b11, ?_, fun z => ?_⟩
  · rcases Nat.lt_or_ge a 103 with y | y
    · exact y
    · rw [T0 a y] at ha
      exact absurd ha (by decide)
  · rw [hi _ (by omega), kz _ (by omega)]; exact f1 j v hj
  · rw [hi _ (by omega), kz _ (by omega)]; exact f2 q c hq
  · rw [hi _ (by omega), k1 c hc]; exact f3 c hc
  · rcases (show t = 0 ∨ t = 1 by omega) with e | e
    · subst e
      rw [hi _ (by decide), b9, show 176 + 0 = 176 from rfl, z176]; exact f4
    · subst e
      rw [hi _ (by decide), b9, show 176 + 1 = 177 from rfl, z177]; exact f5
  · rw [hi _ (by decide), b9, z178]; exact f6
  · rw [hi _ (by decide), b9, z179]; exact f7
  · rw [hi _ (by decide), b9, z180]; exact f8
  · rw [kz _ (by omega)]; exact ⟨0, by decide, rfl⟩
  · rw [k1 c hc]; exact ⟨1, by decide, rfl⟩
  · rw [b9, z176]; exact ⟨10, by decide, rfl⟩
  · rw [b9, z177]; exact ⟨0, by decide, rfl⟩
  · rw [hi 18 (by decide), a8]; rfl
  · rw [b7.2.2.1]; rfl
  · rw [hi 19 (by decide), a9, b12]
    exact ⟨0, by decide, rfl, rfl⟩
  · rw [hi 1 (by decide), a7.1, b7.1]
  · rw [hi 1 (by decide), a7.2.1, b7.2.1]
  · rw [hi 1 (by decide), a7.2.2.1, b7.2.2.2.1]
  · rw [hi 83 (by decide), a12, b8]
  · rw [hi 83 (by decide), a12, b8]
  · rw [hi 83 (by decide), a12, b8]
  · rw [hi 83 (by decide), a12, b8]
  · rw [hi 70 (by decide), a11]; rfl
  · rw [b7.2.2.2.2]; rfl
  · rw [hi 24 (by decide)]; exact a10
  · rw [hi 1 (by decide), a7.2.2.2] at z
    exact absurd z (by decide)
