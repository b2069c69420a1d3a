-- NUMBERS
theorem z_lit (n : Nat) : (OfNat.ofNat n : Int32) = nI n := rfl
theorem z_in_iff {k N : Nat} (hk : k < 2 ^ 31) (hN : N < 2 ^ 31) : vp_in (nI k) N ↔ k < N := by
  rw [vp_in_iff, nI_toInt hk]
  omega
theorem z_kin {T : kw_T} {t a m k : Nat} (hT : T a = (t, m)) (hk : k < m) (hm : m < 2 ^ 31) : kw_in T t a (nI k) := by
  unfold kw_in
  rw [hT]
  exact ⟨rfl, vp_in_nI hk hm⟩
/-- a number within 0 .. m - 1 -/
def z_B (x : Int32) (m : Nat) : Prop := ∃ k, k < m ∧ x = nI k
theorem z_B_iff {x : Int32} {m : Nat} (hm : m < 2 ^ 31) : z_B x m ↔ ¬ x < 0 ∧ x < nI m := by
  constructor
  · rintro ⟨k, hk, rfl⟩
    exact ⟨nI_pos (by omega), nI_lt hk hm⟩
  · rintro ⟨h1, h2⟩
    obtain ⟨j, hj, rfl⟩ := nI_of h1
    exact ⟨j, (nI_ltI hj hm).mp h2, rfl⟩
theorem z_B_le {x : Int32} {m : Nat} (hm : m + 1 < 2 ^ 31) : z_B x (m + 1) ↔ ¬ x < 0 ∧ x ≤ nI m := by
  constructor
  · rintro ⟨k, hk, rfl⟩
    exact ⟨nI_pos (by omega), nI_le (by omega) (by omega)⟩
  · rintro ⟨h1, h2⟩
    obtain ⟨j, hj, rfl⟩ := nI_of h1
    exact ⟨j, by have := (nI_leI hj (by omega)).mp h2; omega, rfl⟩
theorem z_B_nI {k m : Nat} (hk : k < 2 ^ 31) : z_B (nI k) m ↔ k < m := by
  constructor
  · rintro ⟨j, hj, e⟩
    by_cases h : j < 2 ^ 31
    · rw [(nI_eq hk h).mp e]
      exact hj
    · omega
  · exact fun h => ⟨k, h, rfl⟩
section ZN
variable {T : kw_T} {n : Nat} {r : kw_R} {i : kw_I} {w : kw_L} {Q : Int32 → Prop} {x lo hi : Int32}
theorem z_lies_t (h1 : ¬ x < lo) (h2 : ¬ hi < x) (h : Q 1) : w_X10_lies x lo hi T n r i w Q := ⟨fun c => absurd c h1, fun _ => ⟨fun c => absurd c h2, fun _ => h⟩⟩
theorem z_lies_f (h1 : x < lo ∨ hi < x) (h : Q 0) : w_X10_lies x lo hi T n r i w Q := ⟨fun _ => h, fun c => ⟨fun _ => h, fun d => (h1.elim c d).elim⟩⟩
/-- lies(x, 0, m) -/
theorem z_lies {m : Nat} (hm : m + 1 < 2 ^ 31) (ht : z_B x (m + 1) → Q 1) (hf : ¬ z_B x (m + 1) → Q 0) : w_X10_lies x 0 (nI m) T n r i w Q := by
  by_cases hb : z_B x (m + 1)
  · have h := (z_B_le hm).mp hb
    exact z_lies_t h.1 (fun c => absurd h.2 (Int32.not_le.mpr c)) (ht hb)
  · refine z_lies_f ?_ (hf hb)
    by_cases h0 : x < 0
    · exact Or.inl h0
    · right
      by_cases h1 : nI m < x
      · exact h1
      · exact absurd ((z_B_le hm).mpr ⟨h0, Int32.not_lt.mp h1⟩) hb
theorem z_isCell9 (ht : z_B x 36 → Q 1) (hf : ¬ z_B x 36 → Q 0) : w_X9_isCell x T n r i w Q := by
  unfold w_X9_isCell
  have hb := z_B_iff (x := x) (m := 36) (by decide)
  refine ⟨fun h => hf (fun c => absurd h (hb.mp c).1), fun h => ⟨fun h2 => ?_, fun h2 => ?_⟩⟩
  all_goals first | exact ht (hb.mpr ⟨h, h2⟩) | exact ht (hb.mpr ⟨h, Int32.not_le.mp h2⟩) | exact hf (fun c => absurd (hb.mp c).2 h2) | exact hf (fun c => absurd (hb.mp c).2 (Int32.not_lt.mpr h2))
theorem z_isColour9 (ht : z_B x 8 → Q 1) (hf : ¬ z_B x 8 → Q 0) : w_X9_isColour x T n r i w Q := by
  unfold w_X9_isColour
  have hb := z_B_iff (x := x) (m := 8) (by decide)
  refine ⟨fun h => hf (fun c => absurd h (hb.mp c).1), fun h => ⟨fun h2 => ?_, fun h2 => ?_⟩⟩
  all_goals first | exact ht (hb.mpr ⟨h, h2⟩) | exact ht (hb.mpr ⟨h, Int32.not_le.mp h2⟩) | exact hf (fun c => absurd (hb.mp c).2 h2) | exact hf (fun c => absurd (hb.mp c).2 (Int32.not_lt.mpr h2))
theorem z_isPicture9 (ht : z_B x 3 → Q 1) (hf : ¬ z_B x 3 → Q 0) : w_X9_isPicture x T n r i w Q := by
  unfold w_X9_isPicture
  have hb := z_B_iff (x := x) (m := 3) (by decide)
  refine ⟨fun h => hf (fun c => absurd h (hb.mp c).1), fun h => ⟨fun h2 => ?_, fun h2 => ?_⟩⟩
  all_goals first | exact ht (hb.mpr ⟨h, h2⟩) | exact ht (hb.mpr ⟨h, Int32.not_le.mp h2⟩) | exact hf (fun c => absurd (hb.mp c).2 h2) | exact hf (fun c => absurd (hb.mp c).2 (Int32.not_lt.mpr h2))
theorem z_b0 : kw_b 0 := Or.inl rfl
theorem z_b1 : kw_b 1 := Or.inr rfl
theorem z_isCell10 (ht : z_B x 36 → Q 1) (hf : ¬ z_B x 36 → Q 0) : w_X10_isCell x T n r i w Q := z_lies (m := 35) (by decide) (fun h => ⟨z_b1, ht h⟩) (fun h => ⟨z_b0, hf h⟩)
theorem z_isColour10 (ht : z_B x 8 → Q 1) (hf : ¬ z_B x 8 → Q 0) : w_X10_isColour x T n r i w Q := z_lies (m := 7) (by decide) (fun h => ⟨z_b1, ht h⟩) (fun h => ⟨z_b0, hf h⟩)
/-- behind a truth -/
theorem z_t {A B : Prop} (h : B) : ((1 : Int32) = 0 → A) ∧ (¬ (1 : Int32) = 0 → B) := ⟨fun c => absurd c (by decide), fun _ => h⟩
theorem z_f {A B : Prop} (h : A) : ((0 : Int32) = 0 → A) ∧ (¬ (0 : Int32) = 0 → B) := ⟨fun _ => h, fun c => absurd rfl c⟩
theorem z_t2 {A B : Prop} (h : A) : (¬ (1 : Int32) = 0 → A) ∧ ((1 : Int32) = 0 → B) := ⟨fun _ => h, fun c => absurd c (by decide)⟩
theorem z_f2 {A B : Prop} (h : B) : (¬ (0 : Int32) = 0 → A) ∧ ((0 : Int32) = 0 → B) := ⟨fun c => absurd rfl c, fun _ => h⟩
end ZN
