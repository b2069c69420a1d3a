-- REFUSALS, TAPE, NUMBERS
theorem z_Inv_sc {T : kw_T} {n : Nat} {r : kw_R} {i i' : kw_I} {w : kw_L} (h : z_Inv T n r i w) (hi : ∀ b, b ≠ 1 → b ≠ 18 → b ≠ 19 → b ≠ 83 → b ≠ 84 → b ≠ 85 → b ≠ 90 → b ≠ 91 → i' b = i b) (h12 : i' 1 12 = i 1 12) (h36 : i' 84 36 = i 84 36) (htp : z_tp (i' 18 1) (i' 19) (i' 84 9) (i' 90)) (hsc : z_sc (i' 1 9) (i' 1 10) (i' 1 11) (i' 83) (i' 84 0) (i' 84 5) (i' 84 10) (i' 85)) : z_Inv T n r i' w := by
  obtain ⟨c1, c2, ⟨n1, n2, n3⟩, c4, c5, c6, c7, c8, c9, c10⟩ := h
  have e86 : i' 86 = i 86 := hi 86 (by decide) (by decide) (by decide) (by decide) (by decide) (by decide) (by decide) (by decide)
  have hd : ∀ b, 103 ≤ b → i' b = i b := fun b hb => hi b (by omega) (by omega) (by omega) (by omega) (by omega) (by omega) (by omega) (by omega)
  refine ⟨c1, c2, ⟨?_, ?_, ?_⟩, ?_, htp, hsc, ?_, ?_, ?_, ?_⟩
  · rw [e86]
    exact z_SK_eq n1 (by rw [hi 2 (by decide) (by decide) (by decide) (by decide) (by decide) (by decide) (by decide) (by decide)]; exact ⟨rfl, rfl, rfl⟩) (fun b b1 b2 => hi b (by omega) (by omega) (by omega) (by omega) (by omega) (by omega) (by omega) (by omega)) (fun _ _ => rfl)
  · rw [e86]
    exact n2
  · rw [e86]
    exact z_laws_eq n3 (fun _ _ => rfl) (fun _ _ _ => rfl) (fun a b a1 _ b1 _ => hd b (by omega))
  · exact z_im_eq c4 (hi 87 (by decide) (by decide) (by decide) (by decide) (by decide) (by decide) (by decide) (by decide)) (hi 88 (by decide) (by decide) (by decide) (by decide) (by decide) (by decide) (by decide) (by decide)) hd
  · obtain ⟨d, d1, d2, d3, d4⟩ := c7
    refine ⟨d, d1, by rw [hi 70 (by decide) (by decide) (by decide) (by decide) (by decide) (by decide) (by decide) (by decide)]; exact d2, by rw [h36]; exact d3, fun v hv => ?_⟩
    rw [hi 82 (by decide) (by decide) (by decide) (by decide) (by decide) (by decide) (by decide) (by decide), hi 100 (by decide) (by decide) (by decide) (by decide) (by decide) (by decide) (by decide) (by decide), hi 99 (by decide) (by decide) (by decide) (by decide) (by decide) (by decide) (by decide) (by decide), hi (72 + v) (by omega) (by omega) (by omega) (by omega) (by omega) (by omega) (by omega) (by omega)]
    exact d4 v hv
  · rw [hi 89 (by decide) (by decide) (by decide) (by decide) (by decide) (by decide) (by decide) (by decide)]
    exact c8
  · rw [hi 24 (by decide) (by decide) (by decide) (by decide) (by decide) (by decide) (by decide) (by decide)]
    exact c9
  · intro q
    rw [h12] at q
    obtain ⟨nv, L, k1, k2, k3, k4⟩ := c10 q
    rw [e86]
    exact ⟨nv, L, k1, k2, z_rd_eq k3 (hi 24 (by decide) (by decide) (by decide) (by decide) (by decide) (by decide) (by decide) (by decide)) (hi 26 (by decide) (by decide) (by decide) (by decide) (by decide) (by decide) (by decide) (by decide)) (hi 27 (by decide) (by decide) (by decide) (by decide) (by decide) (by decide) (by decide) (by decide)) (by rw [hi 29 (by decide) (by decide) (by decide) (by decide) (by decide) (by decide) (by decide) (by decide)]) hd rfl (by rw [hi 23 (by decide) (by decide) (by decide) (by decide) (by decide) (by decide) (by decide) (by decide)]) (fun b b1 b2 => hi b (by omega) (by omega) (by omega) (by omega) (by omega) (by omega) (by omega) (by omega)) k1.1, z_gs_eq k4 (by rw [hi 52 (by decide) (by decide) (by decide) (by decide) (by decide) (by decide) (by decide) (by decide)]; exact ⟨rfl, rfl, rfl⟩) (fun b b1 b2 => hi b (by omega) (by omega) (by omega) (by omega) (by omega) (by omega) (by omega) (by omega))⟩
section ZRF
variable {T : kw_T} {n : Nat} {r : kw_R} {i : kw_I} {w : kw_L}
/-- the numbers of refusals: by what, where the class and where the reference counts it -/
def z_rfs (x : Int32) (k k' : Nat) : Prop := (x = -1 ∧ k = 0 ∧ k' = 1) ∨ (x = -2 ∧ k = 1 ∧ k' = 2) ∨ (x = -5 ∧ k = 2 ∧ k' = 5) ∨ (x = -6 ∧ k = 3 ∧ k' = 6)
theorem z_ref9 (hS : z_S T r) {x : Int32} {k k' : Nat} (hx : z_rfs x k k') {Q : Int32 → kw_I → Prop} (hQ : Q x (kw_st (kw_st i 1 9 x) 83 k (i 83 k + 1))) : w_X9_refuse 1 x T n r i w Q := by
  intro i2 e2
  have e83 : ∀ k, i2 83 k = i 83 k := fun k => by rw [e2, kw_st_off (by decide)]
  rw [z_r1_8 hS]
  have k83 : ∀ k, k < 4 → kw_in T 1 83 (nI k) := fun k hk => z_kin (z_T83 hS) hk (by decide)
  rcases hx with ⟨rfl, rfl, rfl⟩ | ⟨rfl, rfl, rfl⟩ | ⟨rfl, rfl, rfl⟩ | ⟨rfl, rfl, rfl⟩
  · exact ⟨fun h => absurd rfl h, fun _ => ⟨k83 0 (by decide), k83 0 (by decide), fun i3 e3 => by rw [e83, e2] at e3; rw [e3]; exact hQ⟩⟩
  · exact ⟨fun _ => ⟨fun h => absurd rfl h, fun _ => ⟨k83 1 (by decide), k83 1 (by decide), fun i3 e3 => by rw [e83, e2] at e3; rw [e3]; exact hQ⟩⟩, fun h => absurd h (by decide)⟩
  · exact ⟨fun _ => ⟨fun _ => ⟨fun h => absurd rfl h, fun _ => ⟨k83 2 (by decide), k83 2 (by decide), fun i3 e3 => by rw [e83, e2] at e3; rw [e3]; exact hQ⟩⟩, fun h => absurd h (by decide)⟩, fun h => absurd h (by decide)⟩
  · exact ⟨fun _ => ⟨fun _ => ⟨fun _ => ⟨k83 3 (by decide), k83 3 (by decide), fun i3 e3 => by rw [e83, e2] at e3; rw [e3]; exact hQ⟩, fun h => absurd h (by decide)⟩, fun h => absurd h (by decide)⟩, fun h => absurd h (by decide)⟩
theorem z_ref10 (hS : z_S T r) {x : Int32} {k k' : Nat} (hx : z_rfs x k k') {Q : Int32 → kw_I → Prop} (hQ : Q x (kw_st (kw_st i 84 0 x) 85 k' (i 85 k' + 1))) : w_X10_refuses 84 x T n r i w Q := by
  intro i2 e2
  have e85 : ∀ k, i2 85 k = i 85 k := fun k => by rw [e2, kw_st_off (by decide)]
  rw [z_r84_1 hS]
  have k85 : ∀ k, k < 7 → kw_in T 1 85 (nI k) := fun k hk => z_kin (z_T85 hS) hk (by decide)
  rcases hx with ⟨rfl, rfl, rfl⟩ | ⟨rfl, rfl, rfl⟩ | ⟨rfl, rfl, rfl⟩ | ⟨rfl, rfl, rfl⟩
  · exact ⟨k85 1 (by decide), k85 1 (by decide), fun i3 e3 => by rw [e85, e2] at e3; rw [e3]; exact hQ⟩
  · exact ⟨k85 2 (by decide), k85 2 (by decide), fun i3 e3 => by rw [e85, e2] at e3; rw [e3]; exact hQ⟩
  · exact ⟨k85 5 (by decide), k85 5 (by decide), fun i3 e3 => by rw [e85, e2] at e3; rw [e3]; exact hQ⟩
  · exact ⟨k85 6 (by decide), k85 6 (by decide), fun i3 e3 => by rw [e85, e2] at e3; rw [e3]; exact hQ⟩
theorem z_Inv_ref (h : z_Inv T n r i w) {x : Int32} {k k' : Nat} (hx : z_rfs x k k') {i2 : kw_I} (he : i2 = kw_st (kw_st (kw_st (kw_st i 1 9 x) 83 k (i 83 k + 1)) 84 0 x) 85 k' (i 85 k' + 1)) : z_Inv T n r i2 w := by
  have c5 := h.2.2.2.2.1
  have c6 := h.2.2.2.2.2.1
  have o : ∀ b, b ≠ 1 → b ≠ 83 → b ≠ 84 → b ≠ 85 → i2 b = i b := fun b b1 b2 b3 b4 => by rw [he, kw_st_offF b4, kw_st_offF b3, kw_st_offF b2, kw_st_offF b1]
  have e1 : ∀ f, f ≠ 9 → i2 1 f = i 1 f := fun f hf => by rw [he, kw_st_off (by decide), kw_st_off (by decide), kw_st_off (by decide), kw_st_row, if_neg hf]
  have e84 : ∀ f, f ≠ 0 → i2 84 f = i 84 f := fun f hf => by rw [he, kw_st_off (by decide), kw_st_row, if_neg hf, kw_st_off (by decide), kw_st_off (by decide)]
  have e19 : i2 1 9 = x := by rw [he, kw_st_off (by decide), kw_st_off (by decide), kw_st_off (by decide), kw_st_same]
  have e840 : i2 84 0 = x := by rw [he, kw_st_off (by decide), kw_st_same]
  have e83 : ∀ q, i2 83 q = if q = k then i 83 k + 1 else i 83 q := fun q => by rw [he, kw_st_off (by decide), kw_st_off (by decide), kw_st_row, kw_st_off (by decide)]
  have e85 : ∀ q, i2 85 q = if q = k' then i 85 k' + 1 else i 85 q := fun q => by rw [he, kw_st_row, kw_st_off (by decide), kw_st_off (by decide), kw_st_off (by decide)]
  refine z_Inv_sc h (fun b b1 b2 b3 b4 b5 b6 b7 _ => o b b1 b4 b5 b6) (e1 12 (by decide)) (e84 36 (by decide)) ?_ ?_
  · rw [o 18 (by decide) (by decide) (by decide) (by decide), o 19 (by decide) (by decide) (by decide) (by decide), e84 9 (by decide), o 90 (by decide) (by decide) (by decide) (by decide)]
    exact c5
  · obtain ⟨a1, a2, a3, a4, a5, a6, a7⟩ := c6
    refine ⟨by rw [e19, e840], by rw [e1 10 (by decide), e84 5 (by decide)]; exact a2, by rw [e1 11 (by decide), e84 10 (by decide)]; exact a3, ?_, ?_, ?_, ?_⟩
    all_goals
      rw [e83, e85]
      rcases hx with ⟨_, rfl, rfl⟩ | ⟨_, rfl, rfl⟩ | ⟨_, rfl, rfl⟩ | ⟨_, rfl, rfl⟩ <;> simp [a4, a5, a6, a7]
/-- both refuse -/
theorem z_refb (h : z_Inv T n r i w) {x : Int32} {k k' : Nat} (hx : z_rfs x k k') {m10 : kw_I → (Int32 → kw_I → Prop) → Prop} (hm : ∀ i1 Q, (∀ b, b ≠ 1 → b ≠ 83 → i1 b = i b) → (∀ i2, i2 = kw_st (kw_st i1 84 0 x) 85 k' (i1 85 k' + 1) → Q x i2) → m10 i1 Q) : w_X9_refuse 1 x T n r i w (fun v i1 => T 84 = (0, 10) ∧ m10 i1 (fun v2 i2 => v = v2 ∧ lw_N z_Inv n T n r i2 w)) := by
  refine z_ref9 h.1 hx ⟨z_T84 h.1, hm _ _ (fun b b1 b2 => by rw [kw_st_offF b2, kw_st_offF b1]) (fun i2 e2 => ⟨rfl, ?_, by omega⟩)⟩
  refine z_Inv_ref h hx ?_
  rw [e2, kw_st_off (a := 83) (by decide), kw_st_off (a := 1) (by decide)]
/-- the reference refuses -/
theorem z_ref10e (hS : z_S T r) {i1 : kw_I} {x : Int32} {k k' : Nat} (hx : z_rfs x k k') {Q : Int32 → kw_I → Prop} (hQ : ∀ i2, i2 = kw_st (kw_st i1 84 0 x) 85 k' (i1 85 k' + 1) → Q x i2) : w_X10_refuses 84 x T n r i1 w Q := z_ref10 hS hx (hQ _ rfl)
end ZRF
