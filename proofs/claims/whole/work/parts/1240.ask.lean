-- CALLS THAT ASK FOR THE ROAD
def z_vn (x : Int32) (nv m : Nat) : Prop := (x = -1 ∧ m = 0) ∨ ∃ v, v < nv ∧ x = nI v ∧ m = v + 1
theorem z_vn_1 {x : Int32} {nv m : Nat} (h : z_vn x nv m) : x + 1 = nI m := by
  rcases h with ⟨rfl, rfl⟩ | ⟨v, _, rfl, rfl⟩
  · decide
  · exact nI_1 v
theorem z_vn_le {x : Int32} {nv m : Nat} (h : z_vn x nv m) : m ≤ nv := by
  rcases h with ⟨rfl, rfl⟩ | ⟨v, _, rfl, rfl⟩ <;> omega
theorem z_vn_pic {x : Int32} {nv m : Nat} (h : z_vn x nv m) : (x < 0 ∧ m = 0) ∨ (∃ v, v < nv ∧ x = nI v ∧ m = v + 1) := by
  rcases h with ⟨rfl, rfl⟩ | h
  · exact Or.inl ⟨by decide, rfl⟩
  · exact Or.inr h
section ZAS
variable {T : kw_T} {n : Nat} {r : kw_R} {i : kw_I} {w : kw_L} {nv : Nat} {L : List z_Sm} {x : Int32}
theorem z_isVN9 (hS : z_S T r) (h5 : i 2 5 = nI nv) (hn : nv ≤ 10) {Q : Int32 → Prop} (ht : ∀ m, z_vn x nv m → Q 1) (hf : ¬ (∃ m, z_vn x nv m) → Q 0) : w_X9_isVillageOrNone 1 x T n r i w Q := by
  refine ⟨fun e => ht 0 (Or.inl ⟨e, rfl⟩), fun e => z_isV9 hS h5 hn (fun b => z_t ?_) (fun b => z_f (hf ?_))⟩
  · obtain ⟨v, hv, rfl⟩ := b
    exact ht (v + 1) (Or.inr ⟨v, hv, rfl, rfl⟩)
  · rintro ⟨m, ⟨q, _⟩ | ⟨v, hv, q, _⟩⟩
    · exact e q
    · exact b ⟨v, hv, q⟩
theorem z_isOF10 (hS : z_S T r) (h5 : i 86 178 = nI nv) (hn : nv ≤ 10) {Q : Int32 → Prop} (ht : ∀ m, z_vn x nv m → Q 1) (hf : ¬ (∃ m, z_vn x nv m) → Q 0) : w_X10_isOrFirst 84 x T n r i w Q := by
  refine ⟨fun e => ht 0 (Or.inl ⟨e, rfl⟩), fun e => z_isV10 hS h5 hn (fun b => z_t ?_) (fun b => z_f (hf ?_))⟩
  · obtain ⟨v, hv, rfl⟩ := b
    exact ht (v + 1) (Or.inr ⟨v, hv, rfl, rfl⟩)
  · rintro ⟨m, ⟨q, _⟩ | ⟨v, hv, q, _⟩⟩
    · exact e q
    · exact b ⟨v, hv, q⟩
theorem z_Inv_gz {i' : kw_I} {w' : kw_L} (h : z_Inv T n r i w) (hi : ∀ b, b ≠ 84 → ¬ (91 ≤ b ∧ b ≤ 98) → b ≠ 101 → b ≠ 102 → i' b = i b) (h84 : ∀ f, f ≠ 18 → f ≠ 19 → f ≠ 20 → (f < 27 ∨ 35 < f) → f ≠ 37 → i' 84 f = i 84 f) (hw : w' = w) : z_Inv T n r i' w' := by
  refine z_Inv_scr h (fun b b1 b2 _ _ => hi b b2 (fun q => b1 (by unfold z_scr; omega)) (fun q => b1 (by unfold z_scr; omega)) (fun q => b1 (by unfold z_scr; omega))) ⟨h84 0 (by decide) (by decide) (by decide) (by decide) (by decide), h84 5 (by decide) (by decide) (by decide) (by decide) (by decide), h84 9 (by decide) (by decide) (by decide) (by decide) (by decide), h84 10 (by decide) (by decide) (by decide) (by decide) (by decide), h84 36 (by decide) (by decide) (by decide) (by decide) (by decide)⟩ ?_ ?_ (by rw [hw])
  · rw [hi 52 (by decide) (by decide) (by decide) (by decide)]
    exact ⟨rfl, rfl, rfl⟩
  · rw [hi 29 (by decide) (by decide) (by decide) (by decide)]
theorem z_Inv_gq {a : Nat} {i' : kw_I} (h : z_Inv T n r i w) (ha : 96 ≤ a ∧ a ≤ 98) (hg : z_gq a i i') : z_Inv T n r i' w := z_Inv_gz h (fun b b1 b2 _ _ => hg.1 b b1 (by omega) (by omega)) (fun f f1 f2 f3 f4 _ => hg.2 f f1 f2 f3 (by omega)) rfl
theorem z_looksF (h : z_fr T n r i w nv L) {Q : kw_I → Prop} (hQ : ∀ i', z_gq 96 i i' → z_pl i' → z_Inv T n r i' w → i' 86 = i 86 → (∀ m, m ≤ nv → ∀ c, c < 36 → i' 96 (36 * m + c) = z_on (i 86) L m c) → Q i') : w_X10_looks 84 T n r i w Q := z_looks h.1.1 h.2.2.1 h.2.2.2.1 fun i' a1 a2 a3 => hQ i' a1 a2 (z_Inv_gq h.1 (by decide) a1) (a1.1 86 (by decide) (by decide) (by decide)) a3
theorem z_Inv_nvK (h : z_fr T n r i w nv L) {nv' : Nat} (hK : z_Kr (i 86) nv') : nv' = nv := z_nv_one hK h.2.2.1
end ZAS
theorem z_C16 : lw_C16 z_Inv := by
  intro T n r i w x1 x2 h hn
  have hS := h.1
  obtain ⟨nv, hv, e1, e2, hK⟩ := z_Inv_nv h
  have no : ¬ ((∃ m, z_vn x1 nv m) ∧ ∃ m, z_vn x2 nv m) → T 84 = (0, 10) ∧ w_X10_like 84 x1 x2 T n r i w (fun v2 i2 => -1 = v2 ∧ lw_N z_Inv n T n r i2 w) := by
    intro hq
    exact ⟨z_T84 hS, z_isOF10 hS e1 hv (fun m hm => z_t (z_isOF10 hS e1 hv (fun m' hm' => absurd ⟨⟨m, hm⟩, m', hm'⟩ hq) (fun _ => z_f2 ⟨rfl, z_N h⟩))) (fun _ => z_f ⟨rfl, z_N h⟩)⟩
  refine z_isVN9 hS e2 hv (fun m1 h1 => z_t (z_isVN9 hS e2 hv (fun m2 h2 => z_t2 (z_weaveIf h fun r' i' w' nv' L hf o86 o2 => ?_)) (fun q => z_f2 (no (fun z => q z.2))))) (fun q => z_f (no (fun z => q z.1)))
  have : nv = nv' := z_Inv_nvK hf (by rw [o86]; exact hK)
  subst this
  have hS' := hf.1.1
  have g1 := z_vn_le h1
  have g2 := z_vn_le h2
  rw [z_r1_4 hS']
  refine ⟨z_T23 hS', z_picture hf (z_vn_pic h1) fun a a1 a2 _ => z_picture hf (z_vn_pic h2) fun b b1 b2 _ => z_like9 a1 b1 ⟨z_T84 hS', ?_⟩⟩
  refine z_isOF10 hS' (by rw [o86]; exact e1) hv (fun _ _ => z_t (z_isOF10 hS' (by rw [o86]; exact e1) hv (fun _ _ => z_t2 (z_looksF hf fun j q1 q2 q3 q4 q5 => ?_)) (fun q => absurd ⟨m2, h2⟩ q))) (fun q => absurd ⟨m1, h1⟩ q)
  rw [z_vn_1 h1, z_vn_1 h2, z_r84_22 hS', show (36 : Int32) * nI m1 = nI (36 * m1) from pk_mul 36 m1, show (36 : Int32) * nI m2 = nI (36 * m2) from pk_mul 36 m2]
  refine z_like10 (z_T96 hS') (z_T96 hS') (by omega) (by omega) (by decide) (by decide) ⟨?_, q3, by omega⟩
  exact congrArg nI (z_lk_eq (fun c hc => by rw [a2 c hc, q5 m1 g1 c hc]) (fun c hc => by rw [b2 c hc, q5 m2 g2 c hc]))
theorem z_C15 : lw_C15 z_Inv := by
  intro T n r i w x1 x2 x3 h hn
  have hS := h.1
  obtain ⟨nv, hv, e1, e2, hK⟩ := z_Inv_nv h
  have hb3 := z_B_le (x := x3) (m := 1) (by decide)
  have no : ¬ (z_B x1 nv ∧ z_B x2 36 ∧ z_B x3 2) → T 84 = (0, 10) ∧ w_X10_woven 84 x1 x2 x3 T n r i w (fun v2 i2 => -1 = v2 ∧ lw_N z_Inv n T n r i2 w) := by
    intro hq
    exact ⟨z_T84 hS, z_isV10 hS e1 hv (fun a => z_t (z_isCell10 (fun b => z_t (z_t (z_lies (m := 1) (by decide) (fun c => absurd ⟨a, b, c⟩ hq) (fun _ => z_f2 ⟨rfl, z_N h⟩)))) (fun _ => z_f (z_f ⟨rfl, z_N h⟩)))) (fun _ => z_f (z_f ⟨rfl, z_N h⟩))⟩
  refine z_isV9 hS e2 hv (fun a => z_t (z_isCell9 (fun b => z_t ⟨fun c => no (fun z => (hb3.mp z.2.2).1 c), fun c => ⟨fun c2 => ?_, fun c2 => no (fun z => c2 (hb3.mp z.2.2).2)⟩⟩) (fun b => z_f (no (fun z => b z.2.1))))) (fun a => z_f (no (fun z => a z.1)))
  have c3 := hb3.mpr ⟨c, c2⟩
  refine z_weaveIf h fun r' i' w' nv' L hf o86 o2 => ?_
  have : nv = nv' := z_Inv_nvK hf (by rw [o86]; exact hK)
  subst this
  have hS' := hf.1.1
  rw [z_r1_4 hS', z_r23_1 hS']
  obtain ⟨v, hv2, rfl⟩ := a
  obtain ⟨cl, hcl, rfl⟩ := b
  rw [nI_clamp (by omega), nI_clamp (by omega)]
  refine ⟨fun c => ⟨z_T23 hS', z_backward hf fun i2 w2 hf2 p86 p2 p4 prow => ?_⟩, fun c => ?_⟩
  · rw [z_rrrow hS' (by omega)]
    refine ⟨z_kin (z_T41 hS') (by omega) (by decide), z_kin (z_Trrow hS' (by omega)) hcl (by decide), z_T84 hS', ?_⟩
    refine z_isV10 hS' (by rw [p86, o86]; exact e1) hv (fun _ => z_t (z_isCell10 (fun _ => z_t (z_t (z_lies (m := 1) (by decide) (fun _ => z_t2 ⟨fun _ => ?_, fun q => absurd q c⟩) (fun q => absurd c3 q)))) (fun q => absurd ⟨cl, hcl, rfl⟩ q))) (fun q => absurd ⟨v, hv2, rfl⟩ q)
    refine z_looksBack (L := L) hS' hf2.2.2.1 hf2.2.2.2.1 fun j q1 q2 q3 => ⟨fun _ => ?_, fun q => absurd q c⟩
    have em : (36 : Int32) * nI v + nI cl = nI (36 * v + cl) := by rw [show (36 : Int32) = nI 36 from rfl, pk_mul, nI_add]
    rw [z_r84_23 hS', em, nI_clamp (by omega)]
    refine ⟨z_kin (z_T97 hS') (by omega) (by decide), ?_, z_Inv_gq hf2.1 (by decide) q1, by omega⟩
    have := q3 (nv - v) (by omega) cl hcl
    rw [show nv - (nv - v) = v by omega] at this
    rw [prow v hv2 cl hcl, this, p86]
    rfl
  · rw [z_rorow hS' (by omega)]
    refine ⟨z_T23 hS', z_kin (z_T30 hS') (by omega) (by decide), z_kin (z_Torow hS' (by omega)) hcl (by decide), z_T84 hS', ?_⟩
    refine z_isV10 hS' (by rw [o86]; exact e1) hv (fun _ => z_t (z_isCell10 (fun _ => z_t (z_t (z_lies (m := 1) (by decide) (fun _ => z_t2 ⟨fun q => absurd c q, fun _ => ?_⟩) (fun q => absurd c3 q)))) (fun q => absurd ⟨cl, hcl, rfl⟩ q))) (fun q => absurd ⟨v, hv2, rfl⟩ q)
    refine z_looksF hf fun j q1 q2 q3 q4 q5 => ⟨fun q => absurd c q, fun _ => ?_⟩
    have em : (36 : Int32) * (nI v + 1) + nI cl = nI (36 * (v + 1) + cl) := by rw [nI_1, show (36 : Int32) = nI 36 from rfl, pk_mul, nI_add]
    rw [z_r84_22 hS', em, nI_clamp (by omega)]
    refine ⟨z_kin (z_T96 hS') (by omega) (by decide), ?_, q3, by omega⟩
    rw [q5 (v + 1) (by omega) cl hcl, hf.2.2.2.2.1.2.2.2.1 v hv2 cl hcl]
/-- the price of a picture -/
def z_cost (P f : Nat → Int32) : Nat → Nat := fun m => fb_sm (fun c => (P (f c).toNatClampNeg).toNatClampNeg) m
theorem z_C17 : lw_C17 z_Inv := by
  intro T n r i w x h hn
  have hS := h.1
  obtain ⟨nv, hv, e1, e2, hK⟩ := z_Inv_nv h
  refine z_isVN9 hS e2 hv (fun m1 h1 => z_t2 (z_weaveIf h fun r' i' w' nv' L hf o86 o2 => ?_)) (fun q => z_f2 ⟨z_T84 hS, z_isOF10 hS e1 hv (fun m hm => absurd ⟨m, hm⟩ q) (fun _ => z_f2 ⟨rfl, z_N h⟩)⟩)
  have : nv = nv' := z_Inv_nvK hf (by rw [o86]; exact hK)
  subst this
  have hS' := hf.1.1
  have g1 := z_vn_le h1
  have hK' := hf.2.2.1
  -- which row: m of the road
  obtain ⟨m, hm, hm2⟩ : ∃ m, m ≤ nv ∧ ((x = -1 ∧ m = nv) ∨ (x ≠ -1 ∧ m = m1)) := by
    by_cases e : x = -1
    · exact ⟨nv, Nat.le_refl _, Or.inl ⟨e, rfl⟩⟩
    · exact ⟨m1, g1, Or.inr ⟨e, rfl⟩⟩
  have Bon : ∀ c, c < 36 → z_B (z_on (i' 86) L m c) 8 := fun c hc => z_go_B (fun c hc => hK'.2.2.2.1 0 c (by decide) hc) (fun v hv => (z_Kr_W hK' hv).1) (fun v c x _ _ q => by cases q) m (by omega) c hc
  have Bp : ∀ k, k < 8 → z_B (i' 86 (168 + k)) 100 := hK'.2.2.2.2.1
  -- the reference
  have m10 : ∀ v : Int32, v = nI (z_cost (fun k => i' 86 (168 + k)) (z_on (i' 86) L m) 36) → T 84 = (0, 10) ∧ w_X10_costs 84 x T n r' i' w' (fun v2 i2 => v = v2 ∧ lw_N z_Inv n T n r' i2 w') := by
    intro v hvv
    refine ⟨z_T84 hS', z_isOF10 hS' (by rw [o86]; exact e1) hv (fun _ _ => z_t2 (z_looksF hf fun j q1 q2 q3 q4 q5 => ?_)) (fun q => absurd ⟨m1, h1⟩ q)⟩
    have c32 : w_X10_costs_32 84 x T n r' w' (fun v2 i2 => v = v2 ∧ lw_N z_Inv n T n r' i2 w') (nI (36 * m)) j := by
      have loop : ∀ (d c : Nat), c + d = 36 → w_X10_costs_38 84 x T n r' w' (fun v2 i2 => v = v2 ∧ lw_N z_Inv n T n r' i2 w') (d + 1) (nI (36 * m)) (nI (z_cost (fun k => i' 86 (168 + k)) (z_on (i' 86) L m) c)) (nI c) j := by
        intro d
        induction d with
        | zero =>
          intro c hc
          have : c = 36 := by omega
          subst this
          exact ⟨fun _ => ⟨hvv, q3, by omega⟩, fun q => absurd (by decide) q⟩
        | succ d ih =>
          intro c hc
          refine ⟨fun q => absurd q (nI_ge (b := 36) (by omega) (by decide)), fun _ => ?_⟩
          obtain ⟨k, hk, ek⟩ := Bon c (by omega)
          obtain ⟨y, hy, ey⟩ := Bp k hk
          rw [nI_add, z_r84_22 hS', z_r84_2 hS', nI_clamp (by omega), q5 m hm c (by omega), ek, show (168 : Int32) + nI k = nI (168 + k) from nI_add 168 k, nI_clamp (by omega), q4, ey, nI_1, nI_add]
          refine ⟨z_kin (z_T96 hS') (by omega) (by decide), z_kin (z_T86 hS') (by omega) (by decide), ?_⟩
          have nx := ih (c + 1) (by omega)
          have e : z_cost (fun k => i' 86 (168 + k)) (z_on (i' 86) L m) (c + 1) = z_cost (fun k => i' 86 (168 + k)) (z_on (i' 86) L m) c + y := by
            show fb_sm _ c + (i' 86 (168 + (z_on (i' 86) L m c).toNatClampNeg)).toNatClampNeg = _
            rw [ek, nI_clamp (by omega), ey, nI_clamp (by omega)]
            rfl
          rw [e] at nx
          exact nx
      exact ⟨37, loop 36 0 (by omega)⟩
    refine ⟨fun e => ?_, fun e => z_villages hS' ?_⟩
    · rw [z_vn_1 h1, show (36 : Int32) * nI m1 = nI (36 * m1) from pk_mul 36 m1]
      rcases hm2 with ⟨q, _⟩ | ⟨_, q⟩
      · exact absurd q e
      · rw [q] at c32
        exact c32
    · rw [q4, hK'.2.1, show (36 : Int32) * nI nv = nI (36 * nv) from pk_mul 36 nv]
      rcases hm2 with ⟨_, q⟩ | ⟨q, _⟩
      · rw [q] at c32
        exact c32
      · exact absurd e q
  -- the class
  have c37 : ∀ a, T a = (1, 36) → (∀ c, c < 36 → i' a c = z_on (i' 86) L m c) → w_X9_costs_37 1 x T n (fun v r1 i1 w1 => T 84 = (0, 10) ∧ w_X10_costs 84 x T n r1 i1 w1 (fun v2 i2 => v = v2 ∧ lw_N z_Inv n T n r1 i2 w1)) a r' i' w' := by
    intro a ha hrow
    have loop : ∀ (d c : Nat), c + d = 36 → w_X9_costs_43 1 x T n (fun v r1 i1 w1 => T 84 = (0, 10) ∧ w_X10_costs 84 x T n r1 i1 w1 (fun v2 i2 => v = v2 ∧ lw_N z_Inv n T n r1 i2 w1)) (d + 1) a (nI (z_cost (fun k => i' 86 (168 + k)) (z_on (i' 86) L m) c)) (nI c) r' i' w' := by
      intro d
      induction d with
      | zero =>
        intro c hc
        have : c = 36 := by omega
        subst this
        exact ⟨fun _ => m10 _ rfl, fun q => absurd (by decide) q⟩
      | succ d ih =>
        intro c hc
        refine ⟨fun q => absurd q (nI_ge (b := 36) (by omega) (by decide)), fun _ => ?_⟩
        obtain ⟨k, hk, ek⟩ := Bon c (by omega)
        obtain ⟨y, hy, ey⟩ := Bp k hk
        have e14 : i' 14 k = nI y := (hf.1.2.2.1.1.2.2.1 k hk).trans ey
        rw [z_r1_0 hS', z_r2_2 hS', nI_clamp (by omega), hrow c (by omega), ek, nI_clamp (by omega), e14, nI_1, nI_add]
        refine ⟨z_T2 hS', z_kin ha (by omega) (by decide), z_kin (z_T14 hS') hk (by decide), ?_⟩
        have nx := ih (c + 1) (by omega)
        have e : z_cost (fun k => i' 86 (168 + k)) (z_on (i' 86) L m) (c + 1) = z_cost (fun k => i' 86 (168 + k)) (z_on (i' 86) L m) c + y := by
          show fb_sm _ c + (i' 86 (168 + (z_on (i' 86) L m c).toNatClampNeg)).toNatClampNeg = _
          rw [ek, nI_clamp (by omega), ey, nI_clamp (by omega)]
          rfl
        rw [e] at nx
        exact nx
    exact ⟨37, loop 36 0 (by omega)⟩
  rw [z_r1_4 hS']
  refine ⟨fun e => ⟨z_T23 hS', z_picture hf (m := m) ?_ (fun a a1 a2 _ => c37 a a1 a2)⟩, fun e => ⟨z_T23 hS', z_last hf (fun a a1 a2 _ => c37 a a1 ?_)⟩⟩
  · rcases hm2 with ⟨q, _⟩ | ⟨_, q⟩
    · exact absurd q e
    · rw [q]
      exact z_vn_pic h1
  · rcases hm2 with ⟨_, q⟩ | ⟨q, _⟩
    · rw [q]
      exact a2
    · exact absurd e q
