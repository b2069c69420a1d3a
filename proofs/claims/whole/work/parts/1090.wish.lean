-- WHAT A LAW WISHES, BY THE REFERENCE
theorem z_evL_snoc (ask : Nat → Int32) (s : z_Sm) : ∀ (l : List z_Sm) (d : Int64), z_evL ask (l ++ [s]) d = match s ask with
    | some v => v
    | none => z_evL ask l d
  | [], _ => rfl
  | _ :: l, _ => z_evL_snoc ask s l _
/-- values that are no wider than an int -/
def z_bd (s : z_Sm) : Prop := ∀ ask v, s ask = some v → -2147483648 ≤ v.toInt ∧ v.toInt ≤ 2147483648
theorem z_bd_i (x : Int32) : -2147483648 ≤ x.toInt64.toInt ∧ x.toInt64.toInt ≤ 2147483648 := by
  rw [Int32.toInt_toInt64]
  have := fb_rng x
  omega
theorem z_bd_op (o : Nat) (a b : z_Sm) : z_bd (z_opS o a b) := by
  intro ask v h
  unfold z_opS at h
  cases ea : a ask with
  | none =>
    rw [ea] at h
    cases h
  | some x =>
    rw [ea] at h
    cases eb : b ask with
    | none =>
      rw [eb] at h
      cases h
    | some y =>
      rw [eb] at h
      have h : z_comb o x y = some v := h
      unfold z_comb at h
      by_cases c : o = 5 ∧ y = 0
      · rw [if_pos c] at h
        cases h
      · rw [if_neg c] at h
        by_cases c2 : (1000000000 : Int64) < z_val o x y ∨ z_val o x y < (-1000000000 : Int64)
        · rw [if_pos c2] at h
          cases h
        · rw [if_neg c2] at h
          cases h
          have e1 : (1000000000 : Int64).toInt = 1000000000 := by decide
          have e2 : (-1000000000 : Int64).toInt = -1000000000 := by decide
          have n1 : ¬ (1000000000 : Int64) < z_val o x y := fun q => c2 (Or.inl q)
          have n2 : ¬ z_val o x y < (-1000000000 : Int64) := fun q => c2 (Or.inr q)
          rw [fa_lt64, e1] at n1
          rw [fa_lt64, e2] at n2
          omega
section ZBD
variable {tk vl : Nat → Nat} {sz : Nat}
theorem z_bd_gC {S : Nat → Prop} {P : Nat → Nat → z_O z_Sm → Prop} (hP : ∀ p m s q m', P p m (.ok (s, q, m')) → z_bd s) {p m : Nat} {s : z_Sm} {q m' : Nat} (h : z_gC tk sz S z_mkS P p m (.ok (s, q, m'))) : z_bd s := by
  obtain ⟨h, -⟩ := h
  rcases h with ⟨a, p1, m1, N, h1, h2⟩ | ⟨t, -, h⟩
  rotate_left
  · cases h
  have ha := hP _ _ _ _ _ h1
  clear h1
  revert a p1 m1
  induction N with
  | zero => intro a p1 m1 h; exact h.elim
  | succ N ih =>
    intro a p1 m1 h2 ha
    rcases h2 with ⟨_, h⟩ | ⟨_, ⟨b, p2, m2, h3, h4⟩ | ⟨t, _, h⟩⟩
    · cases h
      exact ha
    · exact ih _ _ _ h4 (z_bd_op _ _ _)
    · cases h
theorem z_bd_lf (p : Nat) : z_bd (z_lfS tk vl p) := by
  intro ask v h
  unfold z_lfS at h
  by_cases c : tk p = 50
  · rw [if_pos c] at h
    cases h
    exact z_bd_i _
  · rw [if_neg c] at h
    cases h
    exact z_bd_i _
theorem z_bd_gP : ∀ (e p m : Nat) (s : z_Sm) (q m' : Nat), z_gP tk vl sz e p m (.ok (s, q, m')) → z_bd s := by
  intro e
  induction e with
  | zero =>
    intro p m s q m' h
    rcases h.1 with ⟨_, h⟩ | ⟨_, _, _, h⟩ | ⟨_, _, h⟩
    · cases h
    · cases h
      exact z_bd_lf p
    · cases h
  | succ e ih =>
    intro p m s q m' h
    rcases h.1 with ⟨_, ⟨t, _, h⟩ | ⟨s', p', m'', h1, ⟨_, h3⟩ | ⟨_, h⟩⟩⟩ | ⟨_, _, _, h⟩ | ⟨_, _, h⟩
    · cases h
    · cases h3
      exact z_bd_gC (fun p m s q m' h => z_bd_gC ih h) h1
    · cases h
    · cases h
      exact z_bd_lf p
    · cases h
theorem z_bd_gS {e p m : Nat} {s : z_Sm} {q m' : Nat} (h : z_gS tk vl sz e p m (.ok (s, q, m'))) : z_bd s := by
  unfold z_gS z_gSo at h
  exact z_bd_gC (fun p m s q m' h => z_bd_gC (z_bd_gP e) h) h
theorem z_bd_gCl {p m : Nat} {s : z_Sm} {q m' : Nat} (h : z_gCl tk vl sz p m (.ok (s, q, m'))) : z_bd s := by
  rcases h.1 with ⟨_, h⟩ | ⟨_, ⟨t, _, h⟩ | ⟨s', p1, m1, h1, ⟨_, h⟩ | ⟨_, ⟨t, _, h⟩ | ⟨t, p2, m2, _, h⟩⟩⟩⟩
  · cases h
  · cases h
  · cases h
    exact z_bd_gS h1
  · cases h
  · cases h
    intro ask v hv
    unfold z_clS at hv
    cases es : s' ask with
    | none =>
      rw [es] at hv
      cases hv
    | some x =>
      rw [es] at hv
      by_cases c : t ask = some true
      · have hv : (if t ask = some true then some x else none) = some v := hv
        rw [if_pos c] at hv
        cases hv
        exact z_bd_gS h1 ask _ es
      · have hv : (if t ask = some true then some x else none) = some v := hv
        rw [if_neg c] at hv
        cases hv
theorem z_bd_gL : ∀ (c p m : Nat) (l L : List z_Sm), z_gL tk vl sz c p m l (.ok L) → (∀ s ∈ l, z_bd s) → ∀ s ∈ L, z_bd s := by
  have ap : ∀ (l : List z_Sm) (s : z_Sm), (∀ s ∈ l, z_bd s) → z_bd s → ∀ x ∈ l ++ [s], z_bd x := by
    intro l s h1 h2 x hx
    rcases List.mem_append.mp hx with h | h
    · exact h1 x h
    · rw [List.mem_singleton.mp h]
      exact h2
  intro c
  induction c with
  | zero =>
    intro p m l L h hl
    rcases h with ⟨t, _, h⟩ | ⟨s, p', m', h1, ⟨_, _, h⟩ | ⟨_, _, h⟩ | ⟨_, h⟩⟩
    · cases h
    · cases h
    · cases h
    · cases h
      exact ap l s hl (z_bd_gCl h1)
  | succ c ih =>
    intro p m l L h hl
    rcases h with ⟨t, _, h⟩ | ⟨s, p', m', h1, ⟨_, _, h⟩ | ⟨_, _, h⟩ | ⟨_, h⟩⟩
    · cases h
    · exact ih _ _ _ _ h (ap l s hl (z_bd_gCl h1))
    · cases h
    · cases h
      exact ap l s hl (z_bd_gCl h1)
end ZBD
theorem z_evL_bd (ask : Nat → Int32) : ∀ (L : List z_Sm) (d : Int64), (∀ s ∈ L, z_bd s) → (-2147483648 ≤ d.toInt ∧ d.toInt ≤ 2147483648) → -2147483648 ≤ (z_evL ask L d).toInt ∧ (z_evL ask L d).toInt ≤ 2147483648
  | [], _, _, hd => hd
  | s :: L, d, hL, hd => by
    refine z_evL_bd ask L _ (fun x hx => hL x (List.mem_cons_of_mem _ hx)) ?_
    cases es : s ask with
    | none => exact hd
    | some v => exact hL s (List.mem_cons_self ..) ask v es
/-- the tokens of the kept law j read as the clauses L -/
def z_toks (K : Nat → Int32) (j : Nat) (L : List z_Sm) : Prop := ∃ (sz : Nat) (tk vl : Nat → Nat), sz ≤ 400 ∧ K (181 + j) = nI sz ∧ (∀ p, p < sz → K (187 + (400 * j + p)) = nI (tk p) ∧ K (2587 + (400 * j + p)) = nI (vl p)) ∧ (∀ p, tk p < 1000) ∧ (∀ p, sz ≤ p → tk p = 0) ∧ z_gL tk vl sz 11 0 0 [] (.ok L)
theorem z_toks_bd {K : Nat → Int32} {j : Nat} {L : List z_Sm} (h : z_toks K j L) : ∀ s ∈ L, z_bd s := by
  obtain ⟨sz, tk, vl, -, -, -, -, -, h⟩ := h
  exact z_bd_gL _ _ _ _ _ h (fun s hs => by cases hs)
theorem z_toks_eq {K K' : Nat → Int32} {j : Nat} {L : List z_Sm} (h : z_toks K j L) (h1 : K' (181 + j) = K (181 + j)) (h2 : ∀ p, p < 400 → K' (187 + (400 * j + p)) = K (187 + (400 * j + p)) ∧ K' (2587 + (400 * j + p)) = K (2587 + (400 * j + p))) : z_toks K' j L := by
  obtain ⟨sz, tk, vl, a, b, c, d⟩ := h
  exact ⟨sz, tk, vl, a, by rw [h1]; exact b, fun p hp => by rw [(h2 p (by omega)).1, (h2 p (by omega)).2]; exact c p hp, d⟩
/-- what is wished by the law in force -/
def z_wi (f : Int32) (L : List z_Sm) (ask : Nat → Int32) (d : Int64) : Int64 := if f = -1 then d else z_evL ask L d
section ZWI
variable {T : kw_T} {n : Nat} {r : kw_R} {i : kw_I} {w : kw_L}
theorem z_wish_loop {i0 : kw_I} {j sz : Nat} {tk vl : Nat → Nat} (hx : z_cx T r i0 j sz tk vl) {d : Int64} {x1 : Int64} {L : List z_Sm} {Q : Int64 → kw_I → Prop} (hQ : ∀ i' b p, z_at i0 i' j p b → Q (z_evL (i0 95) L d) i') :
    ∀ (c p m : Nat) (l : List z_Sm) (i : kw_I) (b : Int32), z_gL tk vl sz c p m l (.ok L) → z_at i0 i j p b → w_X10_wishOf_58 84 x1 T n r w Q (c + 2) (z_evL (i0 95) l d) i := by
  have hsz := hx.2.2.1
  have hend := hx.2.2.2.2.2.2
  have hj := hx.2.1
  -- behind the last clause
  have last : ∀ (i : kw_I) (b : Int32) (N : Nat), z_at i0 i j (sz + 1) b → w_X10_wishOf_58 84 x1 T n r w Q (N + 1) (z_evL (i0 95) L d) i := by
    intro i b N ha
    refine ⟨fun _ => hQ _ _ _ ha, fun h => ?_⟩
    rw [ha.2.1 19 (by decide) (by decide), hend, ha.2.2.1] at h
    exact absurd (nI_le (by omega) (by omega)) h
  -- a clause
  have one : ∀ (p m : Nat) (l : List z_Sm) (s : z_Sm) (p' m' : Nat) (i : kw_I) (b : Int32) (N : Nat), z_gCl tk vl sz p m (.ok (s, p', m')) → z_at i0 i j p b → (∀ i' b', z_at i0 i' j (p' + 1) b' → w_X10_wishOf_58 84 x1 T n r w Q N (z_evL (i0 95) (l ++ [s]) d) i') → w_X10_wishOf_58 84 x1 T n r w Q (N + 1) (z_evL (i0 95) l d) i := by
    intro p m l s p' m' i b N hc ha hn
    obtain ⟨hc, hgd⟩ := hc
    have g := hgd.1 _ _ _ rfl
    rcases hc with ⟨_, h⟩ | ⟨h0, ⟨t, _, h⟩ | ⟨s', p1, m1, h1, hrest⟩⟩
    · cases h
    · cases h
    have g1 := h1.2.1 _ _ _ rfl
    refine ⟨fun h => ?_, fun _ i71 e71 i81 e81 => ⟨27, by decide, ?_⟩⟩
    · rw [ha.2.1 19 (by decide) (by decide), hend, ha.2.2.1] at h
      have := (nI_leI (by omega) (by omega)).mp h
      omega
    subst e71
    subst e81
    refine z_g_sum hx 8 (p + 1) m s' p1 m1 1 0 _ _ h1 (z_at_next (z_at_b ha)) z_b1 z_b0 fun v86 i86 b86 a86 k86 s86 i99 e99 => ?_
    subst e99
    have a99 := z_at_b (b' := 0) a86
    have g86 := s86.2 rfl rfl
    rw [a86.2.2.2]
    -- the end of it
    have c145 : ∀ (v : Int64) (i' : kw_I) (b' : Int32), z_at i0 i' j p' b' → kw_b b' → v = z_evL (i0 95) (l ++ [s]) d → w_X10_wishOf_145 84 x1 T n r w Q (w_X10_wishOf_58 84 x1 T n r w Q N) v i' := by
      intro v i' b' a' k' hv i152 e152
      subst e152
      rw [hv]
      exact hn _ b' (z_at_next a')
    -- it holds or not: x is whether the test does
    have c123 : ∀ (x : Int32) (i' : kw_I) (b' : Int32), z_at i0 i' j p' b' → kw_b b' → (¬ x = 0 → b' = 0 → b86 = 0 → s (i0 95) = some v86) → ((x = 0 ∨ ¬ b' = 0 ∨ ¬ b86 = 0) → s (i0 95) = none) → w_X10_wishOf_123 84 x1 T n r w Q (w_X10_wishOf_58 84 x1 T n r w Q N) (z_evL (i0 95) l d) v86 b86 x i' := by
      intro x i' b' a' k' hs hno
      have no : (x = 0 ∨ ¬ b' = 0 ∨ ¬ b86 = 0) → w_X10_wishOf_145 84 x1 T n r w Q (w_X10_wishOf_58 84 x1 T n r w Q N) (z_evL (i0 95) l d) i' := fun q => c145 _ i' b' a' k' (by rw [z_evL_snoc, hno q])
      unfold w_X10_wishOf_123
      rw [a'.2.2.2]
      refine ⟨fun c => no (Or.inl c), fun c => ⟨fun c2 => no (Or.inr (Or.inl c2)), fun c2 => ⟨fun c3 => no (Or.inr (Or.inr c3)), fun c3 => c145 _ i' b' a' k' ?_⟩⟩⟩
      rw [z_evL_snoc, hs c c2 c3]
    rcases hrest with ⟨hne, h⟩ | ⟨h2, ⟨t, _, h⟩ | ⟨t, p2, m2, h3, h⟩⟩
    · cases h
      refine z_passes (c := 2) hx a99 (by omega) (by decide) (fun c => absurd c hne) (fun _ => z_f ?_)
      refine c123 1 _ 0 a99 z_b0 (fun _ _ b0 => ?_) (fun q => ?_)
      · cases es : s (i0 95) with
        | none =>
          rw [es] at g86
          have g86 : b86 = 1 := g86
          rw [g86] at b0
          exact absurd b0 (by decide)
        | some x =>
          rw [es] at g86
          rw [g86.2]
      · cases es : s (i0 95) with
        | none => rfl
        | some x =>
          rw [es] at g86
          rcases q with q | q | q
          · exact absurd q (by decide)
          · exact absurd rfl q
          · exact absurd g86.1 q
    · cases h
    · cases h
      have g3 := h3.2.1 _ _ _ rfl
      refine z_passes (c := 2) hx a99 (by omega) (by decide) (fun _ i104 a104 => z_t ⟨36, by decide, ?_⟩) (fun c => absurd h2 c)
      refine z_g_test hx (Nat.le_refl 8) (p1 + 1) m1 t p' m' 1 0 _ _ h3 a104 z_b1 z_b0 fun v112 i112 b112 a112 k112 s112 => ?_
      have g112 := s112.2.2 rfl rfl
      have fin : ∀ x : Int32, x = v112 → w_X10_wishOf_123 84 x1 T n r w Q (w_X10_wishOf_58 84 x1 T n r w Q N) (z_evL (i0 95) l d) v86 b86 x i112 := by
        intro x hx'
        subst hx'
        refine c123 x _ b112 a112 k112 (fun c c2 c3 => ?_) (fun q => ?_)
        · unfold z_clS
          cases es : s' (i0 95) with
          | none =>
            rw [es] at g86
            have g86 : b86 = 1 := g86
            rw [g86] at c3
            exact absurd c3 (by decide)
          | some y =>
            rw [es] at g86
            cases et : t (i0 95) with
            | none =>
              rw [et] at g112
              have g112 : b112 = 1 := g112
              rw [g112] at c2
              exact absurd c2 (by decide)
            | some z =>
              rw [et] at g112
              cases z with
              | true => exact congrArg some g86.2.symm
              | false => exact absurd g112.2 c
        · unfold z_clS
          cases es : s' (i0 95) with
          | none => rfl
          | some y =>
            rw [es] at g86
            show (if t (i0 95) = some true then some y else none) = none
            cases et : t (i0 95) with
            | none => rfl
            | some z =>
              rw [et] at g112
              cases z with
              | false => rfl
              | true =>
                have g2 : x = 1 := g112.2
                rcases q with q | q | q
                · rw [g2] at q
                  exact absurd q (by decide)
                · exact absurd g112.1 q
                · exact absurd g86.1 q
      refine ⟨fun c => fin 0 c.symm, fun c => fin 1 ((z_01 s112.1).resolve_left c).symm⟩
  intro c
  induction c with
  | zero =>
    intro p m l i b h ha
    rcases h with ⟨t, _, h⟩ | ⟨s, p', m', h1, ⟨_, _, h⟩ | ⟨_, _, h⟩ | ⟨h2, h⟩⟩
    · cases h
    · cases h
    · cases h
    · cases h
      subst h2
      exact one p m l s _ m' i b 1 h1 ha (fun i' b' a' => last i' b' 0 a')
  | succ c ih =>
    intro p m l i b h ha
    rcases h with ⟨t, _, h⟩ | ⟨s, p', m', h1, ⟨_, _, h⟩ | ⟨_, _, h⟩ | ⟨h2, h⟩⟩
    · cases h
    · exact one p m l s p' m' i b (c + 2) h1 ha (fun i' b' a' => ih (p' + 1) m' _ i' b' h a')
    · cases h
    · cases h
      subst h2
      exact one p m l s _ m' i b (c + 2) h1 ha (fun i' b' a' => last i' b' (c + 1) a')
/-- only the evaluation's own numbers are others -/
def z_ev (i i' : kw_I) : Prop := z_io 84 i i' ∧ ∀ f, f ≠ 18 → f ≠ 19 → f ≠ 20 → i' 84 f = i 84 f
theorem z_wishOf (hS : z_S T r) {d : Int64} {L : List z_Sm} (hf : i 86 180 ≠ -1 → ∃ j, j < 6 ∧ i 86 180 = nI j ∧ z_toks (i 86) j L) {Q : Int64 → kw_I → Prop} (hQ : ∀ i', z_ev i i' → Q (z_wi (i 86 180) L (i 95) d) i') : w_X10_wishOf 84 d T n r i w Q := by
  unfold w_X10_wishOf
  rw [z_r84_2 hS]
  have k180 : kw_in T 1 86 (180 : Int32) := z_kin (k := 180) (z_T86 hS) (by decide) (by decide)
  refine ⟨k180, fun h => ⟨k180, fun i29 e29 => ⟨k180, ?_⟩⟩, fun h => ?_⟩
  · obtain ⟨j, hj, ej, sz, tk, vl, h1, h2, h3, h4, h5, h6⟩ := hf h
    have e180 : i 86 ((180 : Int32)).toNatClampNeg = nI j := ej
    rw [e180] at e29
    have e86 : i29 86 = i 86 := by rw [e29, kw_st_offF (by decide)]
    rw [e86, e180]
    have e181 : (181 : Int32) + nI j = nI (181 + j) := nI_add 181 j
    rw [e181, nI_clamp (by omega), h2]
    refine ⟨z_kin (z_T86 hS) (by omega) (by decide), fun i55 e55 => ⟨13, ?_⟩⟩
    have e400 : (400 : Int32) * nI j = nI (400 * j) := pk_mul 400 j
    have e18 : i29 84 18 = nI (400 * j) := by rw [e29, kw_st_same, e400]
    rw [e18, nI_add] at e55
    have o86 : i55 86 = i 86 := by rw [e55, kw_st_offF (by decide), e86]
    have o95 : i55 95 = i 95 := by rw [e55, e29, kw_st_offF (by decide), kw_st_offF (by decide)]
    have hx : z_cx T r i55 j sz tk vl := ⟨hS, hj, h1, by rw [o86]; exact h3, h4, h5, by rw [e55, kw_st_same]⟩
    have oio : z_io 84 i i55 := by rw [e55, e29]; exact z_io_st (z_io_st (fun b _ => rfl))
    have of : ∀ f, f ≠ 18 → f ≠ 19 → i55 84 f = i 84 f := by
      intro f f1 f2
      rw [e55, e29, kw_st_row, if_neg f2, kw_st_row, if_neg f1]
    have first : ∀ b, b = i55 84 20 → z_at i55 i55 j 0 b := fun b hb => ⟨fun _ _ => rfl, fun _ _ _ => rfl, by rw [e55, kw_st_row, if_neg (by decide)]; exact e18, hb.symm⟩
    have res := z_wish_loop (n := n) (w := w) (x1 := d) (d := d) (L := L) (Q := Q) hx (fun i' b p ha => ?_) 11 0 0 [] i55 _ h6 (first _ rfl)
    · exact res
    · have e : z_evL (i55 95) L d = z_wi (i 86 180) L (i 95) d := by
        unfold z_wi
        rw [if_neg (show ¬ i 86 180 = -1 from h), o95]
      rw [e]
      refine hQ i' ⟨fun b hb => (ha.1 b hb).trans (oio b hb), fun f f1 f2 f3 => ?_⟩
      rw [ha.2.1 f f1 f3, of f f1 f2]
  · have := hQ i ⟨fun _ _ => rfl, fun _ _ _ _ => rfl⟩
    unfold z_wi at this
    rw [if_pos (show i 86 180 = -1 from h)] at this
    exact this
end ZWI
