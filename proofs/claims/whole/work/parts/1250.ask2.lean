-- WHERE IT TURNED, WHERE BOTH MEET, SEAMS
def z_tn (f : Nat → Nat) : Nat → Int32 × Int32
  | 0 => (-1, 0)
  | v + 1 => if (z_tn f v).2 < nI (f v) - nI (f (v + 1)) then (nI v, nI (f v) - nI (f (v + 1))) else z_tn f v
theorem z_C18 : lw_C18 z_Inv := by
  intro T n r i w x h hn
  have hS := h.1
  obtain ⟨nv, hv, e1, e2, hK⟩ := z_Inv_nv h
  have hb := z_B_le (x := x) (m := 1) (by decide)
  have no : ¬ z_B x 2 → T 84 = (0, 10) ∧ w_X10_turned 84 x T n r i w (fun v2 i2 => -1 = v2 ∧ lw_N z_Inv n T n r i2 w) := fun hq => ⟨z_T84 hS, z_lies (m := 1) (by decide) (fun q => absurd q hq) (fun _ => z_f2 ⟨rfl, z_N h⟩)⟩
  refine ⟨fun c => no (fun z => (hb.mp z).1 c), fun c => ⟨fun c2 => ?_, fun c2 => no (fun z => c2 (hb.mp z).2)⟩⟩
  have bx := hb.mpr ⟨c, c2⟩
  refine z_weaveIf h fun r' i' w' nv' L hf o86 o2 => ?_
  have : nv = nv' := z_Inv_nvK hf (by rw [o86]; exact hK)
  subst this
  have hS' := hf.1.1
  have hK' := hf.2.2.1
  -- how alike the first
  have ⟨f, hfd⟩ : ∃ f : Nat → Nat, f = fun m => z_lk (z_on (i' 86) L m) (fun c => i' 86 (60 + c)) := ⟨_, rfl⟩
  have f0 : f 0 = 36 := by
    rw [hfd]
    exact z_lk_36.mpr (fun _ _ => rfl)
  -- the reference
  have m10 : ∀ v : Int32, v = (if x = 0 then (z_tn f nv).1 else if (z_tn f nv).1 = -1 then (z_tn f nv).1 else (z_tn f nv).2) → T 84 = (0, 10) ∧ w_X10_turned 84 x T n r' i' w' (fun v2 i2 => v = v2 ∧ lw_N z_Inv n T n r' i2 w') := by
    intro y hy
    refine ⟨z_T84 hS', z_lies (m := 1) (by decide) (fun _ => z_t2 (z_looksF hf fun j q1 q2 q3 q4 q5 => ⟨nv + 1, ?_⟩)) (fun q => absurd bx q)⟩
    have loop : ∀ (d v : Nat), v + d = nv → w_X10_turned_22 84 x T n r' w' (fun v2 i2 => y = v2 ∧ lw_N z_Inv n T n r' i2 w') (d + 1) (z_tn f v).1 (z_tn f v).2 (nI v) j := by
      intro d
      induction d with
      | zero =>
        intro v hd
        have : v = nv := by omega
        subst this
        unfold w_X10_turned_22 s_X10_turned_22
        refine z_villages hS' ?_
        rw [q4, hK'.2.1]
        refine ⟨fun _ => ⟨fun e => ⟨?_, q3, by omega⟩, fun e => ⟨fun e2 => ⟨?_, q3, by omega⟩, fun e2 => ⟨?_, q3, by omega⟩⟩⟩, fun q => absurd (nI_le (Nat.le_refl _) (by omega)) q⟩
        · rw [hy]
          by_cases q : x = 0
          · rw [if_pos q]
          · rw [if_neg q, if_pos e]
        · rw [hy, if_neg e2, if_neg e]
        · rw [hy, if_pos e2]
      | succ d ih =>
        intro v hd
        unfold w_X10_turned_22 s_X10_turned_22
        refine z_villages hS' ?_
        rw [q4, hK'.2.1, z_r84_22 hS', z_r84_2 hS', nI_1, show (36 : Int32) * nI v = nI (36 * v) from pk_mul 36 v, show (36 : Int32) * nI (v + 1) = nI (36 * (v + 1)) from pk_mul 36 _]
        refine ⟨fun q => absurd q (nI_ge (by omega) (by omega)), fun _ => z_like10 (b := 86) (fb := 60) (z_T96 hS') (z_T86 hS') (by omega) (by omega) (by decide) (by decide) (z_like10 (b := 86) (fb := 60) (z_T96 hS') (z_T86 hS') (by omega) (by omega) (by decide) (by decide) ?_)⟩
        have l1 : z_lk (fun c => j 96 (36 * v + c)) (fun c => j 86 (60 + c)) = f v := by rw [hfd, q4]; exact z_lk_eq (fun c hc => q5 v (by omega) c hc) (fun _ _ => rfl)
        have l2 : z_lk (fun c => j 96 (36 * (v + 1) + c)) (fun c => j 86 (60 + c)) = f (v + 1) := by rw [hfd, q4]; exact z_lk_eq (fun c hc => q5 (v + 1) (by omega) c hc) (fun _ _ => rfl)
        rw [l1, l2]
        have nx := ih (v + 1) (by omega)
        unfold z_tn at nx
        refine ⟨fun e => ?_, fun e => ?_⟩
        · rw [if_pos e] at nx
          show w_X10_turned_22 84 x T n r' w' _ (d + 1) (nI v) _ (nI v + 1) j
          rw [nI_1]
          exact nx
        · rw [if_neg e] at nx
          show w_X10_turned_22 84 x T n r' w' _ (d + 1) _ _ (nI v + 1) j
          rw [nI_1]
          exact nx
    exact loop nv 0 (by omega)
  -- the class
  have loop : ∀ (d v : Nat), v + d = nv → w_X9_turned_26 1 x T n (fun v r1 i1 w1 => T 84 = (0, 10) ∧ w_X10_turned 84 x T n r1 i1 w1 (fun v2 i2 => v = v2 ∧ lw_N z_Inv n T n r1 i2 w1)) (d + 1) (z_tn f v).1 (z_tn f v).2 (nI (f v)) (nI v) r' i' w' := by
    intro d
    induction d with
    | zero =>
      intro v hd
      have : v = nv := by omega
      subst this
      unfold w_X9_turned_26 s_X9_turned_26
      rw [z_r1_0 hS', o2, e2]
      refine ⟨z_T2 hS', fun _ => ⟨fun e => m10 _ ?_, fun e => ⟨fun e2 => m10 _ ?_, fun e2 => m10 _ ?_⟩⟩, fun q => absurd (nI_le (Nat.le_refl _) (by omega)) q⟩
      · rw [if_pos e]
      · rw [if_neg e, if_neg e2]
      · rw [if_neg e, if_pos e2]
    | succ d ih =>
      intro v hd
      unfold w_X9_turned_26 s_X9_turned_26
      have e10 : r' 10 ((0 : Int32)).toNatClampNeg = 11 := z_r10_0 hS'
      rw [z_r1_0 hS', o2, e2, z_r1_4 hS', z_r2_1 hS', e10]
      refine ⟨z_T2 hS', fun q => absurd q (nI_ge (by omega) (by omega)), fun _ => ⟨z_T23 hS', z_picture hf (m := v + 1) (Or.inr ⟨v, by omega, rfl, rfl⟩) (fun a a1 a2 _ => ⟨z_kin (k := 0) (z_T10 hS') (by decide) (by decide), z_like9 a1 (z_T11 hS') ?_⟩)⟩⟩
      have l2 : z_lk (i' a) (i' 11) = f (v + 1) := by rw [hfd]; exact z_lk_eq a2 (fun c hc => hf.1.2.2.1.1.2.1 0 c (by decide) hc)
      rw [l2]
      have nx := ih (v + 1) (by omega)
      unfold z_tn at nx
      refine ⟨fun e => ?_, fun e => ?_⟩
      · rw [if_neg (Int32.not_lt.mpr e)] at nx
        show w_X9_turned_26 1 x T n _ (d + 1) _ _ _ (nI v + 1) r' i' w'
        rw [nI_1]
        exact nx
      · rw [if_pos (Int32.not_le.mp e)] at nx
        show w_X9_turned_26 1 x T n _ (d + 1) (nI v) _ _ (nI v + 1) r' i' w'
        rw [nI_1]
        exact nx
  have start := loop nv 0 (by omega)
  rw [f0] at start
  exact ⟨nv + 1, start⟩
def z_mx (f : Nat → Nat) : Nat → Int32 × Int32
  | 0 => (-1, -1)
  | v + 1 => if (z_mx f v).2 < nI (f v) then (nI v, nI (f v)) else z_mx f v
theorem z_mx_ne {f : Nat → Nat} (hf : ∀ v, f v ≤ 36) : ∀ v, v < 1000 → (z_mx f (v + 1)).1 ≠ -1 := by
  intro v
  induction v with
  | zero =>
    intro _
    unfold z_mx
    have h : (z_mx f 0).2 < nI (f 0) := by
      show (-1 : Int32) < nI (f 0)
      rw [fa_lt, nI_toInt (by have := hf 0; omega)]
      have : (-1 : Int32).toInt = -1 := by decide
      omega
    rw [if_pos h]
    exact z_m1ne (by decide)
  | succ v ih =>
    intro hv
    unfold z_mx
    by_cases c : (z_mx f (v + 1)).2 < nI (f (v + 1))
    · rw [if_pos c]
      exact z_m1ne (by omega)
    · rw [if_neg c]
      exact ih (by omega)
theorem z_C24 : lw_C24 z_Inv := by
  intro T n r i w x h hn
  have hS := h.1
  obtain ⟨nv, hv, e1, e2, hK⟩ := z_Inv_nv h
  have hb := z_B_le (x := x) (m := 1) (by decide)
  have no : ¬ z_B x 2 → T 84 = (0, 10) ∧ w_X10_meeting 84 x T n r i w (fun v2 i2 => -1 = v2 ∧ lw_N z_Inv n T n r i2 w) := fun hq => ⟨z_T84 hS, z_lies (m := 1) (by decide) (fun q => absurd q hq) (fun _ => z_f2 ⟨rfl, z_N h⟩)⟩
  unfold w_X9_meeting
  rw [z_r1_0 hS, e2]
  refine ⟨fun c => no (fun z => (hb.mp z).1 c), fun c => ⟨fun c2 => no (fun z => absurd c2 (Int32.not_lt.mpr (hb.mp z).2)), fun c2 => ⟨z_T2 hS, fun c3 => ?_, fun c3 => ?_⟩⟩⟩
  · have bx := hb.mpr ⟨c, Int32.not_lt.mp c2⟩
    have h2 : 2 ≤ nv := (nI_leI (a := 2) (by decide) (by omega)).mp c3
    refine z_weaveIf h fun r' i' w' nv' L hf o86 o2 => ?_
    have : nv = nv' := z_Inv_nvK hf (by rw [o86]; exact hK)
    subst this
    have hS' := hf.1.1
    rw [z_r1_4 hS']
    refine ⟨z_T23 hS', z_backward hf fun i2 w2 hf2 p86 p2 p4 prow => ⟨nv, ?_⟩⟩
    have hK' := hf2.2.2.1
    have ⟨f, hfd⟩ : ∃ f : Nat → Nat, f = fun v => z_lk (z_on (i2 86) L (v + 1)) (z_rw (i2 86) L nv (v + 1)) := ⟨_, rfl⟩
    have fle : ∀ v, f v ≤ 36 := fun v => by rw [hfd]; exact z_lk_le _ _
    -- the reference
    have m10 : ∀ y : Int32, y = (if x = 0 then (z_mx f (nv - 1)).1 else (z_mx f (nv - 1)).2) → T 84 = (0, 10) ∧ w_X10_meeting 84 x T n r' i2 w2 (fun v2 i2 => y = v2 ∧ lw_N z_Inv n T n r' i2 w2) := by
      intro y hy
      have ne := z_mx_ne fle (nv - 2) (by omega)
      rw [show nv - 2 + 1 = nv - 1 by omega] at ne
      refine ⟨z_T84 hS', z_lies (m := 1) (by decide) (fun _ => z_t2 (z_looksF hf2 fun j q1 q2 q3 q4 q5 => ?_)) (fun q => absurd bx q)⟩
      refine z_looksBack (L := L) hS' (by rw [q4]; exact hK') (by rw [q4]; exact hf2.2.2.2.1) fun j2 s1 s2 s3 => ⟨nv, ?_⟩
      have I2 : z_Inv T n r' j2 w2 := z_Inv_gq q3 (by decide) s1
      have e96 : j2 96 = j 96 := s1.1 96 (by decide) (by decide) (by decide)
      have e86 : j2 86 = i2 86 := (s1.1 86 (by decide) (by decide) (by decide)).trans q4
      have loop : ∀ (d v : Nat), v + d + 1 = nv → w_X10_meeting_26 84 x T n r' w2 (fun v2 i2 => y = v2 ∧ lw_N z_Inv n T n r' i2 w2) (d + 1) (z_mx f v).1 (z_mx f v).2 (nI v) j2 := by
        intro d
        induction d with
        | zero =>
          intro v hd
          have : nv - 1 = v := by omega
          rw [this] at hy ne
          unfold w_X10_meeting_26 s_X10_meeting_26
          refine z_villages hS' ?_
          rw [e86, hK'.2.1, nI_1]
          refine ⟨fun _ => ⟨fun e => absurd e ne, fun e => ⟨fun e2 => ⟨?_, I2, by omega⟩, fun e2 => ⟨?_, I2, by omega⟩⟩⟩, fun q => absurd (nI_le (by omega) (by omega)) q⟩
          · rw [hy, if_neg e2]
          · rw [hy, if_pos e2]
        | succ d ih =>
          intro v hd
          unfold w_X10_meeting_26 s_X10_meeting_26
          refine z_villages hS' ?_
          rw [e86, hK'.2.1, z_r84_22 hS', z_r84_23 hS', nI_1, show (36 : Int32) * nI (v + 1) = nI (36 * (v + 1)) from pk_mul 36 _]
          refine ⟨fun q => absurd q (nI_ge (by omega) (by omega)), fun _ => z_like10 (z_T96 hS') (z_T97 hS') (by omega) (by omega) (by decide) (by decide) ?_⟩
          have l1 : z_lk (fun c => j2 96 (36 * (v + 1) + c)) (fun c => j2 97 (36 * (v + 1) + c)) = f v := by
            rw [hfd, e96]
            refine z_lk_eq (fun c hc => q5 (v + 1) (by omega) c hc) (fun c hc => ?_)
            have := s3 (nv - (v + 1)) (by omega) c hc
            rw [show nv - (nv - (v + 1)) = v + 1 by omega, q4] at this
            exact this
          rw [l1]
          have nx := ih (v + 1) (by omega)
          unfold z_mx at nx
          refine ⟨fun e => ?_, fun e => ?_⟩
          · rw [if_pos e] at nx
            show w_X10_meeting_26 84 x T n r' w2 _ (d + 1) (nI v) _ (nI v + 1) j2
            rw [nI_1]
            exact nx
          · rw [if_neg e] at nx
            show w_X10_meeting_26 84 x T n r' w2 _ (d + 1) _ _ (nI v + 1) j2
            rw [nI_1]
            exact nx
      have := loop (nv - 1) 0 (by omega)
      rw [show nv - 1 + 1 = nv by omega] at this
      exact this
    -- the class
    have loop : ∀ (d v : Nat) (x3 x4 : Int32), v + d + 1 = nv → (v = 0 → x3 = 0 ∧ x4 = -1) → (v ≠ 0 → (x3, x4) = z_mx f v) → w_X9_meeting_42 1 x T n (fun v r1 i1 w1 => T 84 = (0, 10) ∧ w_X10_meeting 84 x T n r1 i1 w1 (fun v2 i2 => v = v2 ∧ lw_N z_Inv n T n r1 i2 w1)) (d + 1) 41 x3 x4 (nI v) r' i2 w2 := by
      intro d
      induction d with
      | zero =>
        intro v x3 x4 hd _ g2
        have g := g2 (by omega)
        unfold w_X9_meeting_42 s_X9_meeting_42
        rw [z_r1_0 hS', p2, o2, e2, nI_1]
        have : nv - 1 = v := by omega
        refine ⟨z_T2 hS', fun _ => ⟨fun e => m10 _ ?_, fun e => m10 _ ?_⟩, fun q => absurd (nI_le (by omega) (by omega)) q⟩
        · rw [if_neg e, this, ← g]
        · rw [if_pos e, this, ← g]
      | succ d ih =>
        intro v x3 x4 hd g1 g2
        unfold w_X9_meeting_42 s_X9_meeting_42
        rw [z_r1_0 hS', p2, o2, e2, nI_1, z_r1_4 hS', z_r23_1 hS', nI_clamp (by omega), nI_clamp (by omega), z_rorow hS' (by omega), z_rrrow hS' (by omega)]
        refine ⟨z_T2 hS', fun q => absurd q (nI_ge (by omega) (by omega)), fun _ => ⟨z_T23 hS', z_kin (z_T30 hS') (by omega) (by decide), z_kin (z_T41 hS') (by omega) (by decide), z_like9 (z_Torow hS' (by omega)) (z_Trrow hS' (by omega)) ?_⟩⟩
        have l1 : z_lk (i2 (31 + v)) (i2 (42 + (v + 1))) = f v := by
          rw [hfd]
          refine z_lk_eq (fun c hc => hf2.2.2.2.2.1.2.2.2.1 v (by omega) c hc) (fun c hc => ?_)
          rw [prow (v + 1) (by omega) c hc, p86]
        rw [l1]
        have take : (z_mx f v).2 = x4 := by
          by_cases q : v = 0
          · rw [(g1 q).2, q]
            rfl
          · rw [← g2 q]
        have snd : v ≠ 0 → z_mx f v = (x3, x4) := fun q => (g2 q).symm
        refine ⟨fun e => ?_, fun e => ?_⟩
        · show w_X9_meeting_42 1 x T n _ (d + 1) 41 x3 x4 (nI v + 1) r' i2 w2
          rw [nI_1]
          refine ih (v + 1) x3 x4 (by omega) (fun q => by omega) (fun _ => ?_)
          unfold z_mx
          rw [take, if_neg (Int32.not_lt.mpr e)]
          by_cases q : v = 0
          · exfalso
            rw [(g1 q).2, fa_le, nI_toInt (by have := fle v; omega)] at e
            have : (-1 : Int32).toInt = -1 := by decide
            omega
          · exact (snd q).symm
        · show w_X9_meeting_42 1 x T n _ (d + 1) 41 (nI v) (nI (f v)) (nI v + 1) r' i2 w2
          rw [nI_1]
          refine ih (v + 1) (nI v) (nI (f v)) (by omega) (fun q => by omega) (fun _ => ?_)
          unfold z_mx
          rw [take, if_pos (Int32.not_le.mp e)]
    have := loop (nv - 1) 0 0 (-1) (by omega) (fun _ => ⟨rfl, rfl⟩) (fun q => absurd rfl q)
    rw [show nv - 1 + 1 = nv by omega] at this
    exact this
  · have bx := hb.mpr ⟨c, Int32.not_lt.mp c2⟩
    have h2 : nv < 2 := by
      rcases Nat.lt_or_ge nv 2 with q | q
      · exact q
      · exact absurd (nI_le (a := 2) q (by omega)) c3
    obtain ⟨n1, -, n3⟩ := h.2.2.1
    obtain ⟨L, la, hL, hLk⟩ := z_laws_in n3
    refine ⟨z_T84 hS, z_lies (m := 1) (by decide) (fun _ => z_t2 (z_looks (L := L) hS hK hLk fun j q1 q2 q3 => ?_)) (fun q => absurd bx q)⟩
    have e86 : j 86 = i 86 := q1.1 86 (by decide) (by decide) (by decide)
    refine z_looksBack (L := L) hS (by rw [e86]; exact hK) (by rw [e86]; exact hLk) fun j2 s1 s2 s3 => ⟨1, ?_⟩
    have I2 : z_Inv T n r j2 w := z_Inv_gq (z_Inv_gq h (by decide) q1) (by decide) s1
    unfold w_X10_meeting_26 s_X10_meeting_26
    refine z_villages hS ?_
    rw [s1.1 86 (by decide) (by decide) (by decide), e86, e1]
    refine ⟨fun _ => ⟨fun _ => ⟨rfl, I2, by omega⟩, fun q => absurd rfl q⟩, fun q => absurd (nI_le (b := 1) (by omega) (by decide)) q⟩
-- SEAMS
def z_s9 (f : Nat → Int32) (c : Nat) : Nat := (if c % 6 ≠ 0 ∧ f (c - 1) ≠ -1 ∧ f (c - 1) ≠ f c then 1 else 0) + (if 6 ≤ c ∧ f (c - 6) ≠ -1 ∧ f (c - 6) ≠ f c then 1 else 0)
def z_sm9 (f : Nat → Int32) (m : Nat) : Nat := fb_sm (fun c => if f c = -1 then 0 else z_s9 f c) m
def z_sm10 (f : Nat → Int32) (m : Nat) : Nat := fb_sm (fun c => (if c % 6 < 5 ∧ f c ≠ f (c + 1) then 1 else 0) + (if c < 30 ∧ f c ≠ f (c + 6) then 1 else 0)) m
theorem z_sm9_le (f : Nat → Int32) (m : Nat) : z_sm9 f m ≤ m * 2 := fb_sm_bound (fun c _ => by unfold z_s9; split <;> (try split) <;> (try split) <;> omega)
theorem z_sm_eq {f : Nat → Int32} (hf : ∀ c, c < 36 → f c ≠ -1) : z_sm9 f 36 = z_sm10 f 36 := by
  -- a side between a cell and the next, and the one below
  have ⟨A, hA⟩ : ∃ A : Nat → Nat, ∀ c, A c = if f c = f (c + 1) then 0 else 1 := ⟨_, fun _ => rfl⟩
  have ⟨B, hB⟩ : ∃ B : Nat → Nat, ∀ c, B c = if f c = f (c + 6) then 0 else 1 := ⟨_, fun _ => rfl⟩
  have e9 : z_sm9 f 36 = fb_sm (fun c => (if c % 6 ≠ 0 then A (c - 1) else 0) + (if 6 ≤ c then B (c - 6) else 0)) 36 := by
    refine fb_sm_cong (fun c hc => ?_)
    show (if f c = -1 then 0 else z_s9 f c) = _
    rw [if_neg (hf c hc)]
    unfold z_s9
    congr 1
    · by_cases q : c % 6 ≠ 0
      · rw [if_pos q, hA, show c - 1 + 1 = c by omega]
        by_cases q2 : f (c - 1) = f c
        · rw [if_neg (fun z => z.2.2 q2), if_pos q2]
        · rw [if_pos ⟨q, hf _ (by omega), q2⟩, if_neg q2]
      · rw [if_neg q, if_neg (fun z => q z.1)]
    · by_cases q : 6 ≤ c
      · rw [if_pos q, hB, show c - 6 + 6 = c by omega]
        by_cases q2 : f (c - 6) = f c
        · rw [if_neg (fun z => z.2.2 q2), if_pos q2]
        · rw [if_pos ⟨q, hf _ (by omega), q2⟩, if_neg q2]
      · rw [if_neg q, if_neg (fun z => q z.1)]
  have e10 : z_sm10 f 36 = fb_sm (fun c => (if c % 6 < 5 then A c else 0) + (if c < 30 then B c else 0)) 36 := by
    refine fb_sm_cong (fun c hc => ?_)
    congr 1
    · rw [hA]
      by_cases q : c % 6 < 5
      · rw [if_pos q]
        by_cases q2 : f c = f (c + 1)
        · rw [if_neg (fun z => z.2 q2), if_pos q2]
        · rw [if_pos ⟨q, q2⟩, if_neg q2]
      · rw [if_neg q, if_neg (fun z => q z.1)]
    · rw [hB]
      by_cases q : c < 30
      · rw [if_pos q]
        by_cases q2 : f c = f (c + 6)
        · rw [if_neg (fun z => z.2 q2), if_pos q2]
        · rw [if_pos ⟨q, q2⟩, if_neg q2]
      · rw [if_neg q, if_neg (fun z => q z.1)]
  rw [e9, e10]
  simp [fb_sm]
  omega
section ZSE
variable {T : kw_T} {n : Nat} {r : kw_R} {i : kw_I} {w : kw_L}
theorem z_seam9 {x y : Int32} {Q : Int32 → Prop} (hQ : Q (if y ≠ -1 ∧ y ≠ x then 1 else 0)) : w_X9_seam x y T n r i w Q := by
  refine ⟨fun e => ?_, fun e => ⟨fun e2 => ?_, fun e2 => ?_⟩⟩
  · rw [if_neg (fun z => z.1 e)] at hQ
    exact hQ
  · rw [if_neg (fun z => z.2 e2)] at hQ
    exact hQ
  · rw [if_pos ⟨e, e2⟩] at hQ
    exact hQ
theorem z_seams9 {a : Nat} (ha : T a = (1, 36)) {Q : Int32 → Prop} (hQ : Q (nI (z_sm9 (i a) 36))) : w_X9_seamsOf a T n r i w Q := by
  have loop : ∀ (d c : Nat), c + d = 36 → w_X9_seamsOf_4 a T n r i w Q (d + 1) (nI (z_sm9 (i a) c)) (nI c) := by
    intro d
    induction d with
    | zero =>
      intro c hc
      have : c = 36 := by omega
      subst this
      exact ⟨fun _ => hQ, fun q => absurd (by decide) q⟩
    | succ d ih =>
      intro c hc
      have nx := ih (c + 1) (by omega)
      have e : z_sm9 (i a) (c + 1) = z_sm9 (i a) c + (if i a c = -1 then 0 else z_s9 (i a) c) := rfl
      rw [e] at nx
      have ka : ∀ k, k < 36 → kw_in T 1 a (nI k) := fun k hk => z_kin ha hk (by decide)
      refine ⟨fun q => absurd q (nI_ge (b := 36) (by omega) (by decide)), fun _ => ⟨ka c (by omega), ?_⟩⟩
      have em : nI c - nI c / (6 : Int32) * 6 = nI (c % 6) := pk_rem (d := 6) (by omega) (by decide) (by decide)
      rw [nI_clamp (by omega), em]
      have c62 : ∀ y : Int32, y = nI (z_sm9 (i a) c + (if i a c = -1 then 0 else z_s9 (i a) c)) → w_X9_seamsOf_62 a T n r i w Q (w_X9_seamsOf_4 a T n r i w Q (d + 1)) y (nI c) := by
        intro y hy
        show w_X9_seamsOf_4 a T n r i w Q (d + 1) y (nI c + 1)
        rw [nI_1, hy]
        exact nx
      refine ⟨fun q => ?_, fun q => c62 _ (by rw [if_pos q]; rfl)⟩
      rw [if_neg q] at c62
      have c41 : ∀ s : Nat, s = z_sm9 (i a) c + (if c % 6 ≠ 0 ∧ i a (c - 1) ≠ -1 ∧ i a (c - 1) ≠ i a c then 1 else 0) → w_X9_seamsOf_41 a T n r i w Q (w_X9_seamsOf_4 a T n r i w Q (d + 1)) (nI s) (nI c) := by
        intro s hs
        refine ⟨fun q6 => c62 _ ?_, fun q6 => ?_⟩
        · have : c < 6 := (nI_ltI (b := 6) (by omega) (by decide)).mp q6
          rw [hs]
          unfold z_s9
          rw [if_neg (fun z : 6 ≤ c ∧ _ => by omega)]
          rfl
        · have h6 : 6 ≤ c := by
            rcases Nat.lt_or_ge c 6 with z | z
            · exact absurd (nI_lt (b := 6) z (by decide)) q6
            · exact z
          rw [show nI c - (6 : Int32) = nI (c - 6) from pk_sub (b := 6) h6, nI_clamp (by omega), nI_clamp (by omega)]
          refine ⟨ka c (by omega), ka (c - 6) (by omega), z_seam9 (c62 _ ?_)⟩
          by_cases z : i a (c - 6) ≠ -1 ∧ i a (c - 6) ≠ i a c
          · have e9 : z_s9 (i a) c = (if c % 6 ≠ 0 ∧ i a (c - 1) ≠ -1 ∧ i a (c - 1) ≠ i a c then 1 else 0) + 1 := by
              unfold z_s9
              rw [if_pos (show 6 ≤ c ∧ i a (c - 6) ≠ -1 ∧ i a (c - 6) ≠ i a c from ⟨h6, z⟩)]
            rw [if_pos z, e9, hs]
            show nI _ + nI 1 = _
            rw [nI_add, Nat.add_assoc]
          · have e9 : z_s9 (i a) c = (if c % 6 ≠ 0 ∧ i a (c - 1) ≠ -1 ∧ i a (c - 1) ≠ i a c then 1 else 0) + 0 := by
              unfold z_s9
              rw [if_neg (show ¬ (6 ≤ c ∧ i a (c - 6) ≠ -1 ∧ i a (c - 6) ≠ i a c) from fun y => z y.2)]
            rw [if_neg z, e9, hs]
            show nI _ + nI 0 = _
            rw [nI_add, Nat.add_assoc]
      refine ⟨fun q0 => c41 _ ?_, fun q0 => ?_⟩
      · have : c % 6 = 0 := by
          rcases Nat.eq_zero_or_pos (c % 6) with z | z
          · exact z
          · exact absurd q0 (nI_nle z (by omega))
        rw [if_neg (fun z => z.1 this)]
        rfl
      · have h0 : c % 6 ≠ 0 := fun z => q0 (by rw [z]; decide)
        rw [show nI c - (1 : Int32) = nI (c - 1) from pk_sub (b := 1) (by omega), nI_clamp (by omega)]
        refine ⟨ka c (by omega), ka (c - 1) (by omega), z_seam9 ?_⟩
        by_cases z : i a (c - 1) ≠ -1 ∧ i a (c - 1) ≠ i a c
        · rw [if_pos z, show (1 : Int32) = nI 1 from rfl, nI_add]
          exact c41 _ (by rw [if_pos ⟨h0, z⟩])
        · rw [if_neg z, show (0 : Int32) = nI 0 from rfl, nI_add]
          exact c41 _ (by rw [if_neg (fun y => z y.2)])
  exact ⟨37, loop 36 0 (by omega)⟩
theorem z_seams10 {a fr m : Nat} (ha : T a = (1, m)) (hm : fr + 36 ≤ m) (hm2 : m < 2 ^ 31) {Q : Int32 → Prop} (hQ : Q (nI (z_sm10 (fun c => i a (fr + c)) 36))) : w_X10_seamsOf a (nI fr) T n r i w Q := by
  have loop : ∀ (d c : Nat), c + d = 36 → w_X10_seamsOf_4 a (nI fr) T n r i w Q (d + 1) (nI (z_sm10 (fun c => i a (fr + c)) c)) (nI c) := by
    intro d
    induction d with
    | zero =>
      intro c hc
      have : c = 36 := by omega
      subst this
      exact ⟨fun _ => hQ, fun q => absurd (by decide) q⟩
    | succ d ih =>
      intro c hc
      have nx := ih (c + 1) (by omega)
      have e : z_sm10 (fun c => i a (fr + c)) (c + 1) = z_sm10 (fun c => i a (fr + c)) c + ((if c % 6 < 5 ∧ i a (fr + c) ≠ i a (fr + (c + 1)) then 1 else 0) + (if c < 30 ∧ i a (fr + c) ≠ i a (fr + (c + 6)) then 1 else 0)) := rfl
      rw [e] at nx
      have ka : ∀ k, k < 36 → kw_in T 1 a (nI (fr + k)) := fun k hk => z_kin ha (by omega) hm2
      have em : nI c - nI c / (6 : Int32) * 6 = nI (c % 6) := pk_rem (d := 6) (by omega) (by decide) (by decide)
      refine ⟨fun q => absurd q (nI_ge (b := 36) (by omega) (by decide)), fun _ => ?_⟩
      rw [em, nI_add, nI_1]
      have c69 : ∀ s s1 : Nat, s + s1 = z_sm10 (fun c => i a (fr + c)) c + ((if c % 6 < 5 ∧ i a (fr + c) ≠ i a (fr + (c + 1)) then 1 else 0) + (if c < 30 ∧ i a (fr + c) ≠ i a (fr + (c + 6)) then 1 else 0)) → w_X10_seamsOf_69 a (nI fr) T n r i w Q (w_X10_seamsOf_4 a (nI fr) T n r i w Q (d + 1)) (nI c) (nI s) (nI s1) := by
        intro s s1 hs
        show w_X10_seamsOf_4 a (nI fr) T n r i w Q (d + 1) (nI s + nI s1) (nI c + 1)
        rw [nI_1, nI_add, hs]
        exact nx
      have c39 : ∀ s1 : Nat, s1 = (if c % 6 < 5 ∧ i a (fr + c) ≠ i a (fr + (c + 1)) then 1 else 0) → w_X10_seamsOf_39 a (nI fr) T n r i w Q (w_X10_seamsOf_4 a (nI fr) T n r i w Q (d + 1)) (nI c) (nI (z_sm10 (fun c => i a (fr + c)) c)) (nI s1) := by
        intro s1 hs1
        unfold w_X10_seamsOf_39
        rw [nI_add, nI_add, show nI (fr + c) + (6 : Int32) = nI (fr + (c + 6)) from nI_add _ 6]
        refine ⟨fun q => c69 _ 0 ?_, fun q => ?_⟩
        · have : 30 ≤ c := (nI_leI (a := 30) (by decide) (by omega)).mp q
          rw [hs1, if_neg (fun z : c < 30 ∧ i a (fr + c) ≠ i a (fr + (c + 6)) => by omega)]
          omega
        · have h30 : c < 30 := by
            rcases Nat.lt_or_ge c 30 with z | z
            · exact z
            · exact absurd (nI_le (a := 30) z (by omega)) q
          rw [nI_clamp (by omega), nI_clamp (by omega)]
          refine ⟨ka c (by omega), ka (c + 6) (by omega), fun z => c69 _ 0 ?_, fun z => c69 _ 1 ?_⟩
          · rw [hs1, if_neg (fun y : c < 30 ∧ i a (fr + c) ≠ i a (fr + (c + 6)) => y.2 z)]
            omega
          · rw [hs1, if_pos (show c < 30 ∧ i a (fr + c) ≠ i a (fr + (c + 6)) from ⟨h30, z⟩)]
            omega
      refine ⟨fun q => c39 0 ?_, fun q => ?_⟩
      · have : 5 ≤ c % 6 := (nI_leI (a := 5) (by decide) (by omega)).mp q
        rw [if_neg (fun z => by omega)]
      · have h5 : c % 6 < 5 := by
          rcases Nat.lt_or_ge (c % 6) 5 with z | z
          · exact z
          · exact absurd (nI_le (a := 5) z (by omega)) q
        rw [show fr + c + 1 = fr + (c + 1) by omega, nI_clamp (by omega), nI_clamp (by omega)]
        refine ⟨ka c (by omega), ka (c + 1) (by omega), fun z => c39 0 ?_, fun z => c39 1 ?_⟩
        · rw [if_neg (fun y => y.2 z)]
        · rw [if_pos ⟨h5, z⟩]
  exact ⟨37, loop 36 0 (by omega)⟩
end ZSE
theorem z_sm10_eq {f g : Nat → Int32} (h : ∀ c, c < 36 → f c = g c) : z_sm10 f 36 = z_sm10 g 36 := by
  refine fb_sm_cong (fun c hc => ?_)
  rw [h c hc]
  have e1 : (if c % 6 < 5 ∧ g c ≠ f (c + 1) then 1 else 0) = (if c % 6 < 5 ∧ g c ≠ g (c + 1) then 1 else 0) := by
    by_cases q1 : c % 6 < 5
    · rw [h (c + 1) (by omega)]
    · rw [if_neg (fun z => q1 z.1), if_neg (fun z => q1 z.1)]
  have e2 : (if c < 30 ∧ g c ≠ f (c + 6) then 1 else 0) = (if c < 30 ∧ g c ≠ g (c + 6) then 1 else 0) := by
    by_cases q2 : c < 30
    · rw [h (c + 6) (by omega)]
    · rw [if_neg (fun z => q2 z.1), if_neg (fun z => q2 z.1)]
  rw [e1, e2]
theorem z_C25 : lw_C25 z_Inv := by
  intro T n r i w x h hn
  have hS := h.1
  obtain ⟨nv, hv, e1, e2, hK⟩ := z_Inv_nv h
  refine z_isVN9 hS e2 hv (fun m1 h1 => z_t2 (z_weaveIf h fun r' i' w' nv' L hf o86 o2 => ?_)) (fun q => z_f2 ⟨z_T84 hS, z_isOF10 hS e1 hv (fun m hm => absurd ⟨m, hm⟩ q) (fun _ => z_f2 ⟨rfl, z_N h⟩)⟩)
  have : nv = nv' := z_Inv_nvK hf (by rw [o86]; exact hK)
  subst this
  have hS' := hf.1.1
  have g1 := z_vn_le h1
  have hK' := hf.2.2.1
  have Bon : ∀ c, c < 36 → z_B (z_on (i' 86) L m1 c) 8 := fun c hc => z_go_B (fun c hc => hK'.2.2.2.1 0 c (by decide) hc) (fun v hv => (z_Kr_W hK' hv).1) (fun v c x _ _ q => by cases q) m1 (by omega) c hc
  rw [z_r1_4 hS']
  refine ⟨z_T23 hS', z_picture hf (z_vn_pic h1) fun a a1 a2 _ => z_seams9 a1 ⟨z_T84 hS', ?_⟩⟩
  refine z_isOF10 hS' (by rw [o86]; exact e1) hv (fun _ _ => z_t2 (z_looksF hf fun j q1 q2 q3 q4 q5 => ?_)) (fun q => absurd ⟨m1, h1⟩ q)
  rw [z_vn_1 h1, z_r84_22 hS', show (36 : Int32) * nI m1 = nI (36 * m1) from pk_mul 36 m1]
  refine z_seams10 (z_T96 hS') (by omega) (by decide) ⟨?_, q3, by omega⟩
  rw [z_sm_eq (fun c hc => by rw [a2 c hc]; exact z_B_ne (Bon c hc) (by decide))]
  exact congrArg nI (z_sm10_eq (fun c hc => by rw [a2 c hc, q5 m1 g1 c hc]))
