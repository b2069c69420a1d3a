-- THE REFERENCE'S EVALUATION OF TESTS
theorem z_tv_an {live b0 x2 b v b' l' : Int32} {a t : z_Ts} {ask : Nat → Int32} (h1 : z_tv live b0 (a ask) x2 b) (hl : kw_b live) (hl' : (live = 0 → l' = 0) ∧ (x2 = 0 → l' = 0) ∧ (live = 1 → x2 = 1 → l' = 1)) (h2 : z_tv l' b (t ask) v b') : z_tv live b0 (z_anS a t ask) (if x2 = 0 then 0 else v) b' := by
  obtain ⟨k1, h1, h1'⟩ := h1
  obtain ⟨k2, h2, h2'⟩ := h2
  refine ⟨?_, fun q => ?_, fun l1 b00 => ?_⟩
  · by_cases c : x2 = 0
    · rw [if_pos c]
      exact z_b0
    · rw [if_neg c]
      exact k2
  · have e := h1 q
    rcases q with q | q
    · rw [h2 (Or.inl (hl'.1 q)), e]
    · rw [h2 (Or.inr (e.trans q)), e]
  · have g := h1' l1 b00
    unfold z_anS
    cases ea : a ask with
    | none =>
      rw [ea] at g
      have g : b = 1 := g
      show b' = 1
      rw [h2 (Or.inr g), g]
    | some y =>
      rw [ea] at g
      obtain ⟨g1, g2⟩ : b = 0 ∧ x2 = (if y then 1 else 0) := g
      cases y with
      | false =>
        have g2 : x2 = 0 := g2
        refine ⟨?_, ?_⟩
        · rw [h2 (Or.inl (hl'.2.1 g2)), g1]
        · rw [if_pos g2]
          rfl
      | true =>
        have g2 : x2 = 1 := g2
        have g3 := h2' (hl'.2.2 l1 g2) g1
        rw [if_neg (by rw [g2]; decide)]
        exact g3
theorem z_tv_or {live b0 x2 b v b' l' : Int32} {a t : z_Ts} {ask : Nat → Int32} (h1 : z_tv live b0 (a ask) x2 b) (hl : kw_b live) (hl' : (live = 0 → l' = 0) ∧ (x2 = 1 → l' = 0) ∧ (live = 1 → x2 = 0 → l' = 1)) (h2 : z_tv l' b (t ask) v b') : z_tv live b0 (z_orS a t ask) (if x2 = 0 then v else 1) b' := by
  obtain ⟨k1, h1, h1'⟩ := h1
  obtain ⟨k2, h2, h2'⟩ := h2
  refine ⟨?_, fun q => ?_, fun l1 b00 => ?_⟩
  · by_cases c : x2 = 0
    · rw [if_pos c]
      exact k2
    · rw [if_neg c]
      exact z_b1
  · have e := h1 q
    rcases q with q | q
    · rw [h2 (Or.inl (hl'.1 q)), e]
    · rw [h2 (Or.inr (e.trans q)), e]
  · have g := h1' l1 b00
    unfold z_orS
    cases ea : a ask with
    | none =>
      rw [ea] at g
      have g : b = 1 := g
      show b' = 1
      rw [h2 (Or.inr g), g]
    | some y =>
      rw [ea] at g
      obtain ⟨g1, g2⟩ : b = 0 ∧ x2 = (if y then 1 else 0) := g
      cases y with
      | true =>
        have g2 : x2 = 1 := g2
        refine ⟨?_, ?_⟩
        · rw [h2 (Or.inl (hl'.2.1 g2)), g1]
        · rw [if_neg (by rw [g2]; decide)]
          rfl
      | false =>
        have g2 : x2 = 0 := g2
        have g3 := h2' (hl'.2.2 l1 g2) g1
        rw [if_pos g2]
        exact g3
section ZET
variable {T : kw_T} {n : Nat} {r : kw_R} {i0 : kw_I} {w : kw_L} {j sz : Nat} {tk vl : Nat → Nat}
def z_cT (T : kw_T) (n : Nat) (r : kw_R) (i0 : kw_I) (w : kw_L) (j : Nat) (k : Nat → Int32 → kw_T → Nat → kw_R → kw_I → kw_L → (Int32 → kw_I → Prop) → Prop) (P : Nat → Nat → z_O z_Ts → Prop) : Prop := ∀ (p m : Nat) (s : z_Ts) (q m' : Nat) (live b : Int32) (i : kw_I) (Q : Int32 → kw_I → Prop), P p m (.ok (s, q, m')) → z_at i0 i j p b → kw_b live → kw_b b → (∀ v i' b', z_at i0 i' j q b' → kw_b b' → z_tv live b (s (i0 95)) v b' → Q v i') → k 84 live T n r i w Q
theorem z_bothOf {kb kl ko kt : Nat → Int32 → kw_T → Nat → kw_R → kw_I → kw_L → (Int32 → kw_I → Prop) → Prop} {P : Nat → Nat → z_O z_Ts → Prop} (hx : z_cx T r i0 j sz tk vl) (hk : z_cT T n r i0 w j kl P) (hP : ∀ p m o, P p m o → z_gd sz p m o) : z_cT T n r i0 w j (w_X10_bothOf kb kl ko kt) (z_gC tk sz (fun c => c = 4) z_mkA P) := by
  have hsz := hx.2.2.1
  intro p m s q m' live b i Q hg ha hl hb hQ
  obtain ⟨hg, -⟩ := hg
  rcases hg with ⟨a, p1, m1, N, h1, h2⟩ | ⟨t, -, h⟩
  rotate_left
  · cases h
  have hg1 := (hP _ _ _ h1).1 _ _ _ rfl
  refine hk p m a p1 m1 live b i _ h1 ha hl hb fun v2 i2 b2 a2 k2 s2 => ?_
  refine ⟨N, ?_⟩
  clear ha h1
  revert p1 m1 a v2 i2 b2
  induction N with
  | zero => intro a p1 m1 h2; exact h2.elim
  | succ N ih =>
    intro a p1 m1 h2 hg1 v2 i2 b2 a2 k2 s2
    have hp1 : p1 ≤ 500 := by omega
    show s_X10_bothOf_6 kb kl ko kt 84 live T n r w Q (w_X10_bothOf_6 kb kl ko kt 84 live T n r w Q N) v2 i2
    rcases h2 with ⟨hn, he⟩ | ⟨hs, hrest⟩
    · cases he
      exact z_passes (c := 4) hx a2 hp1 (by decide) (fun c => absurd c hn) (fun _ => z_f ⟨s2.1, hQ _ _ _ a2 k2 s2⟩)
    · rcases hrest with ⟨b', p2, m2, h3, h4⟩ | ⟨t, -, h⟩
      rotate_left
      · cases h
      have hg2 := (hP _ _ _ h3).1 _ _ _ rfl
      refine z_passes (c := 4) hx a2 hp1 (by decide) (fun _ i8 a8 => z_t ?_) (fun c => absurd hs c)
      have c28 : ∀ l' : Int32, kw_b l' → (live = 0 → l' = 0) ∧ (v2 = 0 → l' = 0) ∧ (live = 1 → v2 = 1 → l' = 1) → w_X10_bothOf_28 kb kl ko kt 84 live T n r w Q (w_X10_bothOf_6 kb kl ko kt 84 live T n r w Q N) v2 84 l' i8 := by
        intro l' kl' hl'
        refine ⟨z_T84 hx.1, hk (p1 + 1) m1 b' p2 m2 l' b2 _ _ h3 a8 kl' k2 fun v73 i73 b73 a73 k73 s73 => ?_⟩
        have s9 := z_tv_an s2 hl hl' s73
        have fin : ∀ y, y = (if v2 = 0 then 0 else v73) → w_X10_bothOf_6 kb kl ko kt 84 live T n r w Q N y i73 := fun y hy => ih _ p2 m2 h4 (by omega) y i73 b73 a73 k73 (by rw [hy]; exact s9)
        refine ⟨fun c => fin 0 (by rw [if_pos c]), fun c => ⟨fun c2 => fin 0 (by rw [if_neg c]; exact c2.symm), fun c2 => fin 1 (by rw [if_neg c]; exact ((z_01 s73.1).resolve_left c2).symm)⟩⟩
      refine ⟨fun c => c28 0 z_b0 ⟨fun _ => rfl, fun _ => rfl, fun l => ?_⟩, fun c => ⟨fun c2 => c28 0 z_b0 ⟨fun _ => rfl, fun _ => rfl, fun _ v1 => ?_⟩, fun c2 => c28 1 z_b1 ⟨fun l => absurd l c, fun v0 => absurd v0 c2, fun _ _ => rfl⟩⟩⟩
      · rw [c] at l
        exact absurd l (by decide)
      · rw [c2] at v1
        exact absurd v1 (by decide)
theorem z_testOf {kb kl ko kt : Nat → Int32 → kw_T → Nat → kw_R → kw_I → kw_L → (Int32 → kw_I → Prop) → Prop} {P : Nat → Nat → z_O z_Ts → Prop} (hx : z_cx T r i0 j sz tk vl) (hk : z_cT T n r i0 w j kb P) (hP : ∀ p m o, P p m o → z_gd sz p m o) : z_cT T n r i0 w j (w_X10_testOf kb kl ko kt) (z_gC tk sz (fun c => c = 3) z_mkO P) := by
  have hsz := hx.2.2.1
  intro p m s q m' live b i Q hg ha hl hb hQ
  obtain ⟨hg, -⟩ := hg
  rcases hg with ⟨a, p1, m1, N, h1, h2⟩ | ⟨t, -, h⟩
  rotate_left
  · cases h
  have hg1 := (hP _ _ _ h1).1 _ _ _ rfl
  refine hk p m a p1 m1 live b i _ h1 ha hl hb fun v2 i2 b2 a2 k2 s2 => ?_
  refine ⟨N, ?_⟩
  clear ha h1
  revert p1 m1 a v2 i2 b2
  induction N with
  | zero => intro a p1 m1 h2; exact h2.elim
  | succ N ih =>
    intro a p1 m1 h2 hg1 v2 i2 b2 a2 k2 s2
    have hp1 : p1 ≤ 500 := by omega
    show s_X10_testOf_6 kb kl ko kt 84 live T n r w Q (w_X10_testOf_6 kb kl ko kt 84 live T n r w Q N) v2 i2
    rcases h2 with ⟨hn, he⟩ | ⟨hs, hrest⟩
    · cases he
      exact z_passes (c := 3) hx a2 hp1 (by decide) (fun c => absurd c hn) (fun _ => z_f ⟨s2.1, hQ _ _ _ a2 k2 s2⟩)
    · rcases hrest with ⟨b', p2, m2, h3, h4⟩ | ⟨t, -, h⟩
      rotate_left
      · cases h
      have hg2 := (hP _ _ _ h3).1 _ _ _ rfl
      refine z_passes (c := 3) hx a2 hp1 (by decide) (fun _ i8 a8 => z_t ?_) (fun c => absurd hs c)
      have c28 : ∀ l' : Int32, kw_b l' → (live = 0 → l' = 0) ∧ (v2 = 1 → l' = 0) ∧ (live = 1 → v2 = 0 → l' = 1) → w_X10_testOf_28 kb kl ko kt 84 live T n r w Q (w_X10_testOf_6 kb kl ko kt 84 live T n r w Q N) v2 84 l' i8 := by
        intro l' kl' hl'
        refine ⟨z_T84 hx.1, hk (p1 + 1) m1 b' p2 m2 l' b2 _ _ h3 a8 kl' k2 fun v73 i73 b73 a73 k73 s73 => ?_⟩
        have s9 := z_tv_or s2 hl hl' s73
        have fin : ∀ y, y = (if v2 = 0 then v73 else 1) → w_X10_testOf_6 kb kl ko kt 84 live T n r w Q N y i73 := fun y hy => ih _ p2 m2 h4 (by omega) y i73 b73 a73 k73 (by rw [hy]; exact s9)
        refine ⟨fun c => fin 1 (by rw [if_neg c]), fun c => ⟨fun c2 => fin 0 (by rw [if_pos c]; exact c2.symm), fun c2 => fin 1 (by rw [if_pos c]; exact ((z_01 s73.1).resolve_left c2).symm)⟩⟩
      refine ⟨fun c => c28 0 z_b0 ⟨fun _ => rfl, fun _ => rfl, fun l => ?_⟩, fun c => ⟨fun c2 => c28 0 z_b0 ⟨fun _ => rfl, fun _ => rfl, fun _ v1 => absurd v1 c2⟩, fun c2 => c28 1 z_b1 ⟨fun l => absurd l c, fun v0 => ?_, fun _ _ => rfl⟩⟩⟩
      · rw [c] at l
        exact absurd l (by decide)
      · rw [c2] at v0
        exact absurd v0 (by decide)
/-- the outcome of a test without its nots -/
def z_gX (tk vl : Nat → Nat) (sz : Nat) (e : Nat) (p m : Nat) (o : z_O z_Ts) : Prop := (tk p = 140 ∧ (match e with
  | 0 => o = .error p
  | e + 1 => z_gB tk 141 (z_gTo tk sz (z_gQ tk vl sz e)) p m o)) ∨ (tk p ≠ 140 ∧ z_gCm tk (z_gS tk vl sz e) p m o)
theorem z_gQ_iff {e p m : Nat} {o : z_O z_Ts} : z_gQ tk vl sz e p m o ↔ ∃ k o', (∀ j, j < k → tk (p + j) = 5) ∧ tk (p + k) ≠ 5 ∧ z_gX tk vl sz e (p + k) m o' ∧ ((∃ t, o' = .error t ∧ o = .error t) ∨ ∃ s q m', o' = .ok (s, q, m') ∧ o = .ok (if k % 2 = 1 then z_ntS s else s, q, m')) ∧ z_gd sz p m o := by
  cases e with
  | zero => exact Iff.rfl
  | succ e => exact Iff.rfl
theorem z_plainOf {kb kl ko kt : Nat → Int32 → kw_T → Nat → kw_R → kw_I → kw_L → (Int32 → kw_I → Prop) → Prop} {e : Nat} (hx : z_cx T r i0 j sz tk vl) (hk : z_cT T n r i0 w j ko (z_gX tk vl sz e)) : z_cT T n r i0 w j (w_X10_plainOf kb kl ko kt) (z_gQ tk vl sz e) := by
  have hsz := hx.2.2.1
  intro p m s q m' live b i Q hg ha hl hb hQ
  rw [z_gQ_iff] at hg
  obtain ⟨k, o', h1, h2, h3, h4, h5⟩ := hg
  have hgd := h5.1 _ _ _ rfl
  rcases h4 with ⟨t, _, h⟩ | ⟨s', q', m'', rfl, h4⟩
  · cases h
  cases h4
  have hpk : p + k ≤ sz := by
    rcases Nat.lt_or_ge k 1 with q | q
    · omega
    · have := h1 (k - 1) (by omega)
      rcases Nat.lt_or_ge (p + (k - 1)) sz with q2 | q2
      · omega
      · rw [hx.2.2.2.2.2.1 _ q2] at this
        omega
  refine ⟨k + 1, ?_⟩
  have loop : ∀ (d c : Nat) (i : kw_I), c + d = k → z_at i0 i j (p + c) b → w_X10_plainOf_2 kb kl ko kt 84 live T n r w Q (d + 1) (if c % 2 = 1 then 1 else 0) i := by
    intro d
    induction d with
    | zero =>
      intro c i hc a
      have hc : c = k := by omega
      subst hc
      refine z_passes (c := 5) hx a (by omega) (by decide) (fun c => absurd c h2) (fun _ => z_f ?_)
      refine hk (p + c) m s' q m' live b i _ h3 a hl hb fun v25 i25 b25 a25 k25 s25 => ?_
      obtain ⟨u1, u2, u3⟩ := s25
      by_cases hc2 : c % 2 = 1
      · rw [if_pos hc2] at hQ ⊢
        have fin : ∀ y, (y = 1 ∧ v25 = 0 ∨ y = 0 ∧ v25 = 1) → Q y i25 := by
          intro y hy
          refine hQ _ _ _ a25 k25 ⟨by rcases hy with ⟨h, _⟩ | ⟨h, _⟩ <;> rw [h]; exact z_b1; exact z_b0, u2, fun l1 b0 => ?_⟩
          have g := u3 l1 b0
          unfold z_ntS
          cases es : s' (i0 95) with
          | none =>
            rw [es] at g
            exact g
          | some x =>
            rw [es] at g
            obtain ⟨g1, g2⟩ : b25 = 0 ∧ v25 = (if x then 1 else 0) := g
            refine ⟨g1, ?_⟩
            cases x with
            | true =>
              have g2 : v25 = 1 := g2
              rcases hy with ⟨_, h⟩ | ⟨h, _⟩
              · rw [h] at g2
                exact absurd g2 (by decide)
              · exact h
            | false =>
              have g2 : v25 = 0 := g2
              rcases hy with ⟨h, _⟩ | ⟨_, h⟩
              · exact h
              · rw [h] at g2
                exact absurd g2 (by decide)
        refine ⟨fun c => fin 0 (Or.inr ⟨rfl, c⟩), fun c => fin 1 (Or.inl ⟨rfl, (z_01 u1).resolve_right c⟩)⟩
      · rw [if_neg hc2] at hQ ⊢
        refine ⟨fun c => hQ _ _ _ a25 k25 ⟨z_b0, u2, by rw [c] at u3; exact u3⟩, fun c => hQ _ _ _ a25 k25 ⟨z_b1, u2, ?_⟩⟩
        rw [(z_01 u1).resolve_left c] at u3
        exact u3
    | succ d ih =>
      intro c i hc a
      have nx : ∀ i4, z_at i0 i4 j (p + c + 1) b → ∀ y : Int32, y = (if (c + 1) % 2 = 1 then 1 else 0) → w_X10_plainOf_2 kb kl ko kt 84 live T n r w Q (d + 1) y i4 := by
        intro i4 a4 y hy
        rw [hy]
        exact ih (c + 1) i4 (by omega) a4
      refine z_passes (c := 5) hx a (by omega) (by decide) (fun _ i4 a4 => z_t ⟨fun c2 => nx i4 a4 0 ?_, fun c2 => nx i4 a4 1 ?_⟩) (fun c2 => absurd (h1 c (by omega)) c2)
      · by_cases q : c % 2 = 1
        · rw [if_neg (by omega)]
        · rw [if_neg q] at c2
          exact absurd rfl c2
      · by_cases q : c % 2 = 1
        · rw [if_pos q] at c2
          exact absurd c2 (by decide)
        · rw [if_pos (by omega)]
  exact loop k 0 i (by omega) ha
theorem z_positiveOf {kb kl ko kt : Nat → Int32 → kw_T → Nat → kw_R → kw_I → kw_L → (Int32 → kw_I → Prop) → Prop} {e : Nat} (he : e ≤ 8) (hx : z_cx T r i0 j sz tk vl) (hk : ∀ e', e = e' + 1 → z_cT T n r i0 w j kt (z_gTo tk sz (z_gQ tk vl sz e'))) : z_cT T n r i0 w j (w_X10_positiveOf kb kl ko kt) (z_gX tk vl sz e) := by
  have hsz := hx.2.2.1
  intro p m s q m' live b i Q hg ha hl hb hQ
  rcases hg with ⟨h0, h⟩ | ⟨h0, h⟩
  · cases e with
    | zero => cases h
    | succ e =>
      rcases h with ⟨t, _, h⟩ | ⟨s', p', m'', h1, ⟨h2, h3⟩ | ⟨_, h⟩⟩
      · cases h
      · cases h3
        have hp : p ≤ 500 := by
          rcases Nat.lt_or_ge p sz with q | q
          · omega
          · rw [hx.2.2.2.2.2.1 _ q] at h0
            omega
        refine z_passes (c := 140) hx ha hp (by decide) (fun _ i6 a6 => z_t ?_) (fun c => absurd h0 c)
        refine hk e rfl (p + 1) m s p' m' live b i6 _ h1 a6 hl hb fun v14 i14 b14 a14 k14 s14 i25 e25 => ?_
        subst e25
        exact ⟨s14.1, hQ _ _ _ (z_at_next a14) k14 s14⟩
      · cases h
  · rcases h with ⟨t, _, h⟩ | ⟨a, p1, m1, h1, ⟨_, h⟩ | ⟨h2, ⟨t, _, h⟩ | ⟨b', p2, m2, h3, h4⟩⟩⟩
    · cases h
    · cases h
    · cases h
    cases h4
    have g1 := h1.2.1 _ _ _ rfl
    have g2 := h3.2.1 _ _ _ rfl
    refine z_passes (c := 140) hx ha (by omega) (by decide) (fun c => absurd c h0) (fun _ => z_f ⟨3 * e + 3, by omega, ?_⟩)
    refine z_g_sum hx e p m a p1 m1 live b i _ h1 ha hl hb fun v32 i32 b32 a32 k32 s32 => ?_
    refine z_codeAt hx a32 (by omega) fun i53 e53 => ⟨3 * e + 3, by omega, ?_⟩
    subst e53
    refine z_g_sum hx e (p1 + 1) m1 b' q m' live b32 _ _ h3 (z_at_next a32) hl k32 fun v58 i58 b58 a58 k58 s58 => ?_
    have hkp := hx.2.2.2.2.1 p1
    -- what the answer is worth
    have fin : ∀ y : Int32, kw_b y → (live = 1 → b58 = 0 → y = (if z_val (z_cc (tk p1)) v32 v58 == 1 then 1 else 0)) → Q y i58 := by
      intro y ky hy
      refine hQ _ _ _ a58 k58 ⟨ky, fun q => ?_, fun l1 b0 => ?_⟩
      · have e1 := s32.1 q
        rw [s58.1 (q.imp id (fun z => e1.trans z)), e1]
      · have g := s32.2 l1 b0
        unfold z_cmpS
        cases ea : a (i0 95) with
        | none =>
          rw [ea] at g
          have g : b32 = 1 := g
          show b58 = 1
          rw [s58.1 (Or.inr g), g]
        | some x =>
          rw [ea] at g
          obtain ⟨g3, g4⟩ : b32 = 0 ∧ v32 = x := g
          have g' := s58.2 l1 g3
          cases eb : b' (i0 95) with
          | none =>
            rw [eb] at g'
            exact g'
          | some x2 =>
            rw [eb] at g'
            obtain ⟨g5, g6⟩ : b58 = 0 ∧ v58 = x2 := g'
            refine ⟨g5, ?_⟩
            have := hy l1 g5
            rw [g4, g6] at this
            exact this
    refine ⟨fun c => fin 0 z_b0 (fun l => by rw [c] at l; exact absurd l (by decide)), fun c => ⟨fun c2 => fin 0 z_b0 (fun _ b0 => absurd (a58.2.2.2.trans b0) c2), fun c2 => ⟨fun c3 => ⟨fun c4 => ?_, fun c4 => ?_⟩, fun c3 => ?_⟩⟩⟩
    · have e1 : tk p1 = 161 := by
        rcases h2 with h | h | h
        · exact absurd (by rw [h]; rfl) c3
        · exact absurd (by rw [h]; rfl) c4
        · exact h
      rw [e1] at fin
      refine ⟨fun c5 => fin 0 z_b0 (fun _ _ => ?_), fun c5 => fin 1 z_b1 (fun _ _ => ?_)⟩
      · rw [z_ceq] at c5
        show (0 : Int32) = if (if v32 = v58 then (1 : Int64) else 0) == 1 then 1 else 0
        rw [if_neg c5]
        rfl
      · rw [z_ceq] at c5
        show (1 : Int32) = if (if v32 = v58 then (1 : Int64) else 0) == 1 then 1 else 0
        rw [if_pos c5]
        rfl
    · have e1 : tk p1 = 162 := (nI_eq (b := 162) (by omega) (by decide)).mp c4
      rw [e1] at fin
      refine ⟨fun c5 => fin 0 z_b0 (fun _ _ => ?_), fun c5 => fin 1 z_b1 (fun _ _ => ?_)⟩
      · rw [z_cle] at c5
        show (0 : Int32) = if (if v58 < v32 then (1 : Int64) else 0) == 1 then 1 else 0
        rw [if_neg (Int64.not_lt.mpr c5)]
        rfl
      · rw [z_cle, Int64.not_le] at c5
        show (1 : Int32) = if (if v58 < v32 then (1 : Int64) else 0) == 1 then 1 else 0
        rw [if_pos c5]
        rfl
    · have e1 : tk p1 = 160 := (nI_eq (b := 160) (by omega) (by decide)).mp c3
      rw [e1] at fin
      refine ⟨fun c5 => fin 0 z_b0 (fun _ _ => ?_), fun c5 => fin 1 z_b1 (fun _ _ => ?_)⟩
      · rw [z_cge] at c5
        show (0 : Int32) = if (if v32 < v58 then (1 : Int64) else 0) == 1 then 1 else 0
        rw [if_neg (Int64.not_lt.mpr c5)]
        rfl
      · rw [z_cge, Int64.not_le] at c5
        show (1 : Int32) = if (if v32 < v58 then (1 : Int64) else 0) == 1 then 1 else 0
        rw [if_pos c5]
        rfl
theorem z_gQ_gd (e : Nat) : ∀ p m o, z_gQ tk vl sz e p m o → z_gd sz p m o := by
  intro p m o h
  rw [z_gQ_iff] at h
  obtain ⟨_, _, _, _, _, _, h⟩ := h
  exact h
theorem z_g_pos (hx : z_cx T r i0 j sz tk vl) : ∀ e, e ≤ 8 → z_cT T n r i0 w j (g_X10_bothOf (4 * e + 1)).2.2.1 (z_gX tk vl sz e) := by
  intro e
  induction e with
  | zero => exact fun he => z_positiveOf (kb := (g_X10_bothOf 0).1) (kl := (g_X10_bothOf 0).2.1) (ko := (g_X10_bothOf 0).2.2.1) he hx (fun e' h => by omega)
  | succ e ih =>
    intro he
    refine z_positiveOf (kb := (g_X10_bothOf (4 * e + 4)).1) (kl := (g_X10_bothOf (4 * e + 4)).2.1) (ko := (g_X10_bothOf (4 * e + 4)).2.2.1) he hx (fun e' h => ?_)
    have : e' = e := by omega
    subst this
    exact z_testOf hx (z_bothOf hx (z_plainOf hx (ih (by omega))) (z_gQ_gd e')) (fun p m o h => h.2)
theorem z_g_test (hx : z_cx T r i0 j sz tk vl) {e : Nat} (he : e ≤ 8) : z_cT T n r i0 w j (g_X10_bothOf (4 * e + 4)).2.2.2 (z_gT tk vl sz e) := z_testOf hx (z_bothOf hx (z_plainOf hx (z_g_pos hx e he)) (z_gQ_gd e)) (fun p m o h => h.2)
end ZET
