-- THE REFERENCE'S EVALUATION
/-- the tokens of the law j lie in the kept row -/
def z_cx (T : kw_T) (r : kw_R) (i0 : kw_I) (j sz : Nat) (tk vl : Nat → Nat) : Prop := z_S T r ∧ j < 6 ∧ sz ≤ 400 ∧ (∀ p, p < sz → i0 86 (187 + (400 * j + p)) = nI (tk p) ∧ i0 86 (2587 + (400 * j + p)) = nI (vl p)) ∧ (∀ p, tk p < 1000) ∧ (∀ p, sz ≤ p → tk p = 0) ∧ i0 84 19 = nI (400 * j + sz)
/-- the reading stands at the token p -/
def z_at (i0 i : kw_I) (j p : Nat) (b : Int32) : Prop := z_io 84 i0 i ∧ (∀ f, f ≠ 18 → f ≠ 20 → i 84 f = i0 84 f) ∧ i 84 18 = nI (400 * j + p) ∧ i 84 20 = b
def z_sv (live b : Int32) (s : Option Int64) (v : Int64) (b' : Int32) : Prop := (live = 0 ∨ b = 1 → b' = b) ∧ (live = 1 → b = 0 → match s with
  | some x => b' = 0 ∧ v = x
  | none => b' = 1)
def z_tv (live b : Int32) (s : Option Bool) (v : Int32) (b' : Int32) : Prop := kw_b v ∧ (live = 0 ∨ b = 1 → b' = b) ∧ (live = 1 → b = 0 → match s with
  | some x => b' = 0 ∧ v = (if x then 1 else 0)
  | none => b' = 1)
theorem z_01 {x : Int32} (h : kw_b x) : x = 0 ∨ x = 1 := h
section ZEM
variable {T : kw_T} {n : Nat} {r : kw_R} {i0 : kw_I} {w : kw_L} {j sz : Nat} {tk vl : Nat → Nat}
theorem z_at_next {i : kw_I} {p : Nat} {b : Int32} (h : z_at i0 i j p b) : z_at i0 (kw_st i 84 18 (i 84 18 + 1)) j (p + 1) b := by
  obtain ⟨h1, h2, h3, h4⟩ := h
  refine ⟨z_io_st h1, fun f f1 f2 => ?_, ?_, ?_⟩
  · rw [kw_st_row, if_neg f1]
    exact h2 f f1 f2
  · rw [kw_st_same, h3, nI_1]
    rfl
  · rw [kw_st_row, if_neg (by decide)]
    exact h4
theorem z_at_b {i : kw_I} {p : Nat} {b b' : Int32} (h : z_at i0 i j p b) : z_at i0 (kw_st i 84 20 b') j p b' := by
  obtain ⟨h1, h2, h3, h4⟩ := h
  refine ⟨z_io_st h1, fun f f1 f2 => ?_, ?_, ?_⟩
  · rw [kw_st_row, if_neg f2]
    exact h2 f f1 f2
  · rw [kw_st_row, if_neg (by decide)]
    exact h3
  · rw [kw_st_same]
theorem z_codeAt (hx : z_cx T r i0 j sz tk vl) {i : kw_I} {p : Nat} {b : Int32} (ha : z_at i0 i j p b) (hp : p ≤ 500) {Q : Int32 → Prop} (hQ : Q (nI (tk p))) : w_X10_codeAt 84 (i 84 18) T n r i w Q := by
  obtain ⟨hS, hj, hsz, htk, -, hz, hend⟩ := hx
  obtain ⟨h1, h2, h3, h4⟩ := ha
  unfold w_X10_codeAt
  rw [h2 19 (by decide) (by decide), hend, h3, z_r84_2 hS]
  refine ⟨fun h => ?_, fun h => ?_⟩
  · have := (nI_leI (by omega) (by omega)).mp h
    rw [hz p (by omega)] at hQ
    exact hQ
  · have hlt : p < sz := by
      rcases Nat.lt_or_ge p sz with q | q
      · exact q
      · exact absurd (nI_le (by omega) (by omega)) h
    have e : (187 : Int32) + nI (400 * j + p) = nI (187 + (400 * j + p)) := nI_add 187 _
    rw [e]
    refine ⟨z_kin (z_T86 hS) (by omega) (by decide), ?_⟩
    rw [nI_clamp (by omega), h1 86 (by decide), (htk p hlt).1]
    exact hQ
theorem z_passes (hx : z_cx T r i0 j sz tk vl) {i : kw_I} {p c : Nat} {b : Int32} (ha : z_at i0 i j p b) (hp : p ≤ 500) (hc : c < 1000) {Q : Int32 → kw_I → Prop} (ht : tk p = c → ∀ i', z_at i0 i' j (p + 1) b → Q 1 i') (hf : tk p ≠ c → Q 0 i) : w_X10_passes0 84 (nI c) T n r i w Q := by
  refine z_codeAt hx ha hp ⟨fun h => ?_, fun h => ?_⟩
  · exact ⟨fun _ => ⟨z_b0, hf (fun e => h (by rw [e]))⟩, fun c => absurd rfl c⟩
  · refine ⟨fun c => absurd c (by decide), fun _ i' e => ⟨z_b1, ?_⟩⟩
    rw [e]
    have hk := hx.2.2.2.2.1 p
    exact ht ((nI_eq (by omega) (by omega)).mp h) _ (z_at_next ha)
def z_big (V : Int64) : Prop := (1000000000 : Int64) < V ∨ V < (-1000000000 : Int64)
theorem z_bounded {i : kw_I} {p : Nat} {b live : Int32} (ha : z_at i0 i j p b) (hb : kw_b b) (V : Int64) {Q : Int64 → kw_I → Prop} (hQ : ∀ v i' b', z_at i0 i' j p b' → kw_b b' → (live = 0 ∨ b = 1 → b' = b) → (live = 1 → b = 0 → (z_big V → b' = 1) ∧ (¬ z_big V → b' = 0 ∧ v = V)) → Q v i') (hl : kw_b live) : w_X10_bounded 84 V live T n r i w Q := by
  have out : (live = 1 → b = 0 → ¬ z_big V) → w_X10_bounded_25 84 V live T n r w Q i := by
    intro hn
    unfold w_X10_bounded_25
    rw [ha.2.2.2]
    refine ⟨fun h => ?_, fun h => ?_⟩
    · exact hQ _ _ _ ha hb (fun _ => rfl) (fun l b0 => ⟨fun c => absurd c (hn l b0), fun _ => ⟨b0, rfl⟩⟩)
    · exact hQ _ _ _ ha hb (fun _ => rfl) (fun l b0 => absurd b0 h)
  have big : live = 1 → (b = 0 → z_big V) → w_X10_bounded_20 84 V live T n r w Q i := by
    intro hl1 hV i' e
    subst e
    have ha' := z_at_b (b' := 1) ha
    refine ⟨fun h => ?_, fun h => ?_⟩
    · rw [ha'.2.2.2] at h
      exact absurd h (by decide)
    · refine hQ _ _ _ ha' z_b1 (fun q => ?_) (fun _ b0 => ⟨fun _ => rfl, fun c => absurd (hV b0) c⟩)
      rcases q with q | q
      · rw [q] at hl1
        exact absurd hl1 (by decide)
      · exact q.symm
  refine ⟨fun h => out (fun l _ => by rw [h] at l; exact absurd l (by decide)), fun h => ?_⟩
  have hl1 : live = 1 := (z_01 hl).resolve_left h
  refine ⟨fun h => big hl1 (fun _ => Or.inl (z_cgt.mp h)), fun h2 => ⟨fun h3 => out (fun _ _ q => ?_), fun h3 => big hl1 (fun _ => Or.inr ?_)⟩⟩
  · rcases q with q | q
    · exact h2 (z_cgt.mpr q)
    · exact absurd q (Int64.not_lt.mpr (z_cge.mp h3))
  · rw [z_cge, Int64.not_le] at h3
    exact h3
/-- the contract of a sum's evaluation -/
def z_cS (T : kw_T) (n : Nat) (r : kw_R) (i0 : kw_I) (w : kw_L) (j : Nat) (k : Nat → Int32 → kw_T → Nat → kw_R → kw_I → kw_L → (Int64 → kw_I → Prop) → Prop) (P : Nat → Nat → z_O z_Sm → Prop) : Prop := ∀ (p m : Nat) (s : z_Sm) (q m' : Nat) (live b : Int32) (i : kw_I) (Q : Int64 → kw_I → Prop), P p m (.ok (s, q, m')) → z_at i0 i j p b → kw_b live → kw_b b → (∀ v i' b', z_at i0 i' j q b' → kw_b b' → z_sv live b (s (i0 95)) v b' → Q v i') → k 84 live T n r i w Q
theorem z_sv_op {live b0 b b1 b2 : Int32} {ask : Nat → Int32} {sa sb : z_Sm} {l2 v y : Int64} {o : Nat} (h1 : z_sv live b0 (sa ask) l2 b) (h2 : z_sv live b (sb ask) v b1) (h3 : live = 0 ∨ b1 = 1 → b2 = b1) (h4 : live = 1 → b1 = 0 → match z_comb o l2 v with
  | some x => b2 = 0 ∧ y = x
  | none => b2 = 1) : z_sv live b0 (z_opS o sa sb ask) y b2 := by
  refine ⟨fun q => ?_, fun l1 b00 => ?_⟩
  · have e1 := h1.1 q
    have q2 : live = 0 ∨ b = 1 := q.imp id (fun e => e1.trans e)
    have e2 := h2.1 q2
    have q3 : live = 0 ∨ b1 = 1 := q2.imp id (fun e => e2.trans e)
    rw [h3 q3, e2, e1]
  · have g := h1.2 l1 b00
    unfold z_opS
    cases ea : sa ask with
    | none =>
      rw [ea] at g
      have g : b = 1 := g
      have e2 := h2.1 (Or.inr g)
      show b2 = 1
      rw [h3 (Or.inr (e2.trans g)), e2, g]
    | some x =>
      rw [ea] at g
      obtain ⟨g1, g2⟩ : b = 0 ∧ l2 = x := g
      have g' := h2.2 l1 g1
      cases eb : sb ask with
      | none =>
        rw [eb] at g'
        have g' : b1 = 1 := g'
        show b2 = 1
        rw [h3 (Or.inr g'), g']
      | some y' =>
        rw [eb] at g'
        obtain ⟨g3, g4⟩ : b1 = 0 ∧ v = y' := g'
        have := h4 l1 g3
        rw [g2, g4] at this
        exact this
theorem z_comb_big {o : Nat} {x y : Int64} (h : ¬ (o = 5 ∧ y = 0)) {b2 : Int32} {v : Int64} (h1 : z_big (z_val o x y) → b2 = 1) (h2 : ¬ z_big (z_val o x y) → b2 = 0 ∧ v = z_val o x y) : match z_comb o x y with
  | some x => b2 = 0 ∧ v = x
  | none => b2 = 1 := by
  unfold z_comb
  rw [if_neg h]
  by_cases c : z_big (z_val o x y)
  · rw [if_pos (show (1000000000 : Int64) < z_val o x y ∨ z_val o x y < (-1000000000 : Int64) from c)]
    exact h1 c
  · rw [if_neg (show ¬ ((1000000000 : Int64) < z_val o x y ∨ z_val o x y < (-1000000000 : Int64)) from c)]
    exact h2 c
theorem z_sumOf {kp ks kt : Nat → Int32 → kw_T → Nat → kw_R → kw_I → kw_L → (Int64 → kw_I → Prop) → Prop} {P : Nat → Nat → z_O z_Sm → Prop} (hx : z_cx T r i0 j sz tk vl) (hk : z_cS T n r i0 w j kt P) (hP : ∀ p m o, P p m o → z_gd sz p m o) : z_cS T n r i0 w j (w_X10_sumOf kp ks kt) (z_gC tk sz z_isA z_mkS P) := by
  have hsz := hx.2.2.1
  intro p m s q m' live b i Q hg ha hl hb hQ
  obtain ⟨hg, -⟩ := hg
  rcases hg with ⟨a, p1, m1, N, h1, h2⟩ | ⟨t, -, h⟩
  rotate_left
  · cases h
  have hg1 := (hP _ _ _ h1).1 _ _ _ rfl
  refine hk p m a p1 m1 live b i _ h1 ha hl hb fun v2 i2 b2 a2 k2 s2 => ?_
  refine ⟨N, ?_⟩
  clear ha h1
  revert p1 m1 a v2 i2 b2
  induction N with
  | zero => intro a p1 m1 h2; exact h2.elim
  | succ N ih =>
    intro a p1 m1 h2 hg1 v2 i2 b2 a2 k2 s2
    have hp1 : p1 ≤ 500 := by omega
    show s_X10_sumOf_6 kp ks kt 84 live T n r w Q (w_X10_sumOf_6 kp ks kt 84 live T n r w Q N) v2 i2
    rcases h2 with ⟨hn, he⟩ | ⟨hs, hrest⟩
    · cases he
      refine z_codeAt hx a2 hp1 ?_
      have hk1 := hx.2.2.2.2.1 q
      refine ⟨fun c => absurd (Or.inl ((nI_eq (by omega) (by decide)).mp c)) hn, fun _ => z_codeAt hx a2 hp1 ⟨fun _ => hQ _ _ _ a2 k2 s2, fun c => absurd (Or.inr ((nI_eq (by omega) (by decide)).mp c)) hn⟩⟩
    · rcases hrest with ⟨b', p2, m2, h3, h4⟩ | ⟨t, -, h⟩
      rotate_left
      · cases h
      have hg2 := (hP _ _ _ h3).1 _ _ _ rfl
      have hk1 := hx.2.2.2.2.1 p1
      have c59 : ∀ s0 : Int32, (s0 = 0 ∧ tk p1 = 145 ∨ s0 = 1 ∧ tk p1 = 143) → w_X10_sumOf_59 kp ks kt 84 live T n r w Q (w_X10_sumOf_6 kp ks kt 84 live T n r w Q N) v2 s0 i2 := by
        intro s0 hs0 i68 e68
        subst e68
        refine hk (p1 + 1) m1 b' p2 m2 live b2 _ _ h3 (z_at_next a2) hl k2 fun v73 i73 b73 a73 k73 s73 => ?_
        have c95 : ∀ V, V = z_val (z_oc (tk p1)) v2 v73 → w_X10_sumOf_95 kp ks kt 84 live T n r w Q (w_X10_sumOf_6 kp ks kt 84 live T n r w Q N) 84 V i73 := by
          intro V hV
          refine ⟨z_T84 hx.1, z_bounded a73 k73 V (fun v i' b'' a' kb q1 q2 => ?_) hl⟩
          refine ih _ p2 m2 h4 (by omega) v i' b'' a' kb ?_
          refine z_sv_op s2 s73 q1 fun l1 b0 => ?_
          have := q2 l1 b0
          rw [hV] at this
          refine z_comb_big (fun c => ?_) this.1 this.2
          have hc := c.1
          unfold z_oc at hc
          rcases hs with e | e <;> rw [e] at hc <;> exact absurd hc (by decide)
        refine ⟨fun c => c95 _ ?_, fun c => c95 _ ?_⟩
        · rcases hs0 with ⟨_, e⟩ | ⟨e, _⟩
          · rw [e]
            rfl
          · rw [e] at c
            exact absurd c (by decide)
        · rcases hs0 with ⟨e, _⟩ | ⟨_, e⟩
          · exact absurd e c
          · rw [e]
            rfl
      have c38 : w_X10_sumOf_38 kp ks kt 84 live T n r w Q (w_X10_sumOf_6 kp ks kt 84 live T n r w Q N) v2 i2 := by
        refine z_codeAt hx a2 hp1 ⟨fun c => c59 0 (Or.inl ⟨rfl, ?_⟩), fun c => c59 1 (Or.inr ⟨rfl, ?_⟩)⟩
        · rcases hs with e | e
          · exact absurd (by rw [e]; rfl) c
          · exact e
        · exact (nI_eq (b := 143) (by omega) (by decide)).mp c
      refine z_codeAt hx a2 hp1 ⟨fun _ => c38, fun c => z_codeAt hx a2 hp1 ⟨fun c2 => ?_, fun _ => c38⟩⟩
      rcases hs with e | e
      · exact absurd (by rw [e]; rfl) c
      · exact absurd (by rw [e]; rfl) c2
theorem z_termOf {kp ks kt : Nat → Int32 → kw_T → Nat → kw_R → kw_I → kw_L → (Int64 → kw_I → Prop) → Prop} {P : Nat → Nat → z_O z_Sm → Prop} (hx : z_cx T r i0 j sz tk vl) (hk : z_cS T n r i0 w j kp P) (hP : ∀ p m o, P p m o → z_gd sz p m o) : z_cS T n r i0 w j (w_X10_termOf kp ks kt) (z_gC tk sz z_isM z_mkS P) := by
  have hsz := hx.2.2.1
  intro p m s q m' live b i Q hg ha hl hb hQ
  obtain ⟨hg, -⟩ := hg
  rcases hg with ⟨a, p1, m1, N, h1, h2⟩ | ⟨t, -, h⟩
  rotate_left
  · cases h
  have hg1 := (hP _ _ _ h1).1 _ _ _ rfl
  refine hk p m a p1 m1 live b i _ h1 ha hl hb fun v2 i2 b2 a2 k2 s2 => ?_
  refine ⟨N, ?_⟩
  clear ha h1
  revert p1 m1 a v2 i2 b2
  induction N with
  | zero => intro a p1 m1 h2; exact h2.elim
  | succ N ih =>
    intro a p1 m1 h2 hg1 v2 i2 b2 a2 k2 s2
    have hp1 : p1 ≤ 500 := by omega
    show s_X10_termOf_6 kp ks kt 84 live T n r w Q (w_X10_termOf_6 kp ks kt 84 live T n r w Q N) v2 i2
    rcases h2 with ⟨hn, he⟩ | ⟨hs, hrest⟩
    · cases he
      refine z_codeAt hx a2 hp1 ?_
      have hk1 := hx.2.2.2.2.1 q
      refine ⟨fun c => absurd (Or.inl ((nI_eq (by omega) (by decide)).mp c)) hn, fun _ => z_codeAt hx a2 hp1 ⟨fun _ => hQ _ _ _ a2 k2 s2, fun c => absurd (Or.inr ((nI_eq (by omega) (by decide)).mp c)) hn⟩⟩
    · rcases hrest with ⟨b', p2, m2, h3, h4⟩ | ⟨t, -, h⟩
      rotate_left
      · cases h
      have hg2 := (hP _ _ _ h3).1 _ _ _ rfl
      have hk1 := hx.2.2.2.2.1 p1
      have c59 : ∀ s0 : Int32, (s0 = 0 ∧ tk p1 = 147 ∨ s0 = 1 ∧ tk p1 = 142) → w_X10_termOf_59 kp ks kt 84 live T n r w Q (w_X10_termOf_6 kp ks kt 84 live T n r w Q N) v2 s0 i2 := by
        intro s0 hs0 i68 e68
        subst e68
        refine hk (p1 + 1) m1 b' p2 m2 live b2 _ _ h3 (z_at_next a2) hl k2 fun v73 i73 b73 a73 k73 s73 => ?_
        -- the end: bounded, from a truth b7 that came of b73
        have c130 : ∀ (V : Int64) (i7 : kw_I) (b7 : Int32), z_at i0 i7 j p2 b7 → kw_b b7 → (live = 0 ∨ b73 = 1 → b7 = b73) → (live = 1 → b73 = 0 → (¬ (z_oc (tk p1) = 5 ∧ v73 = 0) ∧ b7 = 0 ∧ V = z_val (z_oc (tk p1)) v2 v73) ∨ (z_comb (z_oc (tk p1)) v2 v73 = none ∧ b7 = 1)) → w_X10_termOf_130 kp ks kt 84 live T n r w Q (w_X10_termOf_6 kp ks kt 84 live T n r w Q N) 84 V i7 := by
          intro V i7 b7 a7 k7 q7 r7
          refine ⟨z_T84 hx.1, z_bounded a7 k7 V (fun v i' b'' a' kb q1 q2 => ?_) hl⟩
          refine ih _ p2 m2 h4 (by omega) v i' b'' a' kb ?_
          refine z_sv_op s2 s73 (fun q => ?_) fun l1 b0 => ?_
          · have e := q7 q
            rw [q1 (q.imp id (fun z => e.trans z)), e]
          · rcases r7 l1 b0 with ⟨r1, r2, r3⟩ | ⟨r1, r2⟩
            · have := q2 l1 r2
              rw [r3] at this
              exact z_comb_big r1 this.1 this.2
            · rw [r1]
              show b'' = 1
              rw [q1 (Or.inr r2), r2]
        have c107 : ∀ s1 : Int32, s0 = 0 → v73 = 0 → tk p1 = 147 → kw_b s1 → (live = 0 ∨ b73 = 1 → s1 = b73) → (live = 1 → s1 = 1) → w_X10_termOf_107 kp ks kt 84 live T n r w Q (w_X10_termOf_6 kp ks kt 84 live T n r w Q N) v2 s0 84 s1 i73 := by
          intro s1 h0 hv e k1 q1 q2
          refine ⟨z_T84 hx.1, k1, fun i7 e7 => ⟨fun _ => ⟨by decide, ?_⟩, fun c => absurd h0 c⟩⟩
          subst e7
          refine c130 _ _ s1 (z_at_b a73) k1 q1 (fun l1 b0 => Or.inr ⟨?_, q2 l1⟩)
          rw [e, hv]
          rfl
        refine ⟨fun c => ?_, fun c => ⟨fun c2 => ?_, fun c2 => ?_⟩⟩
        · rcases hs0 with ⟨e, _⟩ | ⟨_, e⟩
          · exact absurd e c
          · refine ⟨fun c3 => absurd c3 c, fun _ => c130 _ i73 b73 a73 k73 (fun _ => rfl) (fun l1 b0 => Or.inl ⟨fun q => ?_, b0, ?_⟩)⟩
            · have := q.1
              rw [e] at this
              exact absurd this (by decide)
            · rw [e]
              rfl
        · rcases hs0 with ⟨_, e⟩ | ⟨e, _⟩
          · have hv : ¬ v73 = 0 := fun q => c2 (z_ceq.mpr q)
            refine ⟨fun _ => ⟨hv, c130 _ i73 b73 a73 k73 (fun _ => rfl) (fun l1 b0 => Or.inl ⟨fun q => hv q.2, b0, ?_⟩)⟩, fun c3 => absurd c c3⟩
            rw [e]
            rfl
          · rw [e] at c
            exact absurd c (by decide)
        · have hv : v73 = 0 := z_ceq.mp c2
          have e : tk p1 = 147 := by
            rcases hs0 with ⟨_, e⟩ | ⟨e, _⟩
            · exact e
            · rw [e] at c
              exact absurd c (by decide)
          rw [a73.2.2.2]
          refine ⟨fun c3 => c107 1 c hv e z_b1 (fun _ => ((z_01 k73).resolve_left c3).symm) (fun _ => rfl), fun c3 => ⟨fun c4 => c107 0 c hv e z_b0 (fun _ => c3.symm) (fun l => by rw [c4] at l; exact absurd l (by decide)), fun c4 => c107 1 c hv e z_b1 (fun q => ?_) (fun _ => rfl)⟩⟩
          rcases q with q | q
          · exact absurd q c4
          · rw [c3] at q
            exact absurd q (by decide)
      have c38 : w_X10_termOf_38 kp ks kt 84 live T n r w Q (w_X10_termOf_6 kp ks kt 84 live T n r w Q N) v2 i2 := by
        refine z_codeAt hx a2 hp1 ⟨fun c => c59 0 (Or.inl ⟨rfl, ?_⟩), fun c => c59 1 (Or.inr ⟨rfl, ?_⟩)⟩
        · rcases hs with e | e
          · exact absurd (by rw [e]; rfl) c
          · exact e
        · exact (nI_eq (b := 142) (by omega) (by decide)).mp c
      refine z_codeAt hx a2 hp1 ⟨fun _ => c38, fun c => z_codeAt hx a2 hp1 ⟨fun c2 => ?_, fun _ => c38⟩⟩
      rcases hs with e | e
      · exact absurd (by rw [e]; rfl) c
      · exact absurd (by rw [e]; rfl) c2
theorem z_partOf {kp ks kt : Nat → Int32 → kw_T → Nat → kw_R → kw_I → kw_L → (Int64 → kw_I → Prop) → Prop} {e : Nat} (hx : z_cx T r i0 j sz tk vl) (hk : ∀ e', e = e' + 1 → z_cS T n r i0 w j ks (z_gSo tk sz (z_gP tk vl sz e'))) : z_cS T n r i0 w j (w_X10_partOf kp ks kt) (z_gP tk vl sz e) := by
  intro p m s q m' live b i Q hg ha hl hb hQ
  have hgd : z_gd sz p m (.ok (s, q, m')) := by
    cases e with
    | zero => exact hg.2
    | succ e => exact hg.2
  have hsz := hx.2.2.1
  have hg1 := hgd.1 _ _ _ rfl
  have hk1 := hx.2.2.2.2.1 p
  have leaf : tk p ≠ 191 ∧ z_lf tk vl p ∧ m < 50 ∧ (.ok (s, q, m') : z_O z_Sm) = .ok (z_lfS tk vl p, p + 1, m + 1) → w_X10_partOf kp ks kt 84 live T n r i w Q := by
    rintro ⟨h1, h2, h3, h4⟩
    cases h4
    refine z_passes (c := 191) hx ha (by omega) (by decide) (fun c => absurd c h1) (fun _ => z_f ?_)
    refine z_codeAt hx ha (by omega) fun i46 e46 => ?_
    subst e46
    have a46 := z_at_next ha
    have eb := a46.2.2.2
    refine ⟨fun c => hQ _ _ _ a46 hb ⟨fun _ => rfl, fun l1 => by rw [c] at l1; exact absurd l1 (by decide)⟩, fun c => ⟨fun c2 => ?_, fun c2 => hQ _ _ _ a46 hb ⟨fun _ => rfl, fun _ b0 => absurd (eb.trans b0) c2⟩⟩⟩
    have b0 : b = 0 := eb.symm.trans c2
    have l1 : live = 1 := (z_01 hl).resolve_left c
    refine ⟨fun c3 => ?_, fun c3 => ?_⟩
    · have h6 : 6 ≤ tk p ∧ tk p ≤ 14 := by
        rcases h2 with h | h
        · exact absurd (by rw [h.1]; rfl) c3
        · exact h
      have e6 : nI (tk p) - (6 : Int32) = nI (tk p - 6) := pk_sub (b := 6) h6.1
      rw [e6, z_r84_21 hx.1]
      refine ⟨z_kin (z_T95 hx.1) (by omega) (by decide), ?_⟩
      rw [nI_clamp (by omega)]
      refine hQ _ _ _ a46 hb ⟨fun _ => rfl, fun _ _ => ?_⟩
      unfold z_lfS
      rw [if_neg (by omega)]
      refine ⟨b0, ?_⟩
      rw [a46.1 95 (by decide)]
    · have h50 : tk p = 50 := (nI_eq (b := 50) (by omega) (by decide)).mp c3
      have hlt : p < sz := by omega
      have e7 : (2587 : Int32) + (kw_st i 84 18 (i 84 18 + 1)) 84 18 - 1 = nI (2587 + (400 * j + p)) := by
        rw [a46.2.2.1]
        show nI 2587 + nI (400 * j + (p + 1)) - nI 1 = _
        rw [nI_add, pk_sub (by omega)]
        rfl
      rw [e7, z_r84_2 hx.1]
      have hj := hx.2.1
      refine ⟨z_kin (z_T86 hx.1) (by omega) (by decide), ?_⟩
      rw [nI_clamp (by omega)]
      refine hQ _ _ _ a46 hb ⟨fun _ => rfl, fun _ _ => ?_⟩
      unfold z_lfS
      rw [if_pos h50]
      refine ⟨b0, ?_⟩
      rw [a46.1 86 (by decide), (hx.2.2.2.1 p hlt).2]
  cases e with
  | zero =>
    rcases hg.1 with ⟨_, h⟩ | h | ⟨_, _, h⟩
    · cases h
    · exact leaf h
    · cases h
  | succ e =>
    rcases hg.1 with ⟨h0, h⟩ | h | ⟨_, _, h⟩
    · rcases h with ⟨t, _, h⟩ | ⟨s', p', m'', h1, ⟨h2, h3⟩ | ⟨_, h⟩⟩
      · cases h
      · cases h3
        refine z_passes (c := 191) hx ha (by omega) (by decide) (fun _ i6 a6 => z_t ?_) (fun c => absurd h0 c)
        refine hk e rfl (p + 1) m s p' m' live b i6 _ h1 a6 hl hb fun v14 i14 b14 a14 k14 s14 i25 e25 => ?_
        subst e25
        exact hQ _ _ _ (z_at_next a14) k14 s14
      · cases h
    · exact leaf h
    · cases h
theorem z_gP_gd (e : Nat) : ∀ p m o, z_gP tk vl sz e p m o → z_gd sz p m o := by
  intro p m o h
  cases e with
  | zero => exact h.2
  | succ e => exact h.2
theorem z_g_part (hx : z_cx T r i0 j sz tk vl) : ∀ e, z_cS T n r i0 w j (g_X10_partOf (3 * e + 1)).1 (z_gP tk vl sz e) := by
  intro e
  induction e with
  | zero => exact z_partOf (kp := (g_X10_partOf 0).1) (kt := (g_X10_partOf 0).2.2) hx (fun e' h => by omega)
  | succ e ih =>
    refine z_partOf (kp := (g_X10_partOf (3 * e + 3)).1) (kt := (g_X10_partOf (3 * e + 3)).2.2) hx (fun e' h => ?_)
    have : e' = e := by omega
    subst this
    exact z_sumOf hx (z_termOf hx ih (z_gP_gd e')) (fun p m o h => h.2)
theorem z_g_sum (hx : z_cx T r i0 j sz tk vl) (e : Nat) : z_cS T n r i0 w j (g_X10_partOf (3 * e + 3)).2.1 (z_gS tk vl sz e) := z_sumOf hx (z_termOf hx (z_g_part hx e) (z_gP_gd e)) (fun p m o h => h.2)
end ZEM
