-- THE CLASS READS A LAW
theorem z_rl20 : ∀ q ∈ z_rl, ¬ (q.1 = 20 ∧ q.2.1 = 2) := by decide +kernel
theorem z_S_20 {T : kw_T} {r : kw_R} {v : Nat} (h : z_S T r) : z_S T (kw_st r 20 2 v) := by
  refine ⟨h.1, fun q hq => ?_⟩
  have := z_rl20 q hq
  by_cases y : q.1 = 20
  · rw [y, kw_st_row, if_neg (fun z => this ⟨y, z⟩), ← y]
    exact h.2 q hq
  · rw [kw_st_off y]
    exact h.2 q hq
section ZRL
variable {T : kw_T} {n : Nat} {r : kw_R} {i : kw_I} {w : kw_L} {B : Nat → Nat} {len sz : Nat}
theorem z_copyOf {a M k : Nat} (hT : T a = (1, M)) (hM : M ≤ 400) (hk : k ≤ M) (ha : a < n) (hn : n + 1 ≤ kw_SB) {Q : Nat → kw_T → Nat → kw_I → Prop} (hQ : ∀ T' i', T' = kw_row T n (1, k) → (∀ b, b ≠ n → i' b = i b) → (∀ q, q < k → i' n q = i a q) → Q n T' (n + 1) i') : w_J7_copyOf_59c91 a (nI k) T n r i w Q := by
  have eM : ((T a).2.toInt32) = nI M := by rw [hT]; rfl
  unfold w_J7_copyOf_59c91
  rw [eM, nI_clamp (by omega)]
  refine ⟨by rw [hT], fun q => ⟨⟨by omega, by omega⟩, nI_pos (by omega), by omega, fun T1 i1 e1 e2 => ?_⟩, fun q => ⟨by rw [hT], ⟨by omega, by omega⟩, by rw [hT]; exact hM, fun T1 i1 e1 e2 => ?_⟩⟩
  · have hkM : k < M := by
      have : k ≠ M := fun z => q (by rw [z])
      omega
    have Ta : T1 a = (1, M) := by rw [e1, z_row_off (by omega)]; exact hT
    have Tn : T1 n = (1, k) := by rw [e1]; exact if_pos rfl
    have eM1 : ((T1 a).2.toInt32) = nI M := by rw [Ta]; rfl
    rw [eM1, if_pos (nI_lt hkM (by omega)), nI_clamp (by omega)]
    refine ⟨by rw [Ta], ?_, fun i2 e3 => hQ T1 i2 e1 (fun b hb => ?_) (fun q hq => ?_)⟩
    · unfold kw_cpo
      rw [Ta, Tn, nI_clamp (by omega)]
      exact ⟨rfl, rfl, by decide, by decide, nI_pos (by omega), by show 0 + k ≤ M; omega, by show 0 + k ≤ k; omega⟩
    · have e3' : i2 = kw_cpy i1 a n 0 0 k := e3
      rw [e3', z_cpy_off hb, e2, z_row_off hb]
    · have e3' : i2 = kw_cpy i1 a n 0 0 k := e3
      rw [e3', z_cpy_row hq, e2, z_row_off (by omega)]
  · have hkM : k = M := (nI_eq (by omega) (by omega)).mp q
    have e1' : T1 = kw_row T n (1, k) := by rw [e1, hT, hkM]
    have Tn : T1 n = (1, k) := by rw [e1']; exact if_pos rfl
    refine ⟨by rw [Tn], hQ T1 i1 e1' (fun b hb => by rw [e2, z_row_off hb]) (fun q hq => ?_)⟩
    rw [e2]
    show (if n = n then i a else i n) q = i a q
    rw [if_pos rfl]
theorem z_readLaw (hS : z_S T r) (hl : len ≤ 400) (hB : ∀ k, B k < 256) (hz : z_szo B len sz) (h19 : ∀ k, k < 400 → i 19 k = nI (B k)) (hn : 103 ≤ n) (hn2 : n + 100 ≤ kw_SB) {o : Except Nat (List z_Sm)} (hg : z_gL (z_tk B len) (z_vl B len) sz 11 0 0 [] o) {Q : Nat → kw_T → Nat → kw_R → kw_I → Prop}
    (hok : ∀ L T' r' i' ms, o = .ok L → ms ≤ 400 → L.length ≤ 12 → T' = kw_row (kw_row (kw_row T n (0, 1)) (n + 1) (1, L.length + 1)) (n + 2) (1, ms) → (∀ b, b ≠ 20 → b ≠ n → r' b = r b) → (∀ f, f ≠ 2 → r' 20 f = r 20 f) → (∀ b, b ≠ 20 → b ≠ 21 → b ≠ 22 → b < n → i' b = i b) → i' 20 9 = -1 → z_lw T' r' i' n L → Q n T' (n + 3) r' i')
    (herr : ∀ t i', o = .error t → (∀ b, b ≠ 20 → b ≠ 21 → b ≠ 22 → i' b = i b) → i' 20 9 = nI (z_plc B len t) → Q 0 T n (kw_st r 20 2 19) i') : w_X4_readLaw 20 19 (nI len) T n r i w Q := by
  intro r2 er2
  have hS2 : z_S T r2 := by rw [er2]; exact z_S_20 hS
  have hx : z_cx4 T r2 B len := ⟨hS2, by rw [er2, kw_st_same], hl, hB⟩
  have h0 := z_tk0 hz
  have szl := hz.1
  rw [← er2] at herr
  have T19 := z_T19 hS
  refine ⟨by rw [T19], fun i1 e1 i2 e2 i3 e3 i4 e4 i5 e5 => ?_⟩
  have e400 : ((T 19).2.toInt32) = nI 400 := by rw [T19]; rfl
  rw [e400, if_neg (nI_nlt (a := 400) (by omega) (by decide))] at e1
  have o5 : ∀ b, b ≠ 20 → i5 b = i b := fun b hb => by rw [e5, kw_st_offF hb, e4, kw_st_offF hb, e3, kw_st_offF hb, e2, kw_st_offF hb, e1, kw_st_offF hb]
  have f3 : i5 20 3 = nI len := by rw [e5, kw_st_row, if_neg (by decide), e4, kw_st_row, if_neg (by decide), e3, kw_st_row, if_neg (by decide), e2, kw_st_row, if_neg (by decide), e1, kw_st_same]
  have f5 : i5 20 5 = nI 0 := by rw [e5, kw_st_row, if_neg (by decide), e4, kw_st_row, if_neg (by decide), e3, kw_st_row, if_neg (by decide), e2, kw_st_same]; rfl
  have f7 : i5 20 7 = nI 0 := by rw [e5, kw_st_row, if_neg (by decide), e4, kw_st_row, if_neg (by decide), e3, kw_st_same]; rfl
  have f8 : i5 20 8 = nI 0 := by rw [e5, kw_st_row, if_neg (by decide), e4, kw_st_same]; rfl
  have f9 : i5 20 9 = -1 := by rw [e5, kw_st_same]
  have hb5 : z_RB i5 i5 B len := ⟨fun _ _ _ => rfl, fun k hk => by rw [o5 19 (by decide)]; exact h19 k hk, f3⟩
  refine z_step4 hx hb5 f5 (Nat.zero_le _) fun i6 g1 g2 g3 g4 => ⟨13, ?_⟩
  have R6 : z_RS i6 i6 B len 0 0 0 (fun _ => 0) := by
    refine ⟨⟨fun _ _ _ => rfl, fun k hk => by rw [g1.1 19 (by decide)]; exact hb5.2.1 k hk, by rw [g1.2 3 (by decide) (by decide) (by decide)]; exact f3⟩, ⟨g2, g3, g4⟩, by rw [g1.2 8 (by decide) (by decide) (by decide)]; exact f8, by rw [g1.2 9 (by decide) (by decide) (by decide)]; exact f9, by rw [g1.2 7 (by decide) (by decide) (by decide)]; exact f7, by decide, fun k hk => absurd hk (Nat.not_lt_zero k)⟩
  have o6 : ∀ b, b ≠ 20 → b ≠ 21 → b ≠ 22 → i6 b = i b := fun b b1 b2 b3 => by rw [g1.1 b b1, o5 b b1]
  obtain ⟨-, sum, sumX⟩ := z_rPS (n := n) (w := w) (i0 := i6) hx hz 8 (by decide)
  -- clauses
  have loop : ∀ (d c p m s : Nat) (l : List z_Sm) (cd st : Nat → Nat) (j : kw_I), c + d = 12 → l.length = c → z_RS j j B len p m s cd → (∀ b, b ≠ 20 → b ≠ 21 → b ≠ 22 → j b = i b) → s ≤ p → m ≤ 50 → p ≤ sz → (∀ k, k < c → j 22 k = nI (st k)) → st c = s → (∀ k, k ≤ c → st k ≤ s) → z_kL cd st l → (d = 0 → o = .error p) → (∀ e, d = e + 1 → z_gL (z_tk B len) (z_vl B len) sz e p m l o) → w_X4_readLaw_41 20 19 (nI len) w Q (d + 1) (nI c) T n r2 j := by
    intro d
    induction d with
    | zero =>
      intro c p m s l cd st j hc hlen R oj hsp hm hp hst hsc hle hk hz0 hz1
      have : c = 12 := by omega
      subst this
      exact ⟨fun _ => ⟨z_T20 hS, z_stickT R fun j1 X => herr p j1 (hz0 rfl) (fun b b1 b2 b3 => by rw [X.1.1 b b1 b2]; exact oj b b1 b2 b3) X.2.2.1⟩, fun q => absurd (by decide) q⟩
    | succ d ih =>
      intro c p m s l cd st j hc hlen R oj hsp hm hp hst hsc hle hk hz0 hz1
      have hgl := hz1 d rfl
      have R22 : r2 20 1 = 22 := z_r20_1 hS2
      have R21 : r2 20 0 = 21 := z_r20_0 hS2
      show s_X4_readLaw_41 20 19 (nI len) w Q _ (nI c) T n r2 j
      unfold s_X4_readLaw_41
      rw [R22, nI_clamp (by omega), R.2.2.2.2.1]
      refine ⟨fun q => absurd q (nI_ge (b := 12) (by omega) (by decide)), fun _ => ⟨z_T20 hS, z_kin (z_T22 hS) (by omega) (by decide), fun j1 e1 => ?_⟩⟩
      have o1 : ∀ b, b ≠ 22 → j1 b = j b := fun b hb => by rw [e1, kw_st_offF hb]
      have R1 : z_RS j1 j1 B len p m s cd := by
        obtain ⟨u1, ⟨a1, a2, a3⟩, u3, u4, u5, u6, u7⟩ := R
        have e20 := o1 20 (by decide)
        exact ⟨⟨fun _ _ _ => rfl, by rw [o1 19 (by decide)]; exact u1.2.1, by rw [e20]; exact u1.2.2⟩, ⟨by rw [e20]; exact a1, by rw [e20]; exact a2, by rw [e20]; exact a3⟩, by rw [e20]; exact u3, by rw [e20]; exact u4, by rw [e20]; exact u5, u6, by rw [o1 21 (by decide)]; exact u7⟩
      have s22 : ∀ k, k ≤ c → j1 22 k = nI (st k) := fun k hk => by
        rw [e1, kw_st_row]
        by_cases y : k = c
        · rw [if_pos y, y, hsc]
        · rw [if_neg y]
          exact hst k (by omega)
      have of1 : ∀ b, b ≠ 20 → b ≠ 21 → b ≠ 22 → j1 b = i b := fun b b1 b2 b3 => by rw [o1 b b3]; exact oj b b1 b2 b3
      obtain ⟨-, sum, sumX⟩ := z_rPS (n := n) (w := w) (i0 := j1) hx hz 8 (by decide)
      obtain ⟨tst, tstX⟩ := z_rPT (n := n) (w := w) (i0 := j1) hx hz 8 (by decide)
      -- it is stuck
      have x89 : ∀ t j2, o = .error t → z_RX j1 j2 B len t → w_X4_readLaw_89 20 19 (nI len) w Q (w_X4_readLaw_41 20 19 (nI len) w Q (d + 1)) (nI c) T n r2 j2 := by
        intro t j2 ho X
        unfold w_X4_readLaw_89
        rw [R22, nI_1, nI_clamp (by omega)]
        refine ⟨z_T20 hS, z_kin (z_T22 hS) (by omega) (by decide), fun j3 e3 => ?_⟩
        have X3 : z_RX j3 j3 B len t := by
          obtain ⟨u1, u2, u3, s', u4, u5⟩ := X
          have e20 : j3 20 = j2 20 := by rw [e3, kw_st_offF (by decide)]
          exact ⟨⟨fun _ _ _ => rfl, fun k hk => by rw [e3, kw_st_off (by decide), u1.1 19 (by decide) (by decide)]; exact u1.2.1 k hk, by rw [e20]; exact u1.2.2⟩, by rw [e20]; exact u2, by rw [e20]; exact u3, s', u4, by rw [e20]; exact u5⟩
        rw [X3.2.1]
        refine ⟨fun _ => z_takeSX (c := 59) (z_plc31 hx t) X3 (by decide) fun j4 X4 => ⟨fun q => ?_, fun _ => herr t j4 ho (fun b b1 b2 b3 => by rw [X4.1.1 b b1 b2, e3, kw_st_offF b3, X.1.1 b b1 b2]; exact of1 b b1 b2 b3) X4.2.2.1⟩, fun q => absurd q (by decide)⟩
        rw [X4.2.2.1] at q
        exact absurd q (z_m1ne (z_plc31 hx t))
      -- a clause was read
      have c89 : ∀ (a : z_Sm) (p' m' : Nat) (j2 : kw_I) (s' : Nat) (cd' : Nat → Nat), z_gCl (z_tk B len) (z_vl B len) sz p m (.ok (a, p', m')) → ((z_tk B len p' = 159 ∧ p' < sz ∧ (d = 0 → o = .error (p' + 1)) ∧ ∀ e, d = e + 1 → z_gL (z_tk B len) (z_vl B len) sz e (p' + 1) m' (l ++ [a]) o) ∨ (z_tk B len p' ≠ 159 ∧ p' < sz ∧ o = .error p') ∨ (p' = sz ∧ o = .ok (l ++ [a]))) → z_RS j1 j2 B len p' m' s' cd' → (∀ k, k < s → cd' k = cd k) → z_kC cd' s s' a → s' ≤ p' → w_X4_readLaw_89 20 19 (nI len) w Q (w_X4_readLaw_41 20 19 (nI len) w Q (d + 1)) (nI c) T n r2 j2 := by
        intro a p' m' j2 s' cd' hcl hrest R2 c1 c2 c3
        have g := ((z_gCl_tot (vl := z_vl B len) h0).2 _ _ _ hcl).1 a p' m' rfl
        have ss := c2.1
        have end258 := z_kd_end (len := len) hB p'
        have kl := z_kd_lt (len := len) hB (z_plc B len p')
        unfold w_X4_readLaw_89
        rw [R22, nI_1, nI_clamp (by omega), R2.2.2.2.2.1]
        refine ⟨z_T20 hS, z_kin (z_T22 hS) (by omega) (by decide), fun j3 e3 => ?_⟩
        have o3 : ∀ b, b ≠ 22 → j3 b = j2 b := fun b hb => by rw [e3, kw_st_offF hb]
        have R3 : z_RS j3 j3 B len p' m' s' cd' := by
          obtain ⟨u1, ⟨a1, a2, a3⟩, u3, u4, u5, u6, u7⟩ := R2
          have e20 := o3 20 (by decide)
          exact ⟨⟨fun _ _ _ => rfl, fun k hk => by rw [o3 19 (by decide), u1.1 19 (by decide) (by decide)]; exact u1.2.1 k hk, by rw [e20]; exact u1.2.2⟩, ⟨by rw [e20]; exact a1, by rw [e20]; exact a2, by rw [e20]; exact a3⟩, by rw [e20]; exact u3, by rw [e20]; exact u4, by rw [e20]; exact u5, u6, by rw [o3 21 (by decide)]; exact u7⟩
        have of3 : ∀ b, b ≠ 20 → b ≠ 21 → b ≠ 22 → j3 b = i b := fun b b1 b2 b3 => by rw [o3 b b3, R2.1.1 b b1 b2]; exact of1 b b1 b2 b3
        have ⟨st', hst'⟩ : ∃ st' : Nat → Nat, st' = fun k => if k = c + 1 then s' else st k := ⟨_, rfl⟩
        have s22' : ∀ k, k ≤ c + 1 → j3 22 k = nI (st' k) := fun k hk => by
          rw [e3, kw_st_row, hst']
          show (if k = c + 1 then nI s' else j2 22 k) = nI (if k = c + 1 then s' else st k)
          by_cases y : k = c + 1
          · rw [if_pos y, if_pos y]
          · rw [if_neg y, if_neg y, R2.1.1 22 (by decide) (by decide)]
            exact s22 k (by omega)
        have stc : st' (c + 1) = s' := by rw [hst']; exact if_pos rfl
        have stle : ∀ k, k ≤ c + 1 → st' k ≤ s' := fun k hk => by
          rw [hst']
          show (if k = c + 1 then s' else st k) ≤ s'
          by_cases y : k = c + 1
          · rw [if_pos y]
            exact Nat.le_refl _
          · rw [if_neg y]
            have := hle k (by omega)
            omega
        have kL' : z_kL cd' st' (l ++ [a]) := by
          intro k hk'
          have hk2 : k < c + 1 := by rw [List.length_append] at hk'; simp at hk'; omega
          have ek : st' k = st k := by rw [hst']; exact if_neg (by omega)
          rcases Nat.lt_or_ge k c with y | y
          · have ek1 : st' (k + 1) = st (k + 1) := by rw [hst']; exact if_neg (by omega)
            rw [List.getElem_append_left (by omega), ek, ek1]
            have := hle (k + 1) (by omega)
            exact z_kC_eq (hk k (by omega)) (fun q q1 q2 => c1 q (by omega))
          · have : k = c := by omega
            subst this
            rw [List.getElem_append_right (by omega), ek, stc, hsc]
            simp only [hlen, Nat.sub_self, List.getElem_cons_zero]
            exact c2
        rw [R3.2.1.2.2]
        refine ⟨fun q => ?_, fun q => ?_⟩
        · have pne : p' ≠ sz := fun z => q (by rw [end258.mpr (by rw [z]; exact hz.2.2 sz (Nat.le_refl _))]; rfl)
          refine z_takeS4 (c := 59) hx R3 (by decide) (by decide) (fun htk j4 R4 => ⟨fun _ => ?_, fun q2 => absurd R4.2.2.2.1 q2⟩) (fun htk j4 X4 => ⟨fun q2 => ?_, fun _ => ?_⟩)
          · have R4' : z_RS j4 j4 B len (p' + 1) m' s' cd' := by
              obtain ⟨u1, u2, u3, u4, u5⟩ := R4
              exact ⟨⟨fun _ _ _ => rfl, fun k hk => by rw [u1.1 19 (by decide) (by decide)]; exact u1.2.1 k hk, u1.2.2⟩, u2, u3, u4, u5⟩
            obtain ⟨k1, k2, k3⟩ : p' < sz ∧ (d = 0 → o = .error (p' + 1)) ∧ ∀ e, d = e + 1 → z_gL (z_tk B len) (z_vl B len) sz e (p' + 1) m' (l ++ [a]) o := by
              rcases hrest with ⟨_, h1, h2, h3⟩ | ⟨h, _⟩ | ⟨h, _⟩
              · exact ⟨h1, h2, h3⟩
              · exact absurd htk h
              · exact absurd h pne
            exact ih (c + 1) (p' + 1) m' s' (l ++ [a]) cd' st' j4 (by omega) (by rw [List.length_append, hlen]; rfl) R4' (fun b b1 b2 b3 => by rw [R4.1.1 b b1 b2]; exact of3 b b1 b2 b3) (by omega) (by omega) (by omega) (fun k hk => by rw [R4.1.1 22 (by decide) (by decide)]; exact s22' k (by omega)) stc stle kL' k2 k3
          · rw [X4.2.2.1] at q2
            exact absurd q2 (z_m1ne (z_plc31 hx p'))
          · refine herr p' j4 ?_ (fun b b1 b2 b3 => by rw [X4.1.1 b b1 b2]; exact of3 b b1 b2 b3) X4.2.2.1
            rcases hrest with ⟨h, _⟩ | ⟨_, _, ho⟩ | ⟨h, _⟩
            · exact absurd h htk
            · exact ho
            · exact absurd h pne
        · have plen : z_plc B len p' = len := end258.mp ((nI_eq (b := 258) (by omega) (by decide)).mp q)
          have psz : p' = sz := by
            rcases Nat.lt_or_ge p' sz with y | y
            · have := hz.2.1 p' y
              omega
            · omega
          have ho : o = .ok (l ++ [a]) := by
            rcases hrest with ⟨_, h, _⟩ | ⟨_, h, _⟩ | ⟨_, h⟩
            · omega
            · omega
            · exact h
          have llen : (l ++ [a]).length = c + 1 := by rw [List.length_append, hlen]; rfl
          refine ⟨⟨by omega, by omega⟩, fun T1 r1 i1 eT1 er1 ei1 => ?_⟩
          have oT1 : ∀ b, b ≠ n → T1 b = T b := fun b hb => by rw [eT1, z_row_off hb]
          have oR1 : ∀ b, b ≠ n → r1 b = r2 b := fun b hb => by rw [er1, z_row_off hb]
          have oI1 : ∀ b, b ≠ n → i1 b = j3 b := fun b hb => by rw [ei1, z_row_off hb]
          have T120 : T1 20 = (0, 4) := by rw [oT1 20 (by omega)]; exact z_T20 hS
          have r122 : r1 20 1 = 22 := by rw [oR1 20 (by omega)]; exact R22
          have r121 : r1 20 0 = 21 := by rw [oR1 20 (by omega)]; exact R21
          rw [r122, r121, show nI c + (2 : Int32) = nI (c + 2) from nI_add c 2]
          refine ⟨T120, z_copyOf (M := 13) (by rw [oT1 22 (by omega)]; exact z_T22 hS) (by decide) (by omega) (by omega) (by omega) fun T2 i2 eT2 oI2 cI2 => ?_⟩
          have oT2 : ∀ b, b ≠ n + 1 → T2 b = T1 b := fun b hb => by rw [eT2, z_row_off hb]
          have e7 : i2 20 7 = nI s' := by rw [oI2 20 (by omega), oI1 20 (by omega)]; exact R3.2.2.2.2.1
          rw [e7]
          have s400 : s' ≤ 400 := R3.2.2.2.2.2.1
          refine ⟨by rw [oT2 20 (by omega)]; exact T120, z_copyOf (M := 400) (by rw [oT2 21 (by omega), oT1 21 (by omega)]; exact z_T21 hS) (by decide) s400 (by omega) (by omega) fun T3 i3 eT3 oI3 cI3 => ?_⟩
          have oT3 : ∀ b, b ≠ n + 2 → T3 b = T2 b := fun b hb => by rw [eT3]; exact z_row_off hb
          have Tn : T3 n = (0, 1) := by rw [oT3 n (by omega), oT2 n (by omega), eT1]; exact if_pos rfl
          refine ⟨Tn, fun i4 e4 r3 f3' r4 f4 => ?_⟩
          have oI4 : ∀ b, b ≠ n → b ≠ n + 1 → b ≠ n + 2 → i4 b = j3 b := fun b b1 b2 b3 => by rw [e4, kw_st_offF b1, oI3 b b3, oI2 b b2, oI1 b b1]
          have rn : ∀ f, r4 n f = if f = 2 then n + 2 else if f = 1 then n + 1 else r1 n f := fun f => by rw [f4, kw_st_row, f3', kw_st_row]
          have row1 : ∀ k, k ≤ c + 1 → i4 (n + 1) k = nI (st' k) := fun k hk => by
            rw [e4, kw_st_off (by omega), oI3 _ (by omega), cI2 k (by omega), oI1 22 (by omega)]
            exact s22' k hk
          have row2 : ∀ k, k < s' → i4 (n + 2) k = j3 21 k := fun k hk => by
            rw [e4, kw_st_off (by omega)]
            have := cI3 k hk
            rw [this, oI2 21 (by omega), oI1 21 (by omega)]
          refine hok (l ++ [a]) T3 r4 i4 s' ho s400 (by omega) ?_ (fun b b1 b2 => ?_) (fun f hf => ?_) (fun b b1 b2 b3 b4 => by rw [oI4 b (by omega) (by omega) (by omega)]; exact of3 b b1 b2 b3) ?_ ⟨hn, cd', st', ⟨Tn, ?_, ?_, by omega, ?_, ?_, ⟨s', ?_, s400, fun k hk => ?_, fun k hk => stle k (by omega)⟩, fun k hk => row1 k (by omega)⟩, kL'⟩
          · rw [eT3, eT2, eT1, llen]
          · rw [f4, kw_st_offF b2, f3', kw_st_offF b2, oR1 b b2, er2, kw_st_offF b1]
          · rw [f4, kw_st_off (by omega), f3', kw_st_off (by omega), oR1 20 (by omega), er2, kw_st_row, if_neg hf]
          · rw [oI4 20 (by omega) (by omega) (by omega)]; exact R3.2.2.2.1
          · rw [rn]; rfl
          · rw [rn]; rfl
          · rw [llen, e4, kw_st_same]
          · rw [llen, oT3 _ (by omega), eT2]; exact if_pos rfl
          · rw [eT3]; exact if_pos rfl
          · rw [row2 k hk]; exact R3.2.2.2.2.2.2 k hk
      -- the clause itself
      have x70 : ∀ t j2, o = .error t → z_RX j1 j2 B len t → w_X4_readLaw_70 20 19 (nI len) w Q (w_X4_readLaw_41 20 19 (nI len) w Q (d + 1)) (nI c) T n r2 j2 := fun t j2 ho X => ⟨z_T20 hS, 18, by decide, sumX t j2 _ X fun j3 X3 => z_takeWX X3 ⟨fun _ => x89 t j3 ho X3, fun q => absurd rfl q⟩⟩
      have hgl' : (∃ t, z_gCl (z_tk B len) (z_vl B len) sz p m (.error t) ∧ o = .error t) ∨ ∃ a p' m', z_gCl (z_tk B len) (z_vl B len) sz p m (.ok (a, p', m')) ∧ ((z_tk B len p' = 159 ∧ p' < sz ∧ (d = 0 → o = .error (p' + 1)) ∧ ∀ e, d = e + 1 → z_gL (z_tk B len) (z_vl B len) sz e (p' + 1) m' (l ++ [a]) o) ∨ (z_tk B len p' ≠ 159 ∧ p' < sz ∧ o = .error p') ∨ (p' = sz ∧ o = .ok (l ++ [a]))) := by
        cases d with
        | zero =>
          rcases hgl with h | ⟨a, p', m', h1, h2⟩
          · exact Or.inl h
          · refine Or.inr ⟨a, p', m', h1, ?_⟩
            rcases h2 with ⟨k1, k2, k3⟩ | h | h
            · exact Or.inl ⟨k1, k2, fun _ => k3, fun e he => by omega⟩
            · exact Or.inr (Or.inl h)
            · exact Or.inr (Or.inr h)
        | succ d =>
          rcases hgl with h | ⟨a, p', m', h1, h2⟩
          · exact Or.inl h
          · refine Or.inr ⟨a, p', m', h1, ?_⟩
            rcases h2 with ⟨k1, k2, k3⟩ | h | h
            · exact Or.inl ⟨k1, k2, fun hd => by omega, fun e he => by rw [show e = d by omega]; exact k3⟩
            · exact Or.inr (Or.inl h)
            · exact Or.inr (Or.inr h)
      have clause : ∀ oC, z_gCl (z_tk B len) (z_vl B len) sz p m oC → (∀ a p' m', oC = .ok (a, p', m') → ∀ j2 s' cd', z_RS j1 j2 B len p' m' s' cd' → (∀ k, k < s → cd' k = cd k) → z_kC cd' s s' a → s' ≤ p' → w_X4_readLaw_89 20 19 (nI len) w Q (w_X4_readLaw_41 20 19 (nI len) w Q (d + 1)) (nI c) T n r2 j2) → (∀ t, oC = .error t → o = .error t) → w_X4_takeWord 20 (kw_SB + 0) T n r2 j1 w (fun v60 i60 => (¬ v60 = 0 → w_X4_readLaw_70 20 19 (nI len) w Q (w_X4_readLaw_41 20 19 (nI len) w Q (d + 1)) (nI c) T n r2 i60) ∧ (v60 = 0 → w_X4_stick 20 T n r2 i60 w (fun i67 => w_X4_readLaw_70 20 19 (nI len) w Q (w_X4_readLaw_41 20 19 (nI len) w Q (d + 1)) (nI c) T n r2 i67))) := by
        intro oC hC hokC herrC
        refine z_takeW4 (j := 0) hx R1 (by decide) (fun htk j2 R2 => z_t2 ⟨z_T20 hS, 18, by decide, ?_⟩) (fun htk => z_f2 (z_stickT R1 fun j2 X2 => ?_))
        · have htk : z_tk B len p = 1 := htk
          have hC1 := hC.1
          rcases hC1 with ⟨h, _⟩ | ⟨_, ⟨t, hP, ho⟩ | ⟨a, p1, m1, hP, hif⟩⟩
          · exact absurd htk h
          · exact sum (p + 1) m s cd _ j2 _ hP R2 (by omega) hm (fun _ _ _ h => by cases h) (fun t' h j3 X3 => by
              cases h
              exact z_takeWX X3 ⟨fun _ => x89 t j3 (herrC t ho) X3, fun q => absurd rfl q⟩)
          · have g := ((z_gS_tot (vl := z_vl B len) h0 8).2 _ _ _ hP).1 a p1 m1 rfl
            refine sum (p + 1) m s cd _ j2 _ hP R2 (by omega) hm (fun a' q' m' h j3 s3 cd3 R3 c1 c2 c3 => ?_) (fun _ h => by cases h)
            cases h
            have ss := c2.1
            refine z_takeW4 (j := 10) hx R3 (by decide) (fun htk2 j4 R4 => ⟨fun q => absurd q (by decide), fun _ => ⟨18, by decide, ?_⟩⟩) (fun htk2 => ⟨fun _ => ?_, fun q => absurd rfl q⟩)
            · have htk2 : z_tk B len p1 = 2 := htk2
              rcases hif with ⟨h, _⟩ | ⟨_, ⟨t, hT, ho⟩ | ⟨b, p2, m2, hT, ho⟩⟩
              · exact absurd htk2 h
              · exact tst (p1 + 1) m1 s3 cd3 _ j4 _ hT R4 (by omega) (by omega) (fun _ _ _ h => by cases h) (fun t' h j5 X5 => by
                  cases h
                  exact x89 t j5 (herrC t ho) X5)
              · have g2 := ((z_gT_tot (vl := z_vl B len) h0 8).2 _ _ _ hT).1 b p2 m2 rfl
                refine tst (p1 + 1) m1 s3 cd3 _ j4 _ hT R4 (by omega) (by omega) (fun a' q' m' h j5 s5 cd5 R5 d1 d2 d3 => ?_) (fun _ h => by cases h)
                cases h
                refine hokC _ _ _ ho j5 s5 cd5 R5 (fun k hk => by rw [d1 k (by omega)]; exact c1 k hk) ?_ (by omega)
                exact z_kC_T (z_kS_eq c2 (fun k y1 y2 => d1 k y2)) d2 (by omega)
            · have htk2 : z_tk B len p1 ≠ 2 := htk2
              rcases hif with ⟨_, ho⟩ | ⟨h, _⟩
              · exact hokC _ _ _ ho j3 s3 cd3 R3 c1 (z_kC_S c2 (by omega)) (by omega)
              · exact absurd h htk2
        · have htk : z_tk B len p ≠ 1 := htk
          rcases hC.1 with ⟨_, ho⟩ | ⟨h, _⟩
          · exact x70 p j2 (herrC p ho) X2
          · exact absurd h htk
      rcases hgl' with ⟨t, hC, ho⟩ | ⟨a, p', m', hC, hrest⟩
      · exact clause _ hC (fun _ _ _ h => by cases h) (fun t' h => by cases h; exact ho)
      · exact clause _ hC (fun a' q' m'' h j2 s' cd' R2 c1 c2 c3 => by cases h; exact c89 a p' m' j2 s' cd' hC hrest R2 c1 c2 c3) (fun _ h => by cases h)
  exact loop 12 0 0 0 0 [] (fun _ => 0) (fun _ => 0) i6 (by omega) rfl R6 o6 (Nat.le_refl _) (Nat.zero_le _) (Nat.zero_le _) (fun k hk => absurd hk (Nat.not_lt_zero k)) rfl (fun _ _ => Nat.le_refl _) (fun k hk => absurd hk (Nat.not_lt_zero k)) (fun h => by omega) (fun e he => by rw [show e = 11 by omega]; exact hg)
end ZRL
