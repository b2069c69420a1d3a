-- THE LOOM IS SET UP
/-- a State object at s holds what a kept row does -/
def z_SK (i : kw_I) (s : Nat) (K : Nat → Int32) : Prop := (∀ j v, j < 6 → v < 10 → i (s + 2 + j) v = K (6 * v + j)) ∧ (∀ q c, q < 3 → c < 36 → i (s + 9 + q) c = K (60 + 36 * q + c)) ∧ (∀ c, c < 8 → i (s + 12) c = K (168 + c)) ∧ (∀ t, t < 2 → i (s + 13) t = K (176 + t)) ∧ i s 5 = K 178 ∧ i s 6 = K 179 ∧ i s 7 = K 180
/-- a Law object holds some clauses -/
def z_lw (T : kw_T) (r : kw_R) (i : kw_I) (la : Nat) (L : List z_Sm) : Prop := 103 ≤ la ∧ ∃ cd st, z_law T r i la cd st L.length ∧ z_kL cd st L
theorem z_lw_eq {T T' : kw_T} {r r' : kw_R} {i i' : kw_I} {la : Nat} {L : List z_Sm} (h : z_lw T r i la L) (hT : ∀ b, la ≤ b → b ≤ la + 2 → T' b = T b) (hr : r' la = r la) (hi : ∀ b, la ≤ b → b ≤ la + 2 → i' b = i b) : z_lw T' r' i' la L := by
  obtain ⟨h0, cd, st, ⟨h1, h2, h3, h4, h5, h6, ⟨m, h7, h8, h9, h10⟩, h11⟩, hk⟩ := h
  refine ⟨h0, cd, st, ⟨?_, ?_, ?_, h4, ?_, ?_, ⟨m, ?_, h8, ?_, h10⟩, ?_⟩, hk⟩
  · rw [hT la (by omega) (by omega)]; exact h1
  · rw [hr]; exact h2
  · rw [hr]; exact h3
  · rw [hi la (by omega) (by omega)]; exact h5
  · rw [hT _ (by omega) (by omega)]; exact h6
  · rw [hT _ (by omega) (by omega)]; exact h7
  · rw [hi _ (by omega) (by omega)]; exact h9
  · rw [hi _ (by omega) (by omega)]; exact h11
def z_hN (ln y : Nat) : Nat → Nat
  | 0 => 0
  | k + 1 => z_hN ln y k ||| ln * 2 ^ (6 * (y + k))
theorem z_ln : ∀ wd, wd < 7 → ∀ x, x < 6 → (((1 : Int64) <<< ((nI wd).toInt64 &&& 63)) - 1) <<< ((nI x).toInt64 &&& 63) = lN ((2 ^ wd - 1) * 2 ^ x) := by decide +kernel
theorem z_lshl : ∀ ln, ln < 64 → ∀ s, s < 36 → lN ln <<< ((nI s).toInt64 &&& 63) = lN (ln * 2 ^ s) := by decide +kernel
theorem z_lnlt : ∀ wd, wd < 7 → ∀ x, x < 6 → x + wd ≤ 6 → (2 ^ wd - 1) * 2 ^ x < 64 := by decide +kernel
def z_hck (x wd y tl c : Nat) : Bool := !(decide (x + wd ≤ 6) && decide (y + tl ≤ 6)) || ((!decide (((lN (z_hN ((2 ^ wd - 1) * 2 ^ x) y tl) >>> ((nI c).toInt64 &&& 63)) &&& (1 : Int64)) = 0)) == decide ((x ≤ c % 6 ∧ c % 6 < x + wd) ∧ (y ≤ c / 6 ∧ c / 6 < y + tl)))
theorem z_hcks : ∀ x, x < 6 → ∀ wd, wd < 7 → ∀ y, y < 6 → ∀ tl, tl < 7 → ∀ c, c < 36 → z_hck x wd y tl c = true := by decide +kernel
theorem z_holes (x : Nat) (hx : x < 6) (wd : Nat) (hw : wd < 7) (y : Nat) (hy : y < 6) (tl : Nat) (ht : tl < 7) (h1 : x + wd ≤ 6) (h2 : y + tl ≤ 6) (c : Nat) (hc : c < 36) : (¬ ((lN (z_hN ((2 ^ wd - 1) * 2 ^ x) y tl) >>> ((nI c).toInt64 &&& 63)) &&& (1 : Int64)) = 0 ↔ ((x ≤ c % 6 ∧ c % 6 < x + wd) ∧ (y ≤ c / 6 ∧ c / 6 < y + tl))) := by
  have h := z_hcks x hx wd hw y hy tl ht c hc
  unfold z_hck at h
  rw [decide_eq_true h1, decide_eq_true h2] at h
  have h : ((!decide (((lN (z_hN ((2 ^ wd - 1) * 2 ^ x) y tl) >>> ((nI c).toInt64 &&& 63)) &&& (1 : Int64)) = 0)) == decide ((x ≤ c % 6 ∧ c % 6 < x + wd) ∧ (y ≤ c / 6 ∧ c / 6 < y + tl))) = true := h
  have e := eq_of_beq h
  by_cases q : ((lN (z_hN ((2 ^ wd - 1) * 2 ^ x) y tl) >>> ((nI c).toInt64 &&& 63)) &&& (1 : Int64)) = 0
  · rw [decide_eq_true q] at e
    exact ⟨fun c => absurd q c, fun c => by rw [decide_eq_true c] at e; cases e⟩
  · rw [decide_eq_false q] at e
    exact ⟨fun _ => of_decide_eq_true e.symm, fun _ => q⟩
section ZSU
variable {T : kw_T} {n : Nat} {r : kw_R} {i : kw_I} {w : kw_L} {nv : Nat} {K : Nat → Int32}
theorem z_S_eq {r' : kw_R} (h : z_S T r) (h1 : ∀ a k, (a, k) ≠ (23, 3) → (a, k) ≠ (24, 7) → a < 103 → a ≠ 16 → a ≠ 17 → r' a k = r a k) : z_S T r' := by
  refine ⟨h.1, fun q hq => ?_⟩
  have hg : ∀ q ∈ z_rl, (q.1, q.2.1) ≠ (23, 3) ∧ (q.1, q.2.1) ≠ (24, 7) ∧ q.1 < 103 ∧ q.1 ≠ 16 ∧ q.1 ≠ 17 := by decide +kernel
  obtain ⟨a, b, c, d, e⟩ := hg q hq
  rw [h1 q.1 q.2.1 a b c d e]
  exact h.2 q hq
/-- the law in force, by the State now -/
def z_inF (T : kw_T) (r : kw_R) (i : kw_I) (K : Nat → Int32) (L : List z_Sm) (la : Nat) : Prop := (K 180 = -1 ∧ la = 0) ∨ ∃ j nl, j < nl ∧ nl ≤ 6 ∧ K 180 = nI j ∧ K 179 = nI nl ∧ la = r 16 j ∧ z_lw T r i la L
theorem z_lawIn (hS : z_S T r) (hSK : z_SK i 2 K) {L : List z_Sm} {la : Nat} (hL : z_inF T r i K L la) {Q : Nat → Prop} (hQ : Q la) : w_X6_lawInForce 2 T n r i w Q := by
  obtain ⟨-, -, -, -, -, h6, h7⟩ := hSK
  unfold w_X6_lawInForce
  rw [h6, h7, z_r2_4 hS]
  rcases hL with ⟨e, e2⟩ | ⟨j, nl, hj, hn, e1, e2, e3, -⟩
  · rw [e]
    refine ⟨fun _ => by rw [← e2]; exact hQ, fun h => absurd (by decide) h⟩
  · rw [e1, e2, nI_clamp (by omega)]
    refine ⟨fun h => absurd h (nI_pos (by omega)), fun _ => ⟨fun h => absurd h (nI_ge hj (by omega)), fun _ => ⟨z_kin (z_T16 hS) (by omega) (by decide), by rw [← e3]; exact hQ⟩⟩⟩
theorem z_setUp (hS : z_S T r) (hSK : z_SK i 2 K) (hK : z_Kr K nv) {L : List z_Sm} {la : Nat} (hL : z_inF T r i K L la) (hop : i 24 6 = 0) {Q : kw_R → kw_I → kw_L → Prop}
    (hQ : ∀ i' w', (∀ b, b ≠ 24 → b ≠ 26 → b ≠ 27 → b ≠ 29 → i' b = i b) → i' 24 6 = 0 → z_wo 25 w w' → z_loom T (kw_st r 24 7 la) i' w' nv (z_W0 K) (z_see0 K) (z_wi (K 180) L) → (∀ v, v < nv → i' 27 v = K (6 * v + 4)) → i' 29 8 = K 177 → Q (kw_st r 24 7 la) i' w') : w_X2_setUp 24 2 T n r i w Q := by
  have hn := hK.1
  refine ⟨z_T2 hS, fun i5 e5 => ?_⟩
  have o5 : z_io 24 i i5 := by rw [e5]; exact z_io_st (fun _ _ => rfl)
  have hSK5 : z_SK i5 2 K := by
    obtain ⟨a1, a2, a3, a4, a5, a6, a7⟩ := hSK
    refine ⟨fun j v hj hv => ?_, fun q c hq hc => ?_, fun c hc => ?_, fun t ht => ?_, ?_, ?_, ?_⟩
    · rw [o5 _ (by omega)]; exact a1 j v hj hv
    · rw [o5 _ (by omega)]; exact a2 q c hq hc
    · rw [o5 _ (by omega)]; exact a3 c hc
    · rw [o5 _ (by omega)]; exact a4 t ht
    · rw [o5 _ (by omega)]; exact a5
    · rw [o5 _ (by omega)]; exact a6
    · rw [o5 _ (by omega)]; exact a7
  have hL5 : z_inF T r i5 K L la := by
    rcases hL with h | ⟨j, nl, b1, b2, b3, b4, b5, b6⟩
    · exact Or.inl h
    · have := b6.1
      exact Or.inr ⟨j, nl, b1, b2, b3, b4, b5, z_lw_eq b6 (fun _ _ _ => rfl) rfl (fun b c1 c2 => o5 b (by omega))⟩
  refine z_lawIn hS hSK5 hL5 fun r13 e13 => ?_
  have hS13 : z_S T r13 := z_S_eq hS (fun a k h1 h2 _ _ _ => by
    rw [e13]
    by_cases q : a = 24
    · subst q
      rw [kw_st_row, if_neg (fun e => h2 (by rw [e]))]
    · rw [kw_st_off q])
  rw [z_r2_3 hS13, z_r24_4 hS13]
  have e1 : i5 15 ((1 : Int32)).toNatClampNeg = K 177 := hSK5.2.2.2.1 1 (by decide)
  refine ⟨z_kin (k := 1) (z_T15 hS) (by decide) (by decide), z_kin (k := 8) (z_T29 hS) (by decide) (by decide), fun i28 e28 => ?_⟩
  rw [e1] at e28
  -- the villages
  have loop : ∀ (d v : Nat) (j : kw_I) (u : kw_L), v + d = nv → (∀ b, b ≠ 26 → b ≠ 27 → j b = i28 b) → (∀ b, b ≠ 25 → u b = w b) → (∀ v', v' < v → j 26 v' = K (6 * v' + 5) ∧ j 27 v' = K (6 * v' + 4) ∧ ∀ c, c < 36 → (¬ ((u 25 v' >>> ((nI c).toInt64 &&& 63)) &&& (1 : Int64)) = 0 ↔ z_see0 K v' c = true)) → w_X2_setUp_31 24 2 T n Q (d + 1) (nI v) r13 j u := by
    intro d
    induction d with
    | zero =>
      intro v j u hd h1 h2 h3
      have : v = nv := by omega
      subst this
      have e24 : j 24 = i28 24 := h1 24 (by decide) (by decide)
      have e245 : j 24 5 = nI v := by
        rw [e24, e28, kw_st_off (by decide), e5, kw_st_same, hSK.2.2.2.2.1, hK.2.1]
      have e246 : j 24 6 = 0 := by
        rw [e24, e28, kw_st_off (by decide), e5, kw_st_row, if_neg (by decide)]
        exact hop
      have e298 : j 29 8 = K 177 := by
        rw [h1 29 (by decide) (by decide), e28]
        exact kw_st_same
      refine ⟨fun _ => ?_, fun h => absurd (by rw [e245]; exact nI_le (Nat.le_refl _) (by omega)) h⟩
      rw [e13] at hS13 ⊢
      refine hQ j u (fun b b1 b2 b3 b4 => ?_) e246 (fun b hb => h2 b hb) ?_ (fun v' hv' => (h3 v' hv').2.1) e298
      · rw [h1 b b2 b3, e28, kw_st_offF b4, o5 b b1]
      · refine ⟨e245, hn, fun v' hv' => ?_, fun v' c hv' hc => ?_, ?_⟩
        · have hW := z_Kr_W hK hv'
          exact ⟨hW.1.1, hW.1.2, by rw [(h3 v' hv').1]; exact hW.2⟩
        · unfold z_seesC
          rw [e246]
          have hz : ((0 : Int32) >>> (nI v' &&& 31)) &&& (1 : Int32) = 0 := (z_bit0 (S := 0) (by decide) (by omega)).mpr (Nat.zero_testBit v')
          rw [← (h3 v' hv').2.2 c hc]
          exact ⟨fun q => q.elim (fun q => absurd hz q) id, Or.inr⟩
        · have ela : kw_st r 24 7 la 24 7 = la := kw_st_same
          rw [ela]
          rcases hL with ⟨f1, f2⟩ | ⟨jj, nl, b1, b2, b3, b4, b5, hlw⟩
          · refine ⟨fun _ => 0, fun _ => 0, 0, fun q => absurd f2 q, fun ask x => ?_⟩
            unfold z_wishC z_wi
            rw [if_pos f2, if_pos f1]
          · have hlw2 : z_lw T (kw_st r 24 7 la) j la L := z_lw_eq hlw (fun _ _ _ => rfl) (kw_st_offF (by have := hlw.1; omega)) (fun b c1 c2 => by
              have := hlw.1
              rw [h1 b (by omega) (by omega), e28, kw_st_offF (by omega), o5 b (by omega)])
            obtain ⟨g0, cd, st, g1, g2⟩ := hlw2
            refine ⟨cd, st, L.length, fun _ => ⟨g1, g0⟩, fun ask x => ?_⟩
            unfold z_wishC z_wi
            rw [if_neg (by omega), b3, if_neg (z_m1ne (by omega)), z_evC_L L g2]
    | succ d ih =>
      intro v j u hd h1 h2 h3
      have hv : v < nv := by omega
      have e24 : j 24 = i28 24 := h1 24 (by decide) (by decide)
      have e245 : j 24 5 = nI nv := by
        rw [e24, e28, kw_st_off (by decide), e5, kw_st_same, hSK.2.2.2.2.1, hK.2.1]
      obtain ⟨x, y, wd, tl, g1, g2, g3, g4, ex, ey, ew, et⟩ := (hK.2.2.1 v hv).1
      -- a trait of the village, wherever
      have tr : ∀ (q : kw_I) (k : Nat), k < 6 → (∀ b, b < 24 → q b = j b) → q (4 + k) v = K (6 * v + k) := by
        intro q k hk hq
        rw [hq _ (by omega), h1 _ (by omega) (by omega), e28, kw_st_off (by omega), show 4 + k = 2 + 2 + k by omega]
        exact hSK5.1 k v hk (by omega)
      unfold w_X2_setUp_31 s_X2_setUp_31
      have k5 : ∀ k, k < 6 → kw_in T 5 3 (nI k) := fun k hk => z_kin (z_T3 hS) hk (by decide)
      rw [e245, z_r2_0 hS13, z_r24_1 hS13, z_r24_2 hS13, z_r24_0 hS13, nI_clamp (by omega)]
      have r5 : r13 3 ((5 : Int32)).toNatClampNeg = 9 := z_r3_5 hS13
      have r4 : r13 3 ((4 : Int32)).toNatClampNeg = 8 := z_r3_4 hS13
      have r2 : r13 3 ((2 : Int32)).toNatClampNeg = 6 := z_r3_2 hS13
      have r0 : r13 3 ((0 : Int32)).toNatClampNeg = 4 := z_r3_0 hS13
      have r3 : r13 3 ((3 : Int32)).toNatClampNeg = 7 := z_r3_3 hS13
      have r1 : r13 3 ((1 : Int32)).toNatClampNeg = 5 := z_r3_1 hS13
      rw [r5, r4, r2, r0]
      refine ⟨fun h => absurd h (nI_ge hv (by omega)), fun _ => ⟨z_T2 hS, k5 5 (by decide), z_kin (z_T9 hS) (by omega) (by decide), z_kin (z_T26 hS) (by omega) (by decide), fun j1 q1 => ⟨k5 4 (by decide), z_kin (z_T8 hS) (by omega) (by decide), z_kin (z_T27 hS) (by omega) (by decide), fun j2 q2 => ⟨k5 2 (by decide), z_kin (z_T6 hS) (by omega) (by decide), k5 0 (by decide), z_kin (z_T4 hS) (by omega) (by decide), z_kin (z_T25 hS) (by omega) (by decide), fun u1 v1 => ?_⟩⟩⟩⟩
      rw [tr j 5 (by decide) (fun _ _ => rfl)] at q1
      have lo1 : ∀ b, b < 24 → j1 b = j b := fun b hb => by rw [q1, kw_st_offF (by omega)]
      rw [tr j1 4 (by decide) lo1] at q2
      have lo2 : ∀ b, b < 24 → j2 b = j b := fun b hb => by rw [q2, kw_st_offF (by omega), lo1 b hb]
      have t2 := tr j2 2 (by decide) lo2
      have t0 := tr j2 0 (by decide) lo2
      rw [show 6 * v + 0 = 6 * v by omega, ex] at t0
      rw [ew] at t2
      rw [t2, t0, z_ln wd (by omega) x (by omega)]
      have hln := z_lnlt wd (by omega) x (by omega) g3
      -- the lines
      have inner : ∀ (e k : Nat) (u2 : kw_L), k + e = tl → (∀ b, b ≠ 25 → u2 b = w b) → (∀ v', v' ≠ v → u2 25 v' = u 25 v') → u2 25 v = lN (z_hN ((2 ^ wd - 1) * 2 ^ x) y k) → w_X2_setUp_99 24 2 T n Q (w_X2_setUp_31 24 2 T n Q (d + 1)) (e + 1) (nI v) (lN ((2 ^ wd - 1) * 2 ^ x)) (nI k) r13 j2 u2 := by
        intro e
        have t3 := tr j2 3 (by decide) lo2
        have t1 := tr j2 1 (by decide) lo2
        rw [et] at t3
        rw [ey] at t1
        induction e with
        | zero =>
          intro k u2 hk m1 m2 m3
          have : k = tl := by omega
          subst this
          unfold w_X2_setUp_99 s_X2_setUp_99
          rw [z_r2_0 hS13, r3, nI_clamp (by omega), t3]
          refine ⟨z_T2 hS, k5 3 (by decide), z_kin (z_T7 hS) (by omega) (by decide), fun _ => ?_, fun h => absurd (nI_le (Nat.le_refl _) (by omega)) h⟩
          rw [nI_1]
          refine ih (v + 1) j2 u2 (by omega) (fun b b1 b2 => ?_) m1 (fun v' hv' => ?_)
          · rw [q2, kw_st_offF b2, q1, kw_st_offF b1, h1 b b1 b2]
          · rcases Nat.lt_or_ge v' v with c | c
            · obtain ⟨p1, p2, p3⟩ := h3 v' c
              refine ⟨?_, ?_, fun cc hcc => ?_⟩
              · rw [q2, kw_st_off (by decide), q1, kw_st_row, if_neg (by omega)]
                exact p1
              · rw [q2, kw_st_row, if_neg (by omega), q1, kw_st_off (by decide)]
                exact p2
              · rw [m2 v' (by omega)]
                exact p3 cc hcc
            · have : v' = v := by omega
              subst this
              refine ⟨?_, ?_, fun cc hcc => ?_⟩
              · rw [q2, kw_st_off (by decide), q1, kw_st_same]
              · rw [q2, kw_st_same]
              · rw [m3, z_holes x (by omega) wd (by omega) y (by omega) k (by omega) g3 g4 cc hcc]
                unfold z_see0
                rw [ex, ey, ew, et, nI_clamp (by omega), nI_clamp (by omega), nI_clamp (by omega), nI_clamp (by omega), decide_eq_true_iff]
        | succ e ih2 =>
          intro k u2 hk m1 m2 m3
          unfold w_X2_setUp_99 s_X2_setUp_99
          rw [z_r2_0 hS13, r3, r1, z_r24_0 hS13, nI_clamp (by omega), t3, t1]
          have k25 : kw_in T 4 25 (nI v) := z_kin (z_T25 hS) (by omega) (by decide)
          refine ⟨z_T2 hS, k5 3 (by decide), z_kin (z_T7 hS) (by omega) (by decide), fun h => absurd h (nI_ge (by omega) (by omega)), fun _ => ⟨k25, k5 1 (by decide), z_kin (z_T5 hS) (by omega) (by decide), k25, fun u3 f3 => ?_⟩⟩
          have e6 : (6 : Int32) * (nI y + nI k) = nI (6 * (y + k)) := by rw [nI_add]; exact pk_mul 6 _
          rw [m3, e6, z_lshl _ hln _ (by omega), fb_orL] at f3
          rw [nI_1]
          refine ih2 (k + 1) u3 (by omega) (fun b hb => by rw [f3, kw_st_offF hb]; exact m1 b hb) (fun v' hv' => by rw [f3, kw_st_row, if_neg hv']; exact m2 v' hv') ?_
          rw [f3, kw_st_same]
          rfl
      refine ⟨tl + 1, inner tl 0 u1 (by omega) (fun b hb => by rw [v1, kw_st_offF hb]; exact h2 b hb) (fun v' hv' => by rw [v1, kw_st_row, if_neg hv']) ?_⟩
      rw [v1, kw_st_same]
      rfl
  exact ⟨nv + 1, loop nv 0 i28 w (by omega) (fun _ _ _ => rfl) (fun _ _ => rfl) (fun v' hv' => absurd hv' (Nat.not_lt_zero v'))⟩
end ZSU
