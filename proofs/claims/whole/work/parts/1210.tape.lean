-- BYTES
theorem z_byAll : ∀ b, b < 256 → vp_nar .byte ((nI b).toInt8.toInt32) = if b < 128 then nI b else nI b - 256 := by decide +kernel
theorem z_by_of (y : Int32) : z_by (y &&& 255) (vp_nar .byte (y.toInt8.toInt32)) := by
  obtain ⟨b, hb, e⟩ := pk_andE y (m := 255) 8 (by decide)
  refine ⟨b, hb, e, ?_⟩
  rw [← fa_byte_low y, e]
  exact z_byAll b hb
theorem z_by_B {x y : Int32} (h : z_by x y) {m : Nat} (hm : m ≤ 128) : (z_B x m ↔ z_B y m) ∧ (z_B x m → x = y) := by
  obtain ⟨b, hb, rfl, rfl⟩ := h
  by_cases c : b < 128
  · rw [if_pos c]
    exact ⟨Iff.rfl, fun _ => rfl⟩
  · rw [if_neg c]
    have e : (nI b - 256 : Int32).toInt = (b : Int) - 256 := pk_sub_toInt (b := 256) (by omega) (by decide)
    have n1 : ¬ z_B (nI b) m := fun ⟨k, hk, q⟩ => by
      have := (nI_eq (by omega) (by omega)).mp q
      omega
    have n2 : ¬ z_B (nI b - 256) m := fun ⟨k, hk, q⟩ => by
      have h3 : (nI b - 256 : Int32).toInt = (nI k).toInt := by rw [q]
      rw [e, nI_toInt (by omega)] at h3
      omega
    exact ⟨⟨fun q => absurd q n1, fun q => absurd q n2⟩, fun q => absurd q n1⟩
/-- byte j of an int, the highest first -/
def z_bt (x : Int32) (j : Nat) : Int32 := (x >>> (nI (24 - 8 * j) &&& 31))
section ZTP
variable {T : kw_T} {n : Nat} {r : kw_R} {i : kw_I} {w : kw_L}
theorem z_add (hS : z_S T r) {s : Nat} (hs : s + 4 ≤ 400) (h18 : i 18 1 = nI s) {x : Int32} {Q : kw_I → Prop} (hQ : ∀ i', (∀ b, b ≠ 18 → b ≠ 19 → i' b = i b) → i' 18 1 = nI (s + 4) → (∀ q, i' 19 q = if s ≤ q ∧ q < s + 4 then z_bt x (q - s) &&& 255 else i 19 q) → Q i') : w_X7_add 18 x T n r i w Q := by
  have step : ∀ (N k : Nat) (y : Int32) (j : kw_I), k < 4 → y = nI (24 - 8 * k) → (∀ b, b ≠ 18 → b ≠ 19 → j b = i b) → j 18 1 = nI (s + k) → (∀ q, j 19 q = if s ≤ q ∧ q < s + k then z_bt x (q - s) &&& 255 else i 19 q) → (∀ j', (∀ b, b ≠ 18 → b ≠ 19 → j' b = i b) → j' 18 1 = nI (s + (k + 1)) → (∀ q, j' 19 q = if s ≤ q ∧ q < s + (k + 1) then z_bt x (q - s) &&& 255 else i 19 q) → w_X7_add_3 18 x T n r w Q N (y + -8) j') → w_X7_add_3 18 x T n r w Q (N + 1) y j := by
    intro N k y j hk hy h1 h2 h3 nx
    subst hy
    refine ⟨fun h => absurd h (nI_pos (by omega)), fun _ => ?_⟩
    rw [h2]
    refine ⟨fun h => absurd h (nI_ge (b := 400) (by omega) (by decide)), fun _ => ?_⟩
    rw [z_r18_0 hS, nI_clamp (by omega)]
    refine ⟨z_kin (z_T19 hS) (by omega) (by decide), fun j1 e1 j2 e2 => nx j2 (fun b b1 b2 => by rw [e2, kw_st_offF b1, e1, kw_st_offF b2, h1 b b1 b2]) ?_ (fun q => ?_)⟩
    · rw [e2, kw_st_same, e1, kw_st_off (by decide), h2, nI_1]
      rfl
    · rw [e2, kw_st_off (by decide), e1, kw_st_row, h3]
      by_cases c : q = s + k
      · rw [if_pos c, if_pos (by omega), show q - s = k by omega]
        rfl
      · rw [if_neg c]
        by_cases c2 : s ≤ q ∧ q < s + k
        · rw [if_pos c2, if_pos (by omega)]
        · rw [if_neg c2, if_neg (by omega)]
  refine ⟨5, step 4 0 24 i (by decide) rfl (fun _ _ _ => rfl) h18 (fun q => by rw [if_neg (by omega)]) fun j1 a1 a2 a3 => ?_⟩
  refine step 3 1 _ j1 (by decide) (by decide) a1 a2 a3 fun j2 b1 b2 b3 => ?_
  refine step 2 2 _ j2 (by decide) (by decide) b1 b2 b3 fun j3 c1 c2 c3 => ?_
  refine step 1 3 _ j3 (by decide) (by decide) c1 c2 c3 fun j4 d1 d2 d3 => ?_
  exact ⟨fun _ => hQ j4 d1 d2 d3, fun h => absurd (by decide) h⟩
end ZTP
theorem z_C8 : lw_C8 z_Inv := by
  intro T n r i w x1 x2 x3 x4 x5 h hn
  have hS := h.1
  have h0 := z_T84 hS
  obtain ⟨sz, t1, t2, t3, t4⟩ := h.2.2.2.2.1
  have e20 : nI sz + (20 : Int32) = nI (sz + 20) := nI_add sz 20
  unfold w_X9_feed
  rw [z_r1_2 hS, t2, e20]
  refine ⟨z_T18 hS, fun c => ?_, fun c => ⟨h0, ?_⟩⟩
  · have hle : sz + 20 ≤ 400 := (nI_leI (b := 400) (by omega) (by decide)).mp c
    refine z_add hS (by omega) t2 fun j1 a1 a2 a3 => ?_
    refine z_add hS (by omega) a2 fun j2 b1 b2 b3 => ?_
    refine z_add hS (by omega) b2 fun j3 c1 c2 c3 => ?_
    refine z_add hS (by omega) c2 fun j4 d1 d2 d3 => ?_
    refine z_add hS (by omega) d2 fun j5 f1 f2 f3 => ⟨h0, ?_⟩
    have old : ∀ b, b ≠ 18 → b ≠ 19 → j5 b = i b := fun b q1 q2 => by rw [f1 b q1 q2, d1 b q1 q2, c1 b q1 q2, b1 b q1 q2, a1 b q1 q2]
    have r19 : ∀ q, j5 19 q = if sz ≤ q ∧ q < sz + 20 then z_bt (z_new x1 x2 x3 x4 x5 0 ((q - sz) / 4)) ((q - sz) % 4) &&& 255 else i 19 q := by
      intro q
      rw [f3, d3, c3, b3, a3]
      by_cases g0 : sz ≤ q ∧ q < sz + 20
      · rw [if_pos g0]
        obtain ⟨m, rfl⟩ : ∃ m, q = sz + m := ⟨q - sz, by omega⟩
        rw [show sz + m - sz = m by omega]
        unfold z_new
        rcases (show m / 4 = 0 ∨ m / 4 = 1 ∨ m / 4 = 2 ∨ m / 4 = 3 ∨ m / 4 = 4 by omega) with e | e | e | e | e
        · rw [e, if_neg (by omega), if_neg (by omega), if_neg (by omega), if_neg (by omega), if_pos (by omega), show m % 4 = m by omega]
          rfl
        · rw [e, if_neg (by omega), if_neg (by omega), if_neg (by omega), if_pos (by omega), show sz + m - (sz + 4) = m % 4 by omega]
          rfl
        · rw [e, if_neg (by omega), if_neg (by omega), if_pos (by omega), show sz + m - (sz + 4 + 4) = m % 4 by omega]
          rfl
        · rw [e, if_neg (by omega), if_pos (by omega), show sz + m - (sz + 4 + 4 + 4) = m % 4 by omega]
          rfl
        · rw [e, if_pos (by omega), show sz + m - (sz + 4 + 4 + 4 + 4) = m % 4 by omega]
          rfl
      · rw [if_neg g0, if_neg (by omega), if_neg (by omega), if_neg (by omega), if_neg (by omega), if_neg (by omega)]
    have e849 : j5 84 9 = nI sz := by rw [old 84 (by decide) (by decide)]; exact t3
    unfold w_X10_feed
    rw [e849, e20, z_r84_8 hS]
    have k91 : ∀ k, k < 5 → kw_in T 1 91 (nI k) := fun k hk => z_kin (z_T91 hS) hk (by decide)
    refine ⟨fun _ => ⟨k91 0 (by decide), fun i1 g1 => ⟨k91 1 (by decide), fun i2 g2 => ⟨k91 2 (by decide), fun i3 g3 => ⟨k91 3 (by decide), fun i4 g4 => ⟨k91 4 (by decide), fun i5 g5 => ⟨21, ?_⟩⟩⟩⟩⟩⟩, fun q => absurd (nI_le (b := 400) hle (by decide)) q⟩
    have o5 : z_io 91 j5 i5 := by rw [g5, g4, g3, g2, g1]; exact z_io_st (z_io_st (z_io_st (z_io_st (z_io_st (fun _ _ => rfl)))))
    have r91 : ∀ k, k < 5 → i5 91 k = z_new x1 x2 x3 x4 x5 0 k := by
      intro k hk
      rw [g5, g4, g3, g2, g1]
      show kw_st (kw_st (kw_st (kw_st (kw_st j5 91 0 x1) 91 1 x2) 91 2 x3) 91 3 x4) 91 4 x5 91 k = _
      rw [kw_st_row, kw_st_row, kw_st_row, kw_st_row, kw_st_row]
      rcases (show k = 0 ∨ k = 1 ∨ k = 2 ∨ k = 3 ∨ k = 4 by omega) with rfl | rfl | rfl | rfl | rfl <;> rfl
    have loop : ∀ (d k : Nat) (j : kw_I), k + d = 20 → z_io 90 i5 j → (∀ q, j 90 q = if sz ≤ q ∧ q < sz + k then vp_nar .byte ((z_bt (z_new x1 x2 x3 x4 x5 0 ((q - sz) / 4)) ((q - sz) % 4)).toInt8.toInt32) else i 90 q) → w_X10_feed_55 84 x1 x2 x3 x4 x5 T n r w (fun v2 i2 => j5 18 1 = v2 ∧ lw_N z_Inv n T n r i2 w) (d + 1) (nI k) j := by
      intro d
      induction d with
      | zero =>
        intro k j hk p1 p2
        have : k = 20 := by omega
        subst this
        have ej9 : j 84 9 = nI sz := by rw [p1 84 (by decide), o5 84 (by decide)]; exact e849
        refine ⟨fun _ i9 e9 => ?_, fun q => absurd (by decide) q⟩
        rw [ej9, e20] at e9
        have f9 : i9 84 9 = nI (sz + 20) := by rw [e9, kw_st_same]
        rw [f9]
        refine ⟨f2, ?_, by omega⟩
        have old2 : ∀ b, b ≠ 18 → b ≠ 19 → b ≠ 84 → b ≠ 90 → b ≠ 91 → i9 b = i b := fun b q1 q2 q3 q4 q5 => by rw [e9, kw_st_offF q3, p1 b q4, o5 b q5, old b q1 q2]
        have f84 : ∀ f, f ≠ 9 → i9 84 f = i 84 f := fun f hf => by rw [e9, kw_st_row, if_neg hf, p1 84 (by decide), o5 84 (by decide), old 84 (by decide) (by decide)]
        refine z_Inv_sc h (fun b b1 b2 b3 b4 b5 b6 b7 b8 => old2 b b2 b3 b5 b7 b8) (by rw [old2 1 (by decide) (by decide) (by decide) (by decide) (by decide)]) (f84 36 (by decide)) ?_ ?_
        · refine ⟨sz + 20, hle, ?_, f9, fun q hq => ?_⟩
          · rw [e9, kw_st_off (by decide), p1 18 (by decide), o5 18 (by decide)]
            exact f2
          · rw [e9, kw_st_off (by decide), kw_st_off (by decide), p1 19 (by decide), o5 19 (by decide), r19, p2]
            by_cases g : sz ≤ q ∧ q < sz + 20
            · rw [if_pos g, if_pos g]
              exact z_by_of _
            · rw [if_neg g, if_neg g]
              exact t4 q hq
        · rw [old2 1 (by decide) (by decide) (by decide) (by decide) (by decide), old2 83 (by decide) (by decide) (by decide) (by decide) (by decide), f84 0 (by decide), f84 5 (by decide), f84 10 (by decide), old2 85 (by decide) (by decide) (by decide) (by decide) (by decide)]
          exact h.2.2.2.2.2.1
      | succ d ih =>
        intro k j hk p1 p2
        have ej9 : j 84 9 = nI sz := by rw [p1 84 (by decide), o5 84 (by decide)]; exact e849
        refine ⟨fun q => absurd q (nI_ge (b := 20) (by omega) (by decide)), fun _ => ?_⟩
        have ed : nI k / (4 : Int32) = nI (k / 4) := pk_div (d := 4) (by omega) (by decide) (by decide)
        have em : nI k - nI (k / 4) * (4 : Int32) = nI (k % 4) := by
          rw [← ed]
          exact pk_rem (d := 4) (by omega) (by decide) (by decide)
        have es : (24 : Int32) - (8 : Int32) * nI (k % 4) = nI (24 - 8 * (k % 4)) := by
          have : (8 : Int32) * nI (k % 4) = nI (8 * (k % 4)) := pk_mul 8 _
          rw [this]
          exact pk_sub (a := 24) (by omega)
        rw [ed, em, es, ej9, nI_add, z_r84_8 hS, z_r84_7 hS, nI_clamp (by omega), nI_clamp (by omega)]
        refine ⟨z_kin (z_T91 hS) (by omega) (by decide), z_kin (z_T90 hS) (by omega) (by decide), fun j2 e2 => ?_⟩
        rw [nI_1]
        refine ih (k + 1) j2 (by omega) (by rw [e2]; exact z_io_st p1) (fun q => ?_)
        rw [e2, kw_st_row, p2, p1 91 (by decide), r91 (k / 4) (by omega)]
        by_cases c2 : q = sz + k
        · rw [if_pos c2, if_pos (by omega), show q - sz = k by omega]
          rfl
        · rw [if_neg c2]
          by_cases c3 : sz ≤ q ∧ q < sz + k
          · rw [if_pos c3, if_pos (by omega)]
          · rw [if_neg c3, if_neg (by omega)]
    exact loop 20 0 i5 (by omega) (fun _ _ => rfl) (fun q => by rw [if_neg (by omega), o5 90 (by decide), old 90 (by decide) (by decide)])
  · unfold w_X10_feed
    rw [t3, e20]
    exact ⟨fun q => absurd q c, fun _ => ⟨rfl, z_N h⟩⟩
theorem z_st_comm {α : Type} {f : Nat → Nat → α} {a b k l : Nat} {x y : α} (h : a ≠ b) : kw_st (kw_st f a k x) b l y = kw_st (kw_st f b l y) a k x := by
  funext c m
  by_cases c1 : c = b
  · subst c1
    rw [kw_st_off (a := a) (fun e => h e.symm), kw_st_row, kw_st_row, kw_st_off (fun e => h e.symm)]
  · rw [kw_st_off c1]
    by_cases c2 : c = a
    · subst c2
      rw [kw_st_row, kw_st_row, kw_st_off c1]
    · rw [kw_st_off c2, kw_st_off c2, kw_st_off c1]
theorem z_Inv_t0 {T : kw_T} {n : Nat} {r : kw_R} {i : kw_I} {w : kw_L} (h : z_Inv T n r i w) : z_Inv T n r (kw_st (kw_st i 18 1 0) 84 9 0) w := by
  obtain ⟨sz, t1, t2, t3, t4⟩ := h.2.2.2.2.1
  have old : ∀ b, b ≠ 18 → b ≠ 84 → kw_st (kw_st i 18 1 0) 84 9 0 b = i b := fun b b1 b2 => by rw [kw_st_offF b2, kw_st_offF b1]
  have f84 : ∀ f, f ≠ 9 → kw_st (kw_st i 18 1 0) 84 9 0 84 f = i 84 f := fun f hf => by rw [kw_st_row, if_neg hf, kw_st_off (by decide)]
  refine z_Inv_sc h (fun b b1 b2 _ _ b5 _ _ _ => old b b2 b5) (by rw [old 1 (by decide) (by decide)]) (f84 36 (by decide)) ?_ ?_
  · refine ⟨0, by omega, ?_, ?_, ?_⟩
    · rw [kw_st_off (by decide), kw_st_same]
      rfl
    · rw [kw_st_same]
      rfl
    · rw [old 19 (by decide) (by decide), old 90 (by decide) (by decide)]
      exact t4
  · rw [old 1 (by decide) (by decide), old 83 (by decide) (by decide), f84 0 (by decide), f84 5 (by decide), f84 10 (by decide), old 85 (by decide) (by decide)]
    exact h.2.2.2.2.2.1
/-- both refuse behind the tape's end -/
theorem z_refb0 {T : kw_T} {n : Nat} {r : kw_R} {i : kw_I} {w : kw_L} (h : z_Inv T n r i w) {x : Int32} {k k' : Nat} (hx : z_rfs x k k') {m10 : kw_I → (Int32 → kw_I → Prop) → Prop} (hm : ∀ i1 Q, (∀ b, b ≠ 1 → b ≠ 83 → b ≠ 18 → i1 b = i b) → (∀ i2, i2 = kw_st (kw_st (kw_st i1 84 9 0) 84 0 x) 85 k' (i1 85 k' + 1) → Q x i2) → m10 i1 Q) {i13 : kw_I} (e13 : i13 = kw_st i 18 1 0) : w_X9_refuse 1 x T n r i13 w (fun v i1 => T 84 = (0, 10) ∧ m10 i1 (fun v2 i2 => v = v2 ∧ lw_N z_Inv n T n r i2 w)) := by
  subst e13
  refine z_ref9 h.1 hx ⟨z_T84 h.1, hm _ _ (fun b b1 b2 b3 => by rw [kw_st_offF b2, kw_st_offF b1, kw_st_offF b3]) (fun i2 e2 => ⟨rfl, ?_, by omega⟩)⟩
  refine z_Inv_ref (z_Inv_t0 h) hx ?_
  rw [e2]
  have p1 : kw_st (kw_st i 18 1 0) 83 k = kw_st (kw_st i 18 1 0) 83 k := rfl
  have a83 : kw_st (kw_st i 18 1 0) 84 9 0 83 k = kw_st i 18 1 0 83 k := kw_st_off (by decide)
  have a85 : kw_st (kw_st i 18 1 0) 84 9 0 85 k' = i 85 k' := by rw [kw_st_off (by decide), kw_st_off (by decide)]
  have b85 : kw_st (kw_st (kw_st i 18 1 0) 1 9 x) 83 k (kw_st i 18 1 0 83 k + 1) 85 k' = i 85 k' := by rw [kw_st_off (by decide), kw_st_off (by decide), kw_st_off (by decide)]
  rw [a83, a85, b85]
  congr 2
  rw [z_st_comm (a := 83) (b := 84) (by decide), z_st_comm (a := 1) (b := 84) (by decide)]
