-- HOW IT BEGINS: THE REFERENCE
theorem z_nar128 : ∀ b, b < 128 → vp_nar .byte (nI b) = nI b := by decide +kernel
theorem z_w128 : ∀ k, k < 64 → z_words.getD k 0 < 128 := by decide +kernel
def z_bp (i0 j : kw_I) (k : Nat) : Prop := (∀ b, b ≠ 89 → j b = i0 b) ∧ ∀ q, q < k → j 89 q = nI (z_words.getD q 0)
theorem z_bst {T : kw_T} {i0 j : kw_I} {k : Nat} {x y : Int32} {Q : kw_I → Prop} (hT : T 89 = (2, 64)) (hk : k < 64) (hx : x = nI k) (hy : y = nI (z_words.getD k 0)) (hP : z_bp i0 j k) (hQ : ∀ j', z_bp i0 j' (k + 1) → Q j') : kw_in T 2 89 x ∧ (∀ j', j' = kw_st j 89 x.toNatClampNeg (vp_nar .byte y) → Q j') := by
  subst hx hy
  refine ⟨z_kin hT hk (by decide), fun j' e => hQ j' ?_⟩
  rw [nI_clamp (by omega), z_nar128 _ (z_w128 k hk)] at e
  refine ⟨fun b hb => by rw [e, kw_st_offF hb]; exact hP.1 b hb, fun q hq => ?_⟩
  rw [e, kw_st_row]
  by_cases h : q = k
  · rw [if_pos h, h]
  · rw [if_neg h]
    exact hP.2 q (by omega)
/-- the row that the reference keeps, at the start -/
def z_k0 (k : Nat) : Int32 := if 168 ≤ k ∧ k < 176 then 1 else if k = 176 then 10 else if k = 180 then -1 else 0
set_option maxRecDepth 20000 in
theorem z_init10 {T : kw_T} {r : kw_R} {i : kw_I} {w : kw_L} {Q : kw_T → Nat → kw_R → kw_I → Prop} (hQ : ∀ T' r' i', (∀ a, a < 84 → T' a = T a) → (∀ a, 103 ≤ a → T' a = T a) → (∀ a, 84 ≤ a → a < 103 → T' a = z_tl.getD a (99, 0)) → (∀ b, b ≠ 84 → r' b = r b) → (∀ q ∈ z_rl, q.1 = 84 → r' 84 q.2.1 = q.2.2) → (∀ b, b < 84 → i' b = i b) → (i' 84 0 = 0 ∧ i' 84 5 = 0 ∧ i' 84 9 = 0 ∧ i' 84 10 = -1 ∧ i' 84 36 = 0) → (∀ k, i' 85 k = 0) → (∀ k, i' 86 k = z_k0 k) → (∀ k, i' 88 k = 0) → z_wd (i' 89) → (∀ k, i' 90 k = 0) → Q T' 103 r' i') : w_X10_init 84 (kw_row T 84 (0, 10)) 85 (kw_row r 84 (fun _ => 0)) (kw_row i 84 (fun _ => 0)) w Q := by
  have al : ∀ a k, 0 < a → a + k ≤ 200 → kw_al a k := fun a k h1 h2 => ⟨h1, by unfold kw_SB; omega⟩
  refine ⟨al _ _ (by decide) (by decide), ?_⟩
  rintro _ _ rfl rfl
  refine ⟨rfl, ?_⟩
  rintro _ rfl
  refine ⟨al _ _ (by decide) (by decide), ?_⟩
  rintro _ _ rfl rfl
  refine ⟨rfl, ?_⟩
  rintro _ rfl
  refine ⟨al _ _ (by decide) (by decide), ?_⟩
  rintro _ _ rfl rfl
  refine ⟨rfl, ?_⟩
  rintro _ rfl
  refine ⟨al _ _ (by decide) (by decide), ?_⟩
  rintro _ _ rfl rfl
  refine ⟨rfl, ?_⟩
  rintro _ rfl
  refine ⟨al _ _ (by decide) (by decide), ?_⟩
  rintro _ _ rfl rfl
  generalize ej : kw_row (kw_row (kw_row (kw_row (kw_row (kw_row i 84 (fun _ => 0)) 85 (fun _ => 0)) (85 + 1) (fun _ => 0)) (85 + 1 + 1) (fun _ => 0)) (85 + 1 + 1 + 1) (fun _ => 0)) (85 + 1 + 1 + 1 + 1) (fun _ => (0 : Int32)) = j0
  have P0 : z_bp j0 j0 0 := ⟨fun _ _ => rfl, fun q hq => absurd hq (Nat.not_lt_zero q)⟩
  refine z_bst (k := 0) rfl (by decide) rfl rfl P0 fun j1 P1 => ?_
  refine z_bst (k := 1) rfl (by decide) rfl rfl P1 fun j2 P2 => ?_
  refine z_bst (k := 2) rfl (by decide) rfl rfl P2 fun j3 P3 => ?_
  refine z_bst (k := 3) rfl (by decide) rfl rfl P3 fun j4 P4 => ?_
  refine z_bst (k := 4) rfl (by decide) rfl rfl P4 fun j5 P5 => ?_
  refine z_bst (k := 5) rfl (by decide) rfl rfl P5 fun j6 P6 => ?_
  refine z_bst (k := 6) rfl (by decide) rfl rfl P6 fun j7 P7 => ?_
  refine z_bst (k := 7) rfl (by decide) rfl rfl P7 fun j8 P8 => ?_
  refine z_bst (k := 8) rfl (by decide) rfl rfl P8 fun j9 P9 => ?_
  refine z_bst (k := 9) rfl (by decide) rfl rfl P9 fun j10 P10 => ?_
  refine z_bst (k := 10) rfl (by decide) rfl rfl P10 fun j11 P11 => ?_
  refine z_bst (k := 11) rfl (by decide) rfl rfl P11 fun j12 P12 => ?_
  refine z_bst (k := 12) rfl (by decide) rfl rfl P12 fun j13 P13 => ?_
  refine z_bst (k := 13) rfl (by decide) rfl rfl P13 fun j14 P14 => ?_
  refine z_bst (k := 14) rfl (by decide) rfl rfl P14 fun j15 P15 => ?_
  refine z_bst (k := 15) rfl (by decide) rfl rfl P15 fun j16 P16 => ?_
  refine z_bst (k := 16) rfl (by decide) rfl rfl P16 fun j17 P17 => ?_
  refine z_bst (k := 17) rfl (by decide) rfl rfl P17 fun j18 P18 => ?_
  refine z_bst (k := 18) rfl (by decide) rfl rfl P18 fun j19 P19 => ?_
  refine z_bst (k := 19) rfl (by decide) rfl rfl P19 fun j20 P20 => ?_
  refine z_bst (k := 20) rfl (by decide) rfl rfl P20 fun j21 P21 => ?_
  refine z_bst (k := 21) rfl (by decide) rfl rfl P21 fun j22 P22 => ?_
  refine z_bst (k := 22) rfl (by decide) rfl rfl P22 fun j23 P23 => ?_
  refine z_bst (k := 23) rfl (by decide) rfl rfl P23 fun j24 P24 => ?_
  refine z_bst (k := 24) rfl (by decide) rfl rfl P24 fun j25 P25 => ?_
  refine z_bst (k := 25) rfl (by decide) rfl rfl P25 fun j26 P26 => ?_
  refine z_bst (k := 26) rfl (by decide) rfl rfl P26 fun j27 P27 => ?_
  refine z_bst (k := 27) rfl (by decide) rfl rfl P27 fun j28 P28 => ?_
  refine z_bst (k := 28) rfl (by decide) rfl rfl P28 fun j29 P29 => ?_
  refine z_bst (k := 29) rfl (by decide) rfl rfl P29 fun j30 P30 => ?_
  refine z_bst (k := 30) rfl (by decide) rfl rfl P30 fun j31 P31 => ?_
  refine z_bst (k := 31) rfl (by decide) rfl rfl P31 fun j32 P32 => ?_
  refine z_bst (k := 32) rfl (by decide) rfl rfl P32 fun j33 P33 => ?_
  refine z_bst (k := 33) rfl (by decide) rfl rfl P33 fun j34 P34 => ?_
  refine z_bst (k := 34) rfl (by decide) rfl rfl P34 fun j35 P35 => ?_
  refine z_bst (k := 35) rfl (by decide) rfl rfl P35 fun j36 P36 => ?_
  refine z_bst (k := 36) rfl (by decide) rfl rfl P36 fun j37 P37 => ?_
  refine z_bst (k := 37) rfl (by decide) rfl rfl P37 fun j38 P38 => ?_
  refine z_bst (k := 38) rfl (by decide) rfl rfl P38 fun j39 P39 => ?_
  refine z_bst (k := 39) rfl (by decide) rfl rfl P39 fun j40 P40 => ?_
  refine z_bst (k := 40) rfl (by decide) rfl rfl P40 fun j41 P41 => ?_
  refine z_bst (k := 41) rfl (by decide) rfl rfl P41 fun j42 P42 => ?_
  refine z_bst (k := 42) rfl (by decide) rfl rfl P42 fun j43 P43 => ?_
  refine z_bst (k := 43) rfl (by decide) rfl rfl P43 fun j44 P44 => ?_
  refine z_bst (k := 44) rfl (by decide) rfl rfl P44 fun j45 P45 => ?_
  refine z_bst (k := 45) rfl (by decide) rfl rfl P45 fun j46 P46 => ?_
  refine z_bst (k := 46) rfl (by decide) rfl rfl P46 fun j47 P47 => ?_
  refine z_bst (k := 47) rfl (by decide) rfl rfl P47 fun j48 P48 => ?_
  refine z_bst (k := 48) rfl (by decide) rfl rfl P48 fun j49 P49 => ?_
  refine z_bst (k := 49) rfl (by decide) rfl rfl P49 fun j50 P50 => ?_
  refine z_bst (k := 50) rfl (by decide) rfl rfl P50 fun j51 P51 => ?_
  refine z_bst (k := 51) rfl (by decide) rfl rfl P51 fun j52 P52 => ?_
  refine z_bst (k := 52) rfl (by decide) rfl rfl P52 fun j53 P53 => ?_
  refine z_bst (k := 53) rfl (by decide) rfl rfl P53 fun j54 P54 => ?_
  refine z_bst (k := 54) rfl (by decide) rfl rfl P54 fun j55 P55 => ?_
  refine z_bst (k := 55) rfl (by decide) rfl rfl P55 fun j56 P56 => ?_
  refine z_bst (k := 56) rfl (by decide) rfl rfl P56 fun j57 P57 => ?_
  refine z_bst (k := 57) rfl (by decide) rfl rfl P57 fun j58 P58 => ?_
  refine z_bst (k := 58) rfl (by decide) rfl rfl P58 fun j59 P59 => ?_
  refine z_bst (k := 59) rfl (by decide) rfl rfl P59 fun j60 P60 => ?_
  refine z_bst (k := 60) rfl (by decide) rfl rfl P60 fun j61 P61 => ?_
  refine z_bst (k := 61) rfl (by decide) rfl rfl P61 fun j62 P62 => ?_
  refine z_bst (k := 62) rfl (by decide) rfl rfl P62 fun j63 P63 => ?_
  refine z_bst (k := 63) rfl (by decide) rfl rfl P63 fun j64 P64 => ?_
  clear P63 P62 P61 P60 P59 P58 P57 P56 P55 P54 P53 P52 P51 P50 P49 P48 P47 P46 P45 P44 P43 P42 P41 P40 P39 P38 P37 P36 P35 P34 P33 P32 P31 P30 P29 P28 P27 P26 P25 P24 P23 P22 P21 P20 P19 P18 P17 P16 P15 P14 P13 P12 P11 P10 P9 P8 P7 P6 P5 P4 P3 P2 P1 P0
  clear j63 j62 j61 j60 j59 j58 j57 j56 j55 j54 j53 j52 j51 j50 j49 j48 j47 j46 j45 j44 j43 j42 j41 j40 j39 j38 j37 j36 j35 j34 j33 j32 j31 j30 j29 j28 j27 j26 j25 j24 j23 j22 j21 j20 j19 j18 j17 j16 j15 j14 j13 j12 j11 j10 j9 j8 j7 j6 j5 j4 j3 j2 j1
  refine ⟨rfl, ?_⟩
  rintro _ rfl
  refine ⟨al _ _ (by decide) (by decide), ?_⟩
  rintro _ _ rfl rfl
  refine ⟨rfl, ?_⟩
  rintro _ rfl
  refine ⟨al _ _ (by decide) (by decide), ?_⟩
  rintro _ _ rfl rfl
  refine ⟨rfl, ?_⟩
  rintro _ rfl
  rintro _ rfl
  refine ⟨al _ _ (by decide) (by decide), ?_⟩
  rintro _ _ rfl rfl
  refine ⟨rfl, ?_⟩
  rintro _ rfl
  refine ⟨al _ _ (by decide) (by decide), ?_⟩
  rintro _ _ rfl rfl
  refine ⟨rfl, ?_⟩
  rintro _ rfl
  refine ⟨al _ _ (by decide) (by decide), ?_⟩
  rintro _ _ rfl rfl
  refine ⟨rfl, ?_⟩
  rintro _ rfl
  refine ⟨al _ _ (by decide) (by decide), ?_⟩
  rintro _ _ rfl rfl
  refine ⟨rfl, ?_⟩
  rintro _ rfl
  refine ⟨al _ _ (by decide) (by decide), ?_⟩
  rintro _ _ rfl rfl
  refine ⟨rfl, ?_⟩
  rintro _ rfl
  refine ⟨al _ _ (by decide) (by decide), ?_⟩
  rintro _ _ rfl rfl
  refine ⟨rfl, ?_⟩
  rintro _ rfl
  refine ⟨al _ _ (by decide) (by decide), ?_⟩
  rintro _ _ rfl rfl
  refine ⟨rfl, ?_⟩
  rintro _ rfl
  refine ⟨al _ _ (by decide) (by decide), ?_⟩
  rintro _ _ rfl rfl
  refine ⟨rfl, ?_⟩
  rintro _ rfl
  refine ⟨al _ _ (by decide) (by decide), ?_⟩
  rintro _ _ rfl rfl
  refine ⟨rfl, ?_⟩
  rintro _ rfl
  refine ⟨al _ _ (by decide) (by decide), ?_⟩
  rintro _ _ rfl rfl
  refine ⟨rfl, ?_⟩
  rintro _ rfl
  refine ⟨al _ _ (by decide) (by decide), ?_⟩
  rintro _ _ rfl rfl
  refine ⟨rfl, ?_⟩
  rintro _ rfl
  have main : ∀ (T1 : kw_T) (r1 : kw_R) (m : kw_I), T1 84 = (0, 10) → T1 86 = (1, 4987) → r1 84 2 = 86 → (∀ m', (∀ b, b ≠ 86 → m' b = m b) → (∀ k, m' 86 k = if 168 ≤ k ∧ k < 176 then 1 else if k = 176 then 10 else if k = 180 then -1 else m 86 k) → Q T1 103 r1 m') → ∃ N, w_X10_init_540 84 w Q N (0 : Int32) T1 103 r1 m := by
    intro T1 r1 m t84 t86 r2 hq
    have loop : ∀ (d k : Nat) (m2 : kw_I), k + d = 8 → (∀ b, b ≠ 86 → m2 b = m b) → (∀ q, m2 86 q = if 168 ≤ q ∧ q < 168 + k then 1 else m 86 q) → w_X10_init_540 84 w Q (d + 1) (nI k) T1 103 r1 m2 := by
      intro d
      induction d with
      | zero =>
        intro k m2 hd g1 g2
        obtain rfl : k = 8 := by omega
        show s_X10_init_540 84 w Q _ (nI 8) T1 103 r1 m2
        unfold s_X10_init_540
        rw [r2]
        refine ⟨fun _ => ⟨t84, z_kin (k := 176) t86 (by decide) (by decide), fun m3 e3 => ⟨z_kin (k := 180) t86 (by decide) (by decide), fun m4 e4 => hq m4 (fun b hb => by rw [e4, kw_st_offF hb, e3, kw_st_offF hb]; exact g1 b hb) (fun q => ?_)⟩⟩, fun q => absurd (by decide) q⟩
        have e3' : m3 = kw_st m2 86 176 10 := e3
        have e4' : m4 = kw_st m3 86 180 (-1) := e4
        rw [e4', kw_st_row, e3', kw_st_row, g2]
        repeat' split
        all_goals first | rfl | (exfalso; omega)
      | succ d ih =>
        intro k m2 hd g1 g2
        show s_X10_init_540 84 w Q _ (nI k) T1 103 r1 m2
        unfold s_X10_init_540
        rw [r2, show (168 : Int32) = nI 168 from rfl, nI_add, nI_clamp (by omega), nI_1]
        refine ⟨fun q => absurd q (nI_ge (b := 8) (by omega) (by decide)), fun _ => ⟨t84, z_kin t86 (by omega) (by decide), fun m3 e3 => ih (k + 1) m3 (by omega) (fun b hb => by rw [e3, kw_st_offF hb]; exact g1 b hb) (fun q => ?_)⟩⟩
        rw [e3, kw_st_row, g2]
        by_cases h1 : q = 168 + k
        · rw [if_pos h1, if_pos (by omega)]
        · rw [if_neg h1]
          by_cases h2 : 168 ≤ q ∧ q < 168 + k
          · rw [if_pos h2, if_pos (by omega)]
          · rw [if_neg h2, if_neg (by omega)]
    exact ⟨9, loop 8 0 m (by omega) (fun _ _ => rfl) (fun q => by rw [if_neg (by omega)])⟩
  refine main _ _ _ rfl rfl rfl fun m' o1 o2 => hQ _ _ m' (fun a ha => ?_) (fun a ha => ?_) (fun a a1 a2 => ?_) (fun b hb => ?_) (fun q hq hq84 => ?_) (fun b hb => ?_) ⟨?_, ?_, ?_, ?_, ?_⟩ (fun k => ?_) (fun k => ?_) (fun k => ?_) (fun k hk => ?_) (fun k => ?_)
  · repeat rw [z_row_off (by omega)]
  · repeat rw [z_row_off (by omega)]
  · rcases (show a = 84 ∨ a = 85 ∨ a = 86 ∨ a = 87 ∨ a = 88 ∨ a = 89 ∨ a = 90 ∨ a = 91 ∨ a = 92 ∨ a = 93 ∨ a = 94 ∨ a = 95 ∨ a = 96 ∨ a = 97 ∨ a = 98 ∨ a = 99 ∨ a = 100 ∨ a = 101 ∨ a = 102 by omega) with e | e | e | e | e | e | e | e | e | e | e | e | e | e | e | e | e | e | e <;> (subst e; rfl)
  · repeat rw [kw_st_offF hb]
    exact z_row_off hb
  · have hg : ∀ q ∈ z_rl, q.1 = 84 → q ∈ [(84, 1, 85), (84, 2, 86), (84, 3, 87), (84, 4, 88), (84, 6, 89), (84, 7, 90), (84, 8, 91), (84, 11, 92), (84, 12, 93), (84, 13, 94), (84, 21, 95), (84, 22, 96), (84, 23, 97), (84, 24, 98), (84, 25, 99), (84, 26, 100), (84, 33, 101), (84, 34, 102)] := by decide +kernel
    have := hg q hq hq84
    simp only [List.mem_cons, List.not_mem_nil, or_false] at this
    rcases this with e | e | e | e | e | e | e | e | e | e | e | e | e | e | e | e | e | e <;> (subst e; rfl)
  · rw [o1 b (by omega)]
    repeat rw [z_row_off (by omega)]
    rw [kw_st_offF (by omega)]
    repeat rw [z_row_off (by omega)]
    rw [P64.1 b (by omega), ← ej]
    repeat rw [z_row_off (by omega)]
  · rw [o1 84 (by decide)]
    exact (congrFun (P64.1 84 (by decide)) 0).trans (by rw [← ej]; rfl)
  · rw [o1 84 (by decide)]
    exact (congrFun (P64.1 84 (by decide)) 5).trans (by rw [← ej]; rfl)
  · rw [o1 84 (by decide)]
    exact (congrFun (P64.1 84 (by decide)) 9).trans (by rw [← ej]; rfl)
  · rw [o1 84 (by decide)]
    rfl
  · rw [o1 84 (by decide)]
    exact (congrFun (P64.1 84 (by decide)) 36).trans (by rw [← ej]; rfl)
  · rw [o1 85 (by decide)]
    exact (congrFun (P64.1 85 (by decide)) k).trans (by rw [← ej]; rfl)
  · rw [o2]
    have e86 : j64 86 k = 0 := (congrFun (P64.1 86 (by decide)) k).trans (by rw [← ej]; rfl)
    show (if 168 ≤ k ∧ k < 176 then 1 else if k = 176 then 10 else if k = 180 then -1 else j64 86 k) = z_k0 k
    rw [e86]
    rfl
  · rw [o1 88 (by decide)]
    exact (congrFun (P64.1 88 (by decide)) k).trans (by rw [← ej]; rfl)
  · rw [o1 89 (by decide)]
    exact P64.2 k hk
  · rw [o1 90 (by decide)]
    rfl
