-- A LAW IS ANNOUNCED
section ZC12
variable {T T' : kw_T} {n : Nat} {r r' : kw_R} {i i' : kw_I} {w : kw_L} {B : Nat → Nat} {len sz nl : Nat}
theorem z_law12 (h : z_Inv T n r i w) (hl : len ≤ 400) (hB : ∀ k, B k < 256) (h90 : ∀ k, k < 400 → i 90 k = z_tb (B k)) (h9 : i 84 9 = nI len) (hz : z_szo B len sz) (hK : i 86 179 = nI nl) (hnl : nl < 6) {L : List z_Sm} (hg : z_gL (z_tk B len) (z_vl B len) sz 11 0 0 [] (.ok L)) (hT : ∀ b, b < n → T' b = T b) (hTn : ∀ b, (T' b).1 < 8 → b < n + 3) (hTl : T' n = (0, 1)) (hr : ∀ b, b < n → b ≠ 16 → b ≠ 20 → r' b = r b) (hr20 : ∀ f, f ≠ 2 → r' 20 f = r 20 f) (hr16 : ∀ j, r' 16 j = if j = nl then n else r 16 j) (hi : ∀ b, b < n → b ≠ 1 → b ≠ 2 → b ≠ 18 → b ≠ 20 → b ≠ 21 → b ≠ 22 → i' b = i b) (h18 : i' 18 1 = 0) (h2 : ∀ f, f ≠ 6 → i' 2 f = i 2 f) (h26 : i' 2 6 = nI (nl + 1)) (h1 : ∀ f, f ≠ 9 → f ≠ 11 → i' 1 f = i 1 f) (h19 : i' 1 9 = 0) (h111 : i' 1 11 = -1) (hlw : z_lw T' r' i' n L) : w_X10_law 84 T' (n + 3) r' i' w (fun v2 i2 => nI nl = v2 ∧ lw_N z_Inv n T' (n + 3) r' i2 w) := by
  have n103 := h.2.1.1
  have hS := h.1
  have hS' : z_S T' r' := by
    refine ⟨fun a ha => by rw [hT a (by omega)]; exact hS.1 a ha, fun q hq => ?_⟩
    have hgg : ∀ q ∈ z_rl, q.1 < 103 ∧ q.1 ≠ 16 ∧ ¬ (q.1 = 20 ∧ q.2.1 = 2) := by decide +kernel
    obtain ⟨g1, g2, g3⟩ := hgg q hq
    by_cases y : q.1 = 20
    · rw [y, hr20 _ (fun z => g3 ⟨y, z⟩), ← y]
      exact hS.2 q hq
    · rw [hr _ (by omega) g2 y]
      exact hS.2 q hq
  have szl := hz.1
  have c179 : ((179 : Int32)).toNatClampNeg = 179 := rfl
  have k86 : ∀ k, k < 4987 → kw_in T' 1 86 (nI k) := fun k hk => z_kin (z_T86 hS') hk (by decide)
  have e86 : i' 86 = i 86 := hi 86 (by omega) (by decide) (by decide) (by decide) (by decide) (by decide) (by decide)
  unfold w_X10_law
  rw [z_r84_2 hS', c179, e86, hK]
  refine ⟨k86 179 (by decide), fun q => ?_, fun q => absurd ((nI_eq (b := 6) (by omega) (by decide)).mp q) (by omega)⟩
  refine z_fReads hS' hl hB (by rw [hi 89 (by omega) (by decide) (by decide) (by decide) (by decide) (by decide) (by decide)]; exact h.2.2.2.2.2.2.2.1) (by rw [hi 90 (by omega) (by decide) (by decide) (by decide) (by decide) (by decide) (by decide)]; exact h90) hz (by rw [hi 84 (by omega) (by decide) (by decide) (by decide) (by decide) (by decide) (by decide)]; exact h9) hg (fun L' ho j a1 a2 a3 a4 a5 a6 => z_t2 ?_) (fun t ho => by cases ho)
  have j86 : j 86 = i 86 := (a1 86 (by decide) (by decide) (by decide) (by decide)).trans e86
  rw [j86, hK, a5, show (181 : Int32) = nI 181 from rfl, nI_add, nI_clamp (by omega)]
  refine ⟨k86 179 (by decide), k86 _ (by omega), fun j61 e61 => ⟨sz + 1, ?_⟩⟩
  have loop : ∀ (d p : Nat) (m : kw_I), p + d = sz → (∀ b, b ≠ 86 → m b = j b) → m 86 (181 + nl) = nI sz → (∀ p', p' < p → m 86 (187 + (400 * nl + p')) = nI (z_tk B len p') ∧ m 86 (2587 + (400 * nl + p')) = nI (z_vl B len p')) → (∀ k, k ≠ 181 + nl → ¬ (187 + 400 * nl ≤ k ∧ k < 187 + 400 * nl + 400) → ¬ (2587 + 400 * nl ≤ k ∧ k < 2587 + 400 * nl + 400) → m 86 k = i 86 k) → w_X10_law_64 84 T' (n + 3) r' w (fun v2 i2 => nI nl = v2 ∧ lw_N z_Inv n T' (n + 3) r' i2 w) (d + 1) (nI nl) (nI p) m := by
    intro d
    induction d with
    | zero =>
      intro p m hd g1 g2 g3 g4
      obtain rfl : p = sz := by omega
      show s_X10_law_64 84 T' (n + 3) r' w _ _ (nI nl) (nI p) m
      unfold s_X10_law_64
      rw [g1 84 (by decide), a5, z_r84_2 hS', c179, g4 179 (by omega) (by omega) (by omega), hK, nI_1]
      refine ⟨fun _ => ⟨k86 179 (by decide), k86 179 (by decide), fun m2 e2 m3 e3 => ⟨rfl, ?_, by omega⟩⟩, fun q => absurd (nI_le (by omega) (by omega)) q⟩
      have o3 : ∀ b, b ≠ 84 → b ≠ 86 → m3 b = j b := fun b b1 b2 => by rw [e3, kw_st_offF b1, e2, kw_st_offF b2]; exact g1 b b2
      have o4 : ∀ b, b < n → ¬ (b = 1 ∨ b = 2 ∨ b = 18 ∨ (20 ≤ b ∧ b ≤ 22) ∨ b = 84 ∨ b = 86 ∨ (92 ≤ b ∧ b ≤ 94)) → m3 b = i b := fun b b0 b1 => by rw [o3 b (by omega) (by omega), a1 b (by omega) (by omega) (by omega) (by omega)]; exact hi b b0 (by omega) (by omega) (by omega) (by omega) (by omega) (by omega)
      have o5 : ∀ b, b ≠ 84 → b ≠ 86 → b ≠ 92 → b ≠ 93 → b ≠ 94 → m3 b = i' b := fun b b1 b2 b3 b4 b5 => by rw [o3 b b1 b2]; exact a1 b b1 b3 b4 b5
      have o84 : ∀ f, f ≠ 0 → m3 84 f = j 84 f := fun f hf => by rw [e3, kw_st_row, if_neg hf, e2, kw_st_off (by decide), g1 84 (by decide)]
      have i84 : i' 84 = i 84 := hi 84 (by omega) (by decide) (by decide) (by decide) (by decide) (by decide) (by decide)
      have p86 : ∀ k, m3 86 k = if k = 179 then nI (nl + 1) else m 86 k := fun k => by rw [e3, kw_st_off (by decide), e2, kw_st_row]
      have m1 := o5 1 (by decide) (by decide) (by decide) (by decide) (by decide)
      have m2' := o5 2 (by decide) (by decide) (by decide) (by decide) (by decide)
      have m18 := o5 18 (by decide) (by decide) (by decide) (by decide) (by decide)
      have htk : ∀ q L, q < nl → z_toks (i 86) q L → z_toks (m3 86) q L := by
        rintro q L hq ⟨sz', tk, vl, s1, s2, s3, s4⟩
        refine ⟨sz', tk, vl, s1, by rw [p86, if_neg (by omega), g4 _ (by omega) (by omega) (by omega)]; exact s2, fun p hp => ?_, s4⟩
        rw [p86, p86, if_neg (by omega), if_neg (by omega), g4 _ (by omega) (by omega) (by omega), g4 _ (by omega) (by omega) (by omega)]
        exact s3 p hp
      obtain ⟨l0, nl', l1, l2, l3, l4⟩ := h.2.2.1.2.2
      have enl : nl' = nl := (nI_eq (by omega) (by omega)).mp (l2.symm.trans hK)
      subst enl
      obtain ⟨sc1, sc2, sc3, sc4⟩ := h.2.2.2.2.2.1
      obtain ⟨tl, t1, t2, t3, t4⟩ := h.2.2.2.2.1
      refine z_Inv_lw h (by omega) hT hTn hr hr20 (fun b b0 b1 => o4 b b0 (fun z => b1 (by unfold z_lx; omega))) (fun f hf => by rw [m2']; exact h2 f hf) (by rw [m2', h26, p86, if_pos rfl]) (by rw [m1]; exact h1 12 (by decide) (by decide)) (by rw [o84 36 (by decide), a2 36 (by decide) (by decide) (by decide) (by decide) (by decide) (by decide), i84]) (fun k hk => by rw [p86, if_neg (by omega)]; exact g4 k (by omega) (by omega) (by omega)) hK (by omega) htk ⟨fun q hq => ?_, nl' + 1, by omega, by rw [p86, if_pos rfl], ?_, fun q hq => ?_⟩ ⟨0, by omega, by rw [m18, h18]; rfl, by rw [o84 9 (by decide), a3]; rfl, ?_⟩ ⟨?_, ?_, ?_, ?_⟩
      · rw [hr16]
        by_cases y : q = nl'
        · rw [if_pos y]
          exact ⟨Or.inr hTl, by omega⟩
        · rw [if_neg y]
          obtain ⟨x1, x2⟩ := l0 q hq
          refine ⟨?_, by omega⟩
          rcases x1 with x1 | x1
          · exact Or.inl x1
          · right
            rw [hT _ x2]
            exact x1
      · rw [p86, if_neg (by decide), g4 180 (by omega) (by omega) (by omega)]
        rcases l3 with l3 | ⟨f, f1, f2⟩
        · exact Or.inl l3
        · exact Or.inr ⟨f, by omega, f2⟩
      · rw [hr16]
        by_cases y : q = nl'
        · subst y
          rw [if_pos rfl]
          refine ⟨by omega, L, z_lw_eq hlw (fun _ _ _ => rfl) rfl (fun b b1 b2 => o5 b (by omega) (by omega) (by omega) (by omega) (by omega)), p, z_tk B len, z_vl B len, by omega, by rw [p86, if_neg (by omega)]; exact g2, fun p' hp' => ?_, z_tk_lt hB, z_tk0 hz, hg⟩
          rw [p86, p86, if_neg (by omega), if_neg (by omega)]
          exact g3 p' hp'
        · rw [if_neg y]
          obtain ⟨x1, L2, x2, x3⟩ := l4 q (by omega)
          have x103 := x2.1
          exact ⟨by omega, L2, z_lw_eq x2 (fun b b1 b2 => hT b (by omega)) (hr _ (by omega) (by omega) (by omega)) (fun b b1 b2 => o4 b (by omega) (by omega)), htk q L2 (by omega) x3⟩
      · rw [o4 19 (by omega) (by omega), o4 90 (by omega) (by omega)]
        exact t4
      · rw [m1, h19, e3, kw_st_same]
      · rw [m1, h1 10 (by decide) (by decide), o84 5 (by decide), a2 5 (by decide) (by decide) (by decide) (by decide) (by decide) (by decide), i84]
        exact sc2
      · rw [m1, h111, o84 10 (by decide), a4]
      · rw [o4 83 (by omega) (by omega), o4 85 (by omega) (by omega)]
        exact sc4
    | succ d ih =>
      intro p m hd g1 g2 g3 g4
      have ix : ∀ c : Nat, c < 3000 → (nI c + ((400 : Int32) * nI nl)) + nI p = nI (c + (400 * nl + p)) := fun c _ => by rw [show (400 : Int32) * nI nl = nI (400 * nl) from pk_mul 400 nl, nI_add, nI_add, Nat.add_assoc]
      have rw3 := a6 p (by omega)
      show s_X10_law_64 84 T' (n + 3) r' w _ _ (nI nl) (nI p) m
      unfold s_X10_law_64
      rw [g1 84 (by decide), a5, z_r84_2 hS', z_r84_11 hS', z_r84_12 hS', show (187 : Int32) = nI 187 from rfl, show (2587 : Int32) = nI 2587 from rfl, ix 187 (by decide), ix 2587 (by decide), nI_clamp (show p < 2 ^ 31 by omega), nI_clamp (show 187 + (400 * nl + p) < 2 ^ 31 by omega), nI_clamp (show 2587 + (400 * nl + p) < 2 ^ 31 by omega), g1 92 (by decide), rw3.1, nI_1]
      refine ⟨fun q => absurd q (nI_ge (by omega) (by omega)), fun _ => ⟨z_kin (z_T92 hS') (by omega) (by decide), k86 _ (by omega), fun m2 e2 => ⟨z_kin (z_T93 hS') (by omega) (by decide), k86 _ (by omega), fun m3 e3 => ?_⟩⟩⟩
      have v93 : m2 93 p = nI (z_vl B len p) := by rw [e2, kw_st_off (by decide), g1 93 (by decide)]; exact rw3.2.1
      rw [v93] at e3
      have p86 : ∀ k, m3 86 k = if k = 2587 + (400 * nl + p) then nI (z_vl B len p) else if k = 187 + (400 * nl + p) then nI (z_tk B len p) else m 86 k := fun k => by rw [e3, kw_st_row, e2, kw_st_row]
      refine ih (p + 1) m3 (by omega) (fun b hb => by rw [e3, kw_st_offF hb, e2, kw_st_offF hb]; exact g1 b hb) (by rw [p86, if_neg (by omega), if_neg (by omega)]; exact g2) (fun p' hp' => ?_) (fun k k1 k2 k3 => by rw [p86, if_neg (by omega), if_neg (by omega)]; exact g4 k k1 k2 k3)
      rw [p86, p86]
      by_cases y : p' = p
      · subst y
        rw [if_neg (by omega), if_pos rfl, if_pos rfl]
        exact ⟨rfl, rfl⟩
      · rw [if_neg (by omega), if_neg (by omega), if_neg (by omega), if_neg (by omega)]
        exact g3 p' (by omega)
  have p86 : ∀ k, j61 86 k = if k = 181 + nl then nI sz else i 86 k := fun k => by rw [e61, kw_st_row, j86]
  exact loop sz 0 j61 (by omega) (fun b hb => by rw [e61, kw_st_offF hb]) (by rw [p86, if_pos rfl]) (fun p' hp' => absurd hp' (Nat.not_lt_zero p')) (fun k k1 _ _ => by rw [p86, if_neg k1])
end ZC12
theorem z_C12 : lw_C12 z_Inv := by
  intro T n r i w h hn
  have hS := h.1
  have n103 := h.2.1.1
  have sb : n + 100 ≤ kw_SB := by unfold kw_SB; omega
  obtain ⟨len, t1, t2, t3, t4⟩ := h.2.2.2.2.1
  obtain ⟨B, hBx⟩ : ∃ B : Nat → Nat, ∀ k, B k < 256 ∧ (k < 400 → i 19 k = nI (B k) ∧ i 90 k = z_tb (B k)) := by
    have : ∀ k, ∃ b, b < 256 ∧ (k < 400 → i 19 k = nI b ∧ i 90 k = z_tb b) := fun k => by
      by_cases hk : k < 400
      · obtain ⟨b, hb, e1, e2⟩ := t4 k hk
        exact ⟨b, hb, fun _ => ⟨e1, e2⟩⟩
      · exact ⟨0, by decide, fun z => absurd z hk⟩
    exact Classical.axiomOfChoice this
  have hB : ∀ k, B k < 256 := fun k => (hBx k).1
  have h19 : ∀ k, k < 400 → i 19 k = nI (B k) := fun k hk => ((hBx k).2 hk).1
  have h90 : ∀ k, k < 400 → i 90 k = z_tb (B k) := fun k hk => ((hBx k).2 hk).2
  obtain ⟨sz, hz⟩ := z_sz_ex B len
  have hz : z_szo B len sz := hz
  obtain ⟨o, hg⟩ := z_gL_tot (vl := z_vl B len) (z_tk0 hz) 11 0 0 [] (Nat.zero_le _) (by decide)
  obtain ⟨l0, nl, l1, l2, l3, l4⟩ := h.2.2.1.2.2
  have K6 : i 2 6 = nI nl := h.2.2.1.1.2.2.2.2.2.1.trans l2
  unfold w_X9_law
  rw [z_r1_2 hS, z_r1_0 hS, z_r1_3 hS, z_r18_0 hS, t2]
  refine ⟨z_T18 hS, fun i13 e13 => ?_⟩
  have o13 : ∀ b, b ≠ 18 → i13 b = i b := fun b hb => by rw [e13, kw_st_offF hb]
  rw [o13 2 (by decide), K6]
  refine ⟨z_T2 hS, fun q => ⟨z_T20 hS, ?_⟩, fun q => ?_⟩
  · have hnl : nl < 6 := (nI_ltI (b := 6) (by omega) (by decide)).mp q
    refine z_readLaw hS t1 hB hz (by rw [o13 19 (by decide)]; exact h19) n103 sb hg (fun L T' r' i' ms ho hms hL12 eT fr fr20 fi f9 hlw => ?_) (fun t i' ho fi f9 => ?_)
    · subst ho
      have oT : ∀ b, b < n → T' b = T b := fun b hb => by rw [eT, z_row_off (by omega), z_row_off (by omega), z_row_off (by omega)]
      have Tn : T' n = (0, 1) := by rw [eT, z_row_off (by omega), z_row_off (by omega)]; exact if_pos rfl
      have hS' : z_S T' r' := by
        refine ⟨fun a ha => by rw [oT a (by omega)]; exact hS.1 a ha, fun q hq => ?_⟩
        have g3 := z_rl20 q hq
        have g1 : q.1 < 103 := by
          have hgg : ∀ q ∈ z_rl, q.1 < 103 := by decide +kernel
          exact hgg q hq
        by_cases y : q.1 = 20
        · rw [y, fr20 _ (fun z => g3 ⟨y, z⟩), ← y]
          exact hS.2 q hq
        · rw [fr _ y (by omega)]
          exact hS.2 q hq
      dsimp only
      rw [z_r1_3 hS', z_r1_0 hS', z_r2_4 hS', f9]
      refine ⟨z_T1 hS', z_T20 hS', fun i59 e59 => ⟨fun z => by omega, fun _ => ?_⟩⟩
      have o59 : ∀ b, b ≠ 1 → i59 b = i' b := fun b hb => by rw [e59, kw_st_offF hb]
      have fi2 : i' 2 = i 2 := by rw [fi 2 (by decide) (by decide) (by decide) (by omega), o13 2 (by decide)]
      rw [o59 2 (by decide), fi2, K6, nI_clamp (by omega)]
      refine ⟨z_T2 hS', z_kin (z_T16 hS') hnl (by decide), Or.inr Tn, fun r88 e88 => ?_⟩
      have r1 : r88 1 = r' 1 := by rw [e88, kw_st_offF (by decide)]
      rw [r1, z_r1_0 hS']
      refine ⟨z_T2 hS', fun i99 e99 i112 e112 => ?_⟩
      have K59 : i59 2 6 = nI nl := by rw [o59 2 (by decide), fi2]; exact K6
      rw [K59, nI_1] at e99
      have K99 : i99 2 6 = nI (nl + 1) := by rw [e99, kw_st_same]
      rw [K99, show nI (nl + 1) - (1 : Int32) = nI nl from pk_sub (a := nl + 1) (b := 1) (by omega)]
      refine ⟨by rw [oT 84 (by omega)]; exact z_T84 hS, ?_⟩
      have o112 : ∀ b, b ≠ 1 → b ≠ 2 → i112 b = i' b := fun b b1 b2 => by rw [e112, kw_st_offF b1, e99, kw_st_offF b2, o59 b b1]
      have i1' : i' 1 = i 1 := by rw [fi 1 (by decide) (by decide) (by decide) (by omega), o13 1 (by decide)]
      refine z_law12 (B := B) (len := len) (sz := sz) (nl := nl) h t1 hB h90 t3 hz l2 hnl hg oT (fun b hb => ?_) Tn (fun b b0 b1 b2 => ?_) (fun f hf => ?_) (fun q => ?_) (fun b b0 b1 b2 b3 b4 b5 b6 => ?_) ?_ (fun f hf => ?_) ?_ (fun f f1 f2 => ?_) ?_ ?_ ?_
      · rcases Nat.lt_or_ge b (n + 3) with y | y
        · exact y
        · rw [eT, z_row_off (by omega), z_row_off (by omega), z_row_off (by omega)] at hb
          have := h.2.1.2 b hb
          omega
      · rw [e88, kw_st_offF b1, fr b b2 (by omega)]
      · rw [e88, kw_st_off (by decide)]
        exact fr20 f hf
      · rw [e88, kw_st_row, fr 16 (by decide) (by omega)]
      · rw [o112 b b1 b2, fi b b4 b5 b6 b0, o13 b b3]
      · rw [o112 18 (by decide) (by decide), fi 18 (by decide) (by decide) (by decide) (by omega), e13, kw_st_same]
      · rw [e112, kw_st_off (by decide), e99, kw_st_row, if_neg hf, o59 2 (by decide), fi2]
      · rw [e112, kw_st_off (by decide)]
        exact K99
      · rw [e112, kw_st_row, if_neg f1, e99, kw_st_off (by decide), e59, kw_st_row, if_neg f2, i1']
      · rw [e112, kw_st_same]
      · rw [e112, kw_st_row, if_neg (by decide), e99, kw_st_off (by decide), e59, kw_st_same]
      · exact z_lw_eq hlw (fun _ _ _ => rfl) (by rw [e88, kw_st_offF (by omega)]) (fun b b1 b2 => o112 b (by omega) (by omega))
    · subst ho
      have hS' : z_S T (kw_st r 20 2 19) := z_S_20 hS
      dsimp only
      rw [z_r1_3 hS', f9]
      refine ⟨z_T1 hS, z_T20 hS, fun i59 e59 => ⟨fun _ => z_ref9 hS' z_rf6 ⟨z_T84 hS, ?_⟩, fun z => absurd rfl z⟩⟩
      have o59 : ∀ b, b ≠ 1 → b ≠ 18 → b ≠ 20 → b ≠ 21 → b ≠ 22 → i59 b = i b := fun b b1 b2 b3 b4 b5 => by rw [e59, kw_st_offF b1, fi b b3 b4 b5, o13 b b2]
      generalize e69 : kw_st (kw_st i59 1 9 (-6 : Int32)) 83 3 (i59 83 3 + 1) = i69
      have o69 : ∀ b, b ≠ 1 → b ≠ 18 → b ≠ 20 → b ≠ 21 → b ≠ 22 → b ≠ 83 → i69 b = i b := fun b b1 b2 b3 b4 b5 b6 => by rw [← e69, kw_st_offF b6, kw_st_offF b1, o59 b b1 b2 b3 b4 b5]
      have c179 : ((179 : Int32)).toNatClampNeg = 179 := rfl
      have e86 : i69 86 = i 86 := o69 86 (by decide) (by decide) (by decide) (by decide) (by decide) (by decide)
      unfold w_X10_law
      rw [z_r84_2 hS', c179, e86, l2]
      refine ⟨z_kin (z_T86 hS) (k := 179) (by decide) (by decide), fun _ => ?_, fun q => absurd ((nI_eq (b := 6) (by omega) (by decide)).mp q) (by omega)⟩
      refine z_fReads hS' t1 hB (by rw [o69 89 (by decide) (by decide) (by decide) (by decide) (by decide) (by decide)]; exact h.2.2.2.2.2.2.2.1) (by rw [o69 90 (by decide) (by decide) (by decide) (by decide) (by decide) (by decide)]; exact h90) hz (by rw [o69 84 (by decide) (by decide) (by decide) (by decide) (by decide) (by decide)]; exact t3) hg (fun L ho => by cases ho) (fun t' ho j a1 a2 a3 a4 => z_f2 (z_ref10e hS' z_rf6 fun i2 e2 => ⟨rfl, ?_, by omega⟩))
      cases ho
      have o2 : ∀ b, b ≠ 84 → b ≠ 85 → b ≠ 92 → b ≠ 93 → b ≠ 94 → i2 b = i69 b := fun b b1 b2 b3 b4 b5 => by rw [e2, kw_st_offF b2, kw_st_offF b1]; exact a1 b b1 b3 b4 b5
      have o3 : ∀ b, ¬ z_lx b → i2 b = i b := fun b hb => by
        unfold z_lx at hb
        rw [o2 b (by omega) (by omega) (by omega) (by omega) (by omega), o69 b (by omega) (by omega) (by omega) (by omega) (by omega) (by omega)]
      have i84 : i69 84 = i 84 := o69 84 (by decide) (by decide) (by decide) (by decide) (by decide) (by decide)
      have p84 : ∀ f, f ≠ 0 → i2 84 f = j 84 f := fun f hf => by rw [e2, kw_st_off (by decide), kw_st_row, if_neg hf]
      have q86 : i2 86 = i 86 := (o2 86 (by decide) (by decide) (by decide) (by decide) (by decide)).trans e86
      have q2 : i2 2 = i 2 := (o2 2 (by decide) (by decide) (by decide) (by decide) (by decide)).trans (o69 2 (by decide) (by decide) (by decide) (by decide) (by decide) (by decide))
      have q1 : i2 1 = i69 1 := o2 1 (by decide) (by decide) (by decide) (by decide) (by decide)
      have p1 : ∀ f, f ≠ 9 → f ≠ 11 → i2 1 f = i 1 f := fun f f1 f2 => by rw [q1, ← e69, kw_st_off (by decide), kw_st_row, if_neg f1, e59, kw_st_row, if_neg f2, fi 1 (by decide) (by decide) (by decide), o13 1 (by decide)]
      have j85 : j 85 = i 85 := (a1 85 (by decide) (by decide) (by decide) (by decide)).trans (o69 85 (by decide) (by decide) (by decide) (by decide) (by decide) (by decide))
      have p85 : ∀ q, i2 85 q = if q = 6 then i 85 6 + 1 else i 85 q := fun q => by rw [e2, kw_st_row, kw_st_off (by decide), j85]
      have p83 : ∀ q, i2 83 q = if q = 3 then i 83 3 + 1 else i 83 q := fun q => by rw [o2 83 (by decide) (by decide) (by decide) (by decide) (by decide), ← e69, kw_st_row, kw_st_off (by decide), o59 83 (by decide) (by decide) (by decide) (by decide) (by decide)]
      obtain ⟨sc1, sc2, sc3, sc4, sc5, sc6, sc7⟩ := h.2.2.2.2.2.1
      refine z_Inv_lw h (Nat.le_refl _) (fun _ _ => rfl) h.2.1.2 (fun b _ _ hb => kw_st_offF hb) (fun f hf => by rw [kw_st_row, if_neg hf]) (fun b _ hb => o3 b hb) (fun f _ => by rw [q2]) (by rw [q2, q86]; exact h.2.2.1.1.2.2.2.2.2.1) (p1 12 (by decide) (by decide)) (by rw [p84 36 (by decide), a2 36 (by decide) (by decide) (by decide) (by decide) (by decide) (by decide), i84]) (fun k _ => by rw [q86]) l2 l1 (fun q L _ hq => by rw [q86]; exact hq) ?_ ⟨0, by omega, ?_, by rw [p84 9 (by decide), a3]; rfl, ?_⟩ ⟨?_, ?_, ?_, ?_, ?_, ?_, ?_⟩
      · rw [q86]
        refine z_laws_mv h.2.2.1.2.2 (Nat.le_refl _) (fun _ _ => rfl) (fun q _ => kw_st_off (by decide)) (fun b b1 _ _ => kw_st_offF (by omega)) (fun a b x1 x2 _ _ _ x3 x4 => o3 b (by unfold z_lx; omega)) (fun _ _ _ => rfl)
      · rw [o2 18 (by decide) (by decide) (by decide) (by decide) (by decide), ← e69, kw_st_off (by decide), kw_st_off (by decide), e59, kw_st_off (by decide), fi 18 (by decide) (by decide) (by decide), e13, kw_st_same]
        rfl
      · rw [o3 19 (by unfold z_lx; omega), o3 90 (by unfold z_lx; omega)]
        exact t4
      · rw [q1, ← e69, kw_st_off (by decide), kw_st_same, e2, kw_st_off (by decide), kw_st_same]
      · rw [p1 10 (by decide) (by decide), p84 5 (by decide), a2 5 (by decide) (by decide) (by decide) (by decide) (by decide) (by decide), i84]
        exact sc2
      · rw [p84 10 (by decide), a4, q1, ← e69, kw_st_off (by decide), kw_st_row, if_neg (by decide), e59, kw_st_same]
      · rw [p83, p85, if_neg (by decide), if_neg (by decide)]; exact sc4
      · rw [p83, p85, if_neg (by decide), if_neg (by decide)]; exact sc5
      · rw [p83, p85, if_neg (by decide), if_neg (by decide)]; exact sc6
      · rw [p83, p85, if_pos rfl, if_pos rfl, sc7]
  · have hnl : nl = 6 := by
      have : ¬ nl < 6 := fun z => q (nI_lt (b := 6) z (by decide))
      omega
    refine z_refb0 h z_rf5 (m10 := fun i1 Q => w_X10_law 84 T n r i1 w Q) (fun i1 Q o hQ => ?_) e13
    have c179 : ((179 : Int32)).toNatClampNeg = 179 := rfl
    show w_X10_law 84 T n r i1 w Q
    unfold w_X10_law
    rw [z_r84_2 hS, c179, o 86 (by decide) (by decide) (by decide), l2, hnl]
    refine ⟨z_kin (z_T86 hS) (k := 179) (by decide) (by decide), fun q => absurd rfl q, fun _ i15 e15 => z_ref10e hS z_rf5 fun i2 e2 => hQ i2 ?_⟩
    rw [e2, e15, kw_st_off (a := 84) (b := 85) (by decide)]
