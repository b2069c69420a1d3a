-- WEAVERS WHO SLIP BY DRAWS
def z_dw (s : Nat) : Nat := (1103 * s + 12345) % 1000003
theorem z_dw_lt (s : Nat) : z_dw s < 1000003 := Nat.mod_lt _ (by decide)
/-- behind c cells: the draws' number, slips, what is woven -/
noncomputable def z_dN (E : z_E) (sl v : Nat) (f : Nat → Int32) (s : Nat) : Nat → Nat × Nat × (Nat → Int32)
  | 0 => (s, 0, fun _ => 0)
  | c + 1 => if z_dw (z_dN E sl v f s c).1 % 100 < sl then (z_dw (z_dw (z_dN E sl v f s c).1), (z_dN E sl v f s c).2.1 + 1, fun d => if d = c then nI (z_nr (E.1 v) ((nI (z_dw (z_dw (z_dN E sl v f s c).1) % 8)).toInt64).toInt) else (z_dN E sl v f s c).2.2 d) else (z_dw (z_dN E sl v f s c).1, (z_dN E sl v f s c).2.1, fun d => if d = c then z_cv E v c (z_was E v f c) (z_left (z_dN E sl v f s c).2.2 c) (z_above (z_dN E sl v f s c).2.2 c) else (z_dN E sl v f s c).2.2 d)
noncomputable def z_dg (qq : Nat) (E : z_E) (sl s : Nat) (f : Nat → Int32) : Nat → Nat × (Nat → Int32)
  | 0 => (s, f)
  | m + 1 => ((z_dN E sl m (z_dg qq E sl s f m).2 (z_dg qq E sl s f m).1 qq).1, (z_dN E sl m (z_dg qq E sl s f m).2 (z_dg qq E sl s f m).1 qq).2.2)
noncomputable def z_dc (qq : Nat) (E : z_E) (sl s : Nat) (f : Nat → Int32) (v : Nat) : Nat := (z_dN E sl v (z_dg qq E sl s f v).2 (z_dg qq E sl s f v).1 qq).2.1
section ZDW
variable {E : z_E} {qq sl v s : Nat} {f : Nat → Int32}
theorem z_dN_yes {c : Nat} (h : z_dw (z_dN E sl v f s c).1 % 100 < sl) : z_dN E sl v f s (c + 1) = (z_dw (z_dw (z_dN E sl v f s c).1), (z_dN E sl v f s c).2.1 + 1, fun d => if d = c then nI (z_nr (E.1 v) ((nI (z_dw (z_dw (z_dN E sl v f s c).1) % 8)).toInt64).toInt) else (z_dN E sl v f s c).2.2 d) := by
  conv => lhs; unfold z_dN
  rw [if_pos h]
theorem z_dN_no {c : Nat} (h : ¬ z_dw (z_dN E sl v f s c).1 % 100 < sl) : z_dN E sl v f s (c + 1) = (z_dw (z_dN E sl v f s c).1, (z_dN E sl v f s c).2.1, fun d => if d = c then z_cv E v c (z_was E v f c) (z_left (z_dN E sl v f s c).2.2 c) (z_above (z_dN E sl v f s c).2.2 c) else (z_dN E sl v f s c).2.2 d) := by
  conv => lhs; unfold z_dN
  rw [if_neg h]
theorem z_dN_lt (hs : s < 1000003) : ∀ c, (z_dN E sl v f s c).1 < 1000003 := by
  intro c
  cases c with
  | zero => exact hs
  | succ c =>
    by_cases h : z_dw (z_dN E sl v f s c).1 % 100 < sl
    · rw [z_dN_yes h]
      exact z_dw_lt _
    · rw [z_dN_no h]
      exact z_dw_lt _
theorem z_dN_ct : ∀ c, (z_dN E sl v f s c).2.1 ≤ c := by
  intro c
  induction c with
  | zero => exact Nat.le_refl 0
  | succ c ih =>
    by_cases h : z_dw (z_dN E sl v f s c).1 % 100 < sl
    · rw [z_dN_yes h]
      exact Nat.succ_le_succ ih
    · rw [z_dN_no h]
      exact Nat.le_succ_of_le ih
theorem z_dN_B (hW : z_hasB (E.1 v)) (hf : ∀ c, E.2.2.2.2.2 v c = none) : ∀ c d, d < c → z_B ((z_dN E sl v f s c).2.2 d) 8 := by
  intro c
  induction c with
  | zero => intro d hd; omega
  | succ c ih =>
    intro d hd
    by_cases h : z_dw (z_dN E sl v f s c).1 % 100 < sl
    · rw [z_dN_yes h]
      show z_B (if d = c then nI (z_nr (E.1 v) ((nI (z_dw (z_dw (z_dN E sl v f s c).1) % 8)).toInt64).toInt) else (z_dN E sl v f s c).2.2 d) 8
      by_cases q : d = c
      · rw [if_pos q]
        obtain ⟨col, hc⟩ := z_Nr_ex hW ((nI (z_dw (z_dw (z_dN E sl v f s c).1) % 8)).toInt64).toInt
        rw [z_nr_eq hc]
        exact ⟨col, hc.1, rfl⟩
      · rw [if_neg q]
        exact ih d (by omega)
    · rw [z_dN_no h]
      show z_B (if d = c then z_cv E v c (z_was E v f c) (z_left (z_dN E sl v f s c).2.2 c) (z_above (z_dN E sl v f s c).2.2 c) else (z_dN E sl v f s c).2.2 d) 8
      by_cases q : d = c
      · rw [if_pos q]
        exact z_cv_B hW (fun x hx => by rw [hf c] at hx; cases hx)
      · rw [if_neg q]
        exact ih d (by omega)
theorem z_dg_lt (hs : s < 1000003) : ∀ m, (z_dg qq E sl s f m).1 < 1000003 := by
  intro m
  induction m with
  | zero => exact hs
  | succ m ih => exact z_dN_lt ih qq
theorem z_dg_B {nv : Nat} (hqq : qq = 36) (h0 : ∀ c, c < 36 → z_B (f c) 8) (hW : ∀ v, v < nv → z_hasB (E.1 v)) (hf : ∀ v c, E.2.2.2.2.2 v c = none) : ∀ m, m ≤ nv → ∀ c, c < 36 → z_B ((z_dg qq E sl s f m).2 c) 8 := by
  intro m
  cases m with
  | zero => exact fun _ => h0
  | succ m => exact fun hm c hc => z_dN_B (hW m (by omega)) (hf m) qq c (by omega)
end ZDW
section ZDR
variable {T : kw_T} {n : Nat} {r : kw_R} {i : kw_I} {w : kw_L} {nv : Nat} {L : List z_Sm}
theorem z_draw8 {s k : Nat} (hs : s < 1000003) (hk : 0 < k) (hk2 : k ≤ 100) (h : i 70 3 = nI s) {Q : Int32 → kw_I → Prop} (hQ : Q (nI (z_dw s % k)) (kw_st i 70 3 (nI (z_dw s)))) : w_X8_draw 70 (nI k) T n r i w Q := by
  intro i2 e2
  have e : (i 70 3) * (1103 : Int32) + (12345 : Int32) = nI (1103 * s + 12345) := by
    rw [h, show (1103 : Int32) = nI 1103 from rfl, show (12345 : Int32) = nI 12345 from rfl, pk_mul, nI_add, Nat.mul_comm]
  have e3 : nI (1103 * s + 12345) - nI (1103 * s + 12345) / (1000003 : Int32) * 1000003 = nI (z_dw s) := pk_rem (d := 1000003) (by omega) (by decide) (by decide)
  rw [e, e3] at e2
  have lt := z_dw_lt s
  refine ⟨fun q => absurd q (nI_nle hk (by omega)), fun _ => ⟨nI_ne0 hk (by omega), ?_⟩⟩
  have e4 : i2 70 3 = nI (z_dw s) := by rw [e2, kw_st_same]
  rw [e4, pk_rem (by omega) hk (by omega), e2]
  exact hQ
theorem z_draw10 {s k : Nat} (hs : s < 1000003) (hk : 0 < k) (hk2 : k ≤ 100) (h : i 84 37 = nI s) {Q : Int32 → kw_I → Prop} (hQ : Q (nI (z_dw s % k)) (kw_st i 84 37 (nI (z_dw s)))) : w_X10_draws 84 (nI k) T n r i w Q := by
  intro i2 e2
  have e : (1103 : Int64) * (i 84 37).toInt64 + (12345 : Int64) = lN (1103 * s + 12345) := by
    rw [h, nI_l (by omega), show (1103 : Int64) = lN 1103 from rfl, show (12345 : Int64) = lN 12345 from rfl, lN_mul, lN_add]
  have e3 : lN (1103 * s + 12345) - lN (1103 * s + 12345) / (1000003 : Int64) * 1000003 = lN (z_dw s) := pk_lRem (b := 1000003) (by omega) (by decide) (by decide)
  rw [e, e3, lN_i] at e2
  have lt := z_dw_lt s
  refine ⟨nI_ne0 hk (by omega), ?_⟩
  have e4 : i2 84 37 = nI (z_dw s) := by rw [e2, kw_st_same]
  rw [e4, pk_rem (by omega) hk (by omega), e2]
  exact hQ
theorem z_weaveAll8 {qq : Nat} (hqq : qq = 36) (h : z_fr T n r i w nv L) {s0 sl : Nat} (hs : s0 < 1000003) (hsl : sl < 101) (esl : i 86 176 = nI sl) {Q : Nat → kw_I → kw_L → Prop}
    (hQ : ∀ a i' w', T a = (1, 36) → (∀ b, b ≠ 29 → b ≠ 70 → ¬ (72 ≤ b ∧ b ≤ 82) → i' b = i b) → i' 29 8 = i 29 8 → i' 70 2 = nI nv → z_wo 28 w w' → (∀ v, v < nv → i' 82 v = nI (z_dc qq (z_E0 (i 86) L) sl s0 (fun c => i 86 (60 + c)) v) ∧ ∀ c, c < 36 → i' (72 + v) c = (z_dg qq (z_E0 (i 86) L) sl s0 (fun c => i 86 (60 + c)) (v + 1)).2 c) → (∀ c, c < 36 → i' a c = (z_dg qq (z_E0 (i 86) L) sl s0 (fun c => i 86 (60 + c)) nv).2 c) → Q a i' w') : w_X8_weaveAll 70 24 2 (nI s0) T n r i w Q := by
  have hS := h.1.1
  have hK := h.2.2.1
  have hn := hK.1
  have hE := h.2.2.2.2.1.2.1
  have SK := h.1.2.2.1.1
  have ⟨G, hG⟩ : ∃ G, G = z_dg qq (z_E0 (i 86) L) sl s0 (fun c => i 86 (60 + c)) := ⟨_, rfl⟩
  have Glt : ∀ m, (G m).1 < 1000003 := by rw [hG]; exact z_dg_lt hs
  intro i2 e2
  refine ⟨z_T2 hS, fun i10 e10 => ?_⟩
  have e25 : i2 2 5 = nI nv := by rw [e2, kw_st_off (by decide), SK.2.2.2.2.1, hK.2.1]
  rw [e25] at e10
  have e10' : r 10 ((0 : Int32)).toNatClampNeg = 11 := z_r10_0 hS
  rw [z_r2_1 hS, e10']
  refine ⟨z_kin (k := 0) (z_T10 hS) (by decide) (by decide), nv + 1, ?_⟩
  have loop : ∀ (d v sa : Nat) (j : kw_I) (u : kw_L), v + d = nv → (sa = if v = 0 then 11 else 71 + v) → (∀ b, b ≠ 29 → b ≠ 70 → ¬ (72 ≤ b ∧ b ≤ 82) → j b = i b) → j 29 8 = i 29 8 → j 70 2 = nI nv → j 70 3 = nI (G v).1 → z_wo 28 w u → (∀ v', v' < v → j 82 v' = nI (z_dc qq (z_E0 (i 86) L) sl s0 (fun c => i 86 (60 + c)) v') ∧ ∀ c, c < 36 → j (72 + v') c = (G (v' + 1)).2 c) → (∀ c, c < 36 → j sa c = (G v).2 c) → w_X8_weaveAll_24 70 24 2 (nI s0) T n r Q (d + 1) sa (nI v) j u := by
    intro d
    induction d with
    | zero =>
      intro v sa j u hd hsa g1 g2 g3 g4 g5 g6 g7
      have : v = nv := by omega
      subst this
      have hTsa : T sa = (1, 36) := by
        rw [hsa]
        by_cases q : v = 0
        · rw [if_pos q]
          exact z_T11 hS
        · rw [if_neg q, show 71 + v = 72 + (v - 1) by omega]
          exact z_Twrow hS (by omega)
      show s_X8_weaveAll_24 70 24 2 (nI s0) T n r Q _ sa (nI v) j u
      unfold s_X8_weaveAll_24
      rw [g3]
      refine ⟨fun _ => hQ sa j u hTsa g1 g2 g3 g5 (by rw [hG] at g6; exact g6) (by rw [hG] at g7; exact g7), fun q => absurd (nI_le (Nat.le_refl _) (by omega)) q⟩
    | succ d ih =>
      intro v sa j u hd hsa g1 g2 g3 g4 g5 g6 g7
      have hv : v < nv := by omega
      have hTsa : T sa = (1, 36) := by
        rw [hsa]
        by_cases q : v = 0
        · rw [if_pos q]
          exact z_T11 hS
        · rw [if_neg q, show 71 + v = 72 + (v - 1) by omega]
          exact z_Twrow hS (by omega)
      have sab : sa ≠ 29 ∧ sa ≠ 70 ∧ sa ≠ 72 + v ∧ sa < 72 + v ∧ sa ≠ 82 := by
        by_cases q : v = 0
        · rw [if_pos q] at hsa; omega
        · rw [if_neg q] at hsa; omega
      show s_X8_weaveAll_24 70 24 2 (nI s0) T n r Q _ sa (nI v) j u
      unfold s_X8_weaveAll_24
      rw [g3, z_r70_0 hS, z_r70_1 hS, nI_clamp (by omega), z_rwrow hS (by omega)]
      refine ⟨fun q => absurd q (nI_ge hv (by omega)), fun _ => ⟨z_kin (z_T71 hS) (by omega) (by decide), z_kin (z_T82 hS) (by omega) (by decide), fun j2 e2 => ⟨qq + 1, ?_⟩⟩⟩
      have ⟨N, hN⟩ : ∃ N, N = z_dN (z_E0 (i 86) L) sl v (G v).2 (G v).1 := ⟨_, rfl⟩
      have Nlt : ∀ c, (N c).1 < 1000003 := by rw [hN]; exact z_dN_lt (Glt v)
      have GN : G (v + 1) = ((N qq).1, (N qq).2.2) := by rw [hN, hG]; rfl
      have inner : ∀ (e c : Nat) (m : kw_I) (z : kw_L), c + e = qq → (∀ b, b ≠ 29 → b ≠ 70 → ¬ (72 ≤ b ∧ b ≤ 82) → m b = i b) → m 29 8 = i 29 8 → m 70 2 = nI nv → m 70 3 = nI (N c).1 → z_wo 28 w z → (∀ v', v' < v → m 82 v' = j 82 v' ∧ m (72 + v') = j (72 + v')) → m sa = j sa → m 82 v = nI (N c).2.1 → (∀ d, d < c → m (72 + v) d = (N c).2.2 d) → w_X8_weaveAll_53 70 24 2 (nI s0) T n r Q (w_X8_weaveAll_24 70 24 2 (nI s0) T n r Q (d + 1)) (e + 1) sa (nI v) (72 + v) (nI c) m z := by
        intro e
        induction e with
        | zero =>
          intro c m z he b1 b2 b3 b4 b5 b6 b7 b8 b9
          have : c = qq := by omega
          subst this
          show s_X8_weaveAll_53 70 24 2 (nI s0) T n r Q _ _ sa (nI v) (72 + v) (nI c) m z
          unfold s_X8_weaveAll_53
          rw [nI_1]
          refine ⟨fun _ => ih (v + 1) (72 + v) m z (by omega) (by rw [if_neg (by omega)]; omega) b1 b2 b3 (by rw [GN]; exact b4) b5 (fun v' hv' => ?_) (fun d hd => by rw [GN]; exact b9 d (by omega)), fun q => absurd (nI_le (a := 36) (by omega) (by omega)) q⟩
          by_cases q : v' = v
          · subst q
            refine ⟨?_, fun d hd => by rw [GN]; exact b9 d (by omega)⟩
            rw [b8, hN, hG]
            rfl
          · rw [(b6 v' (by omega)).1, (b6 v' (by omega)).2]
            exact g6 v' (by omega)
        | succ e ihe =>
          intro c m z he b1 b2 b3 b4 b5 b6 b7 b8 b9
          have hc : c < 36 := by omega
          have lt1 := z_dw_lt (N c).1
          have lt2 := z_dw_lt (z_dw (N c).1)
          have ctle : (N c).2.1 ≤ c := by rw [hN]; exact z_dN_ct c
          show s_X8_weaveAll_53 70 24 2 (nI s0) T n r Q _ _ sa (nI v) (72 + v) (nI c) m z
          unfold s_X8_weaveAll_53
          refine ⟨fun q => absurd q (nI_ge (b := 36) hc (by decide)), fun _ => z_draw8 (k := 100) (Nlt c) (by decide) (by decide) b4 ?_⟩
          have ⟨m1, f1⟩ : ∃ m1, m1 = kw_st m 70 3 (nI (z_dw (N c).1)) := ⟨_, rfl⟩
          rw [← f1]
          have o1 : ∀ b, b ≠ 70 → m1 b = m b := fun b hb => by rw [f1, kw_st_offF hb]
          have e15 : m1 15 ((0 : Int32)).toNatClampNeg = nI sl := by
            rw [o1 15 (by decide), b1 15 (by decide) (by decide) (by decide)]
            exact (SK.2.2.2.1 0 (by decide)).trans esl
          rw [z_r2_3 hS, z_r70_1 hS, z_r24_1 hS, e15, nI_clamp (show v < 2 ^ 31 by omega), nI_clamp (show c < 2 ^ 31 by omega)]
          -- behind a cell
          have next : ∀ (m3 : kw_I) (z3 : kw_L) (x : Int32), (∀ b, b ≠ 29 → b ≠ 70 → ¬ (72 ≤ b ∧ b ≤ 82) → m3 b = i b) → m3 29 8 = i 29 8 → m3 70 2 = nI nv → m3 70 3 = nI (N (c + 1)).1 → z_wo 28 w z3 → (∀ v', v' < v → m3 82 v' = j 82 v' ∧ m3 (72 + v') = j (72 + v')) → m3 sa = j sa → m3 82 v = nI (N (c + 1)).2.1 → m3 (72 + v) = m (72 + v) → (∀ d, d < c → (N (c + 1)).2.2 d = (N c).2.2 d) → x = (N (c + 1)).2.2 c → (kw_in T 1 (72 + v) (nI c) ∧ (∀ i128 : kw_I, i128 = kw_st m3 (72 + v) c x → (w_X8_weaveAll_129 70 24 2 (nI s0) T n r Q (w_X8_weaveAll_24 70 24 2 (nI s0) T n r Q (d + 1)) (w_X8_weaveAll_53 70 24 2 (nI s0) T n r Q (w_X8_weaveAll_24 70 24 2 (nI s0) T n r Q (d + 1)) (e + 1)) sa (nI v) (72 + v) (nI c) i128 z3))) := by
            intro m3 z3 x c1 c2 c3 c4 c5 c6 c7 c8 c9 c10 c11
            refine ⟨z_kin (z_Twrow hS (by omega)) hc (by decide), fun m4 f4 => ?_⟩
            show w_X8_weaveAll_53 70 24 2 (nI s0) T n r Q _ (e + 1) sa (nI v) (72 + v) (nI c + 1) m4 z3
            rw [nI_1]
            have o4 : ∀ b, b ≠ 72 + v → m4 b = m3 b := fun b hb => by rw [f4, kw_st_offF hb]
            refine ihe (c + 1) m4 z3 (by omega) (fun b x1 x2 x3 => by rw [o4 b (by omega)]; exact c1 b x1 x2 x3) (by rw [o4 29 (by omega)]; exact c2) (by rw [o4 70 (by omega)]; exact c3) (by rw [o4 70 (by omega)]; exact c4) c5 (fun v' hv' => by rw [o4 82 (by omega), o4 (72 + v') (by omega)]; exact c6 v' hv') (by rw [o4 sa sab.2.2.1]; exact c7) (by rw [o4 82 (by omega)]; exact c8) (fun d hd => ?_)
            rw [f4, kw_st_row]
            by_cases q : d = c
            · rw [if_pos q, q]
              exact c11
            · rw [if_neg q, c9, c10 d (by omega)]
              exact b9 d (by omega)
          refine ⟨z_T2 hS, z_kin (k := 0) (z_T15 hS) (by decide) (by decide), fun q => ⟨z_T24 hS, ?_⟩, fun q => ?_⟩
          · have hno : ¬ z_dw (N c).1 % 100 < sl := by
              have := (nI_leI (by omega) (by omega)).mp q
              omega
            have hh := hno
            rw [hN] at hh
            have Ns := z_dN_no hh
            rw [← hN] at Ns
            have hE1 : z_lE T r m1 z nv (z_E0 (i 86) L) := z_lE_io hE (by rw [o1 24 (by decide)]; exact b1 24 (by decide) (by decide) (by decide)) (by rw [o1 26 (by decide)]; exact b1 26 (by decide) (by decide) (by decide)) (by rw [o1 27 (by decide)]; exact b1 27 (by decide) (by decide) (by decide)) (by rw [o1 29 (by decide)]; exact b2) (fun b hb => by rw [o1 b (by omega)]; exact b1 b (by omega) (by omega) (by omega)) (b5 25 (by decide))
            refine z_colE hS hE1 hv hc hTsa (z_Twrow hS (by omega)) (by omega) fun x m3 z3 c1 c2 c3 c4 => ?_
            have o3 : ∀ b, b ≠ 29 → b ≠ 70 → m3 b = m b := fun b x1 x2 => by rw [c1 b x1, o1 b x2]
            refine next m3 z3 x (fun b x1 x2 x3 => by rw [o3 b x1 x2]; exact b1 b x1 x2 x3) (by rw [c2, o1 29 (by decide)]; exact b2) (by rw [c1 70 (by decide), f1, kw_st_row, if_neg (by decide)]; exact b3) (by rw [c1 70 (by decide), f1, kw_st_same, Ns]) (fun b hb => (c3 b hb).trans (b5 b hb)) (fun v' hv' => by rw [o3 82 (by decide) (by decide), o3 (72 + v') (by omega) (by omega)]; exact b6 v' hv') (by rw [o3 sa sab.1 sab.2.1]; exact b7) (by rw [o3 82 (by decide) (by decide), Ns]; exact b8) (o3 _ (by omega) (by omega)) (fun d hd => by rw [Ns]; exact if_neg (by omega)) ?_
            rw [Ns]
            show x = if c = c then _ else _
            have ew : z_was (z_E0 (i 86) L) v (m sa) c = z_was (z_E0 (i 86) L) v (G v).2 c := z_was_eq (by rw [b7]; exact g7 c hc)
            rw [if_pos rfl, c4, o1 sa sab.2.1, o1 (72 + v) (by omega), z_left_eq (g := m (72 + v)) b9, z_above_eq (g := m (72 + v)) b9, ew]
          · have hyes : z_dw (N c).1 % 100 < sl := by
              rcases Nat.lt_or_ge (z_dw (N c).1 % 100) sl with y | y
              · exact y
              · exact absurd (nI_le y (by omega)) q
            have hh := hyes
            rw [hN] at hh
            have Ns := z_dN_yes hh
            rw [← hN] at Ns
            have k82 : kw_in T 1 82 (nI v) := z_kin (z_T82 hS) (by omega) (by decide)
            refine ⟨k82, k82, fun m2 f2 => ⟨z_T24 hS, z_kin (z_T26 hS) (by omega) (by decide), ?_⟩⟩
            have m703 : m2 70 3 = nI (z_dw (N c).1) := by rw [f2, kw_st_off (by decide), f1, kw_st_same]
            have o2 : ∀ b, b ≠ 70 → b ≠ 82 → m2 b = m b := fun b x1 x2 => by rw [f2, kw_st_offF x2, o1 b x1]
            refine z_draw8 (k := 8) lt1 (by decide) (by decide) m703 ?_
            have ⟨m3, f3⟩ : ∃ m3, m3 = kw_st m2 70 3 (nI (z_dw (z_dw (N c).1))) := ⟨_, rfl⟩
            rw [← f3]
            have o3 : ∀ b, b ≠ 70 → b ≠ 82 → m3 b = m b := fun b x1 x2 => by rw [f3, kw_st_offF x1, o2 b x1 x2]
            have e26 : m2 26 v = nI (z_W0 (i 86) v) := by
              rw [o2 26 (by decide) (by decide), b1 26 (by decide) (by decide) (by decide)]
              exact (hE.1.2.2.1 v hv).2.2
            rw [e26]
            obtain ⟨hW1, hW2⟩ := (z_Kr_W hK hv).1
            refine z_near2 hW1 hW2 (fun col hcol => ?_)
            have r82 : ∀ x, m3 82 x = if x = v then m 82 v + 1 else m 82 x := fun x => by rw [f3, kw_st_off (by decide), f2, kw_st_row, o1 82 (by decide)]
            refine next m3 z (nI col) (fun b x1 x2 x3 => by rw [o3 b x2 (by omega)]; exact b1 b x1 x2 x3) (by rw [o3 29 (by decide) (by decide)]; exact b2) (by rw [f3, kw_st_row, if_neg (by decide), f2, kw_st_off (by decide), f1, kw_st_row, if_neg (by decide)]; exact b3) (by rw [f3, kw_st_same, Ns]) b5 (fun v' hv' => by rw [r82, if_neg (by omega), o3 (72 + v') (by omega) (by omega)]; exact b6 v' hv') (by rw [o3 sa sab.2.1 sab.2.2.2.2]; exact b7) (by rw [r82, if_pos rfl, b8, nI_1, Ns]) (o3 _ (by omega) (by omega)) (fun d hd => by rw [Ns]; exact if_neg (by omega)) ?_
            rw [Ns]
            show nI col = if c = c then _ else _
            rw [if_pos rfl]
            exact congrArg nI (z_nr_eq hcol).symm
      have o2 : ∀ b, b ≠ 82 → j2 b = j b := fun b hb => by rw [e2, kw_st_offF hb]
      refine inner qq 0 j2 u (by omega) (fun b x1 x2 x3 => by rw [o2 b (by omega)]; exact g1 b x1 x2 x3) (by rw [o2 29 (by decide)]; exact g2) (by rw [o2 70 (by decide)]; exact g3) (by rw [o2 70 (by decide), hN]; exact g4) g5 (fun v' hv' => ⟨by rw [e2, kw_st_row, if_neg (by omega)], o2 _ (by omega)⟩) (o2 sa sab.2.2.2.2) ?_ (fun d hd => absurd hd (Nat.not_lt_zero d))
      rw [e2, kw_st_same, hN]
      rfl
  have o10 : ∀ b, b ≠ 70 → i10 b = i b := fun b hb => by rw [e10, kw_st_offF hb, e2, kw_st_offF hb]
  refine loop nv 0 11 i10 w (by omega) rfl (fun b _ x2 _ => o10 b x2) (by rw [o10 29 (by decide)]) (by rw [e10, kw_st_same]) (by rw [e10, kw_st_row, if_neg (by decide), e2, kw_st_same, hG]; rfl) (fun _ _ => rfl) (fun v' hv' => absurd hv' (Nat.not_lt_zero v')) (fun c hc => ?_)
  rw [o10 11 (by decide), hG]
  exact SK.2.1 0 c (by decide) hc
end ZDR
