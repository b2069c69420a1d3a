-- WEAVERS, BY THE REFERENCE
section ZDM
variable {T : kw_T} {n : Nat} {r : kw_R} {i : kw_I} {w : kw_L} {nv : Nat} {L : List z_Sm}
/-- what weaving with draws changes -/
def z_gD (i i' : kw_I) : Prop := (∀ b, b ≠ 84 → b ≠ 95 → b ≠ 99 → b ≠ 100 → i' b = i b) ∧ ∀ f, f ≠ 18 → f ≠ 19 → f ≠ 20 → f ≠ 37 → i' 84 f = i 84 f
theorem z_weavesD {qq : Nat} (hqq : qq = 36) (hS : z_S T r) (hK : z_Kr (i 86) nv) {v : Nat} (hv : v < nv) (hL : i 86 180 ≠ -1 → ∃ j, j < 6 ∧ i 86 180 = nI j ∧ z_toks (i 86) j L) (h27 : i 84 27 = 0) (h28 : i 84 28 = -1) (h30 : i 84 30 = -1) (h32 : i 84 32 = 1) {sl s : Nat} (hsl : sl < 101) (esl : i 86 176 = nI sl) (hs : s < 1000003) (h37 : i 84 37 = nI s) (h100 : i 100 v = 0) {f : Nat → Int32} (hf : ∀ c, c < 36 → i 99 (36 * v + c) = f c) (hB : ∀ c, c < 36 → z_B (f c) 8) {Q : kw_I → Prop}
    (hQ : ∀ i', z_gD i i' → (∀ x, x ≠ v → i' 100 x = i 100 x) → i' 100 v = nI (z_dN (z_E0 (i 86) L) sl v f s qq).2.1 → i' 84 37 = nI (z_dN (z_E0 (i 86) L) sl v f s qq).1 → (∀ k, (k < 36 * (v + 1) ∨ 36 * (v + 1) + 36 ≤ k) → i' 99 k = i 99 k) → (∀ c, c < 36 → i' 99 (36 * (v + 1) + c) = (z_dN (z_E0 (i 86) L) sl v f s qq).2.2 c) → Q i') : w_X10_weaves 84 (nI v) 99 (nI (36 * v)) (nI (36 * (v + 1))) T n r i w Q := by
  have hn := hK.1
  have hv10 : v < 10 := by omega
  refine z_factOf (k := 5) hS hv10 (by decide) ?_
  obtain ⟨hW, eW⟩ := z_Kr_W hK hv
  have ⟨N, hN⟩ : ∃ N, N = z_dN (z_E0 (i 86) L) sl v f s := ⟨_, rfl⟩
  have Nlt : ∀ c, (N c).1 < 1000003 := by rw [hN]; exact z_dN_lt hs
  rw [← hN] at hQ
  have loop : ∀ (k c : Nat) (j : kw_I), c + k = qq → z_gD i j → (∀ x, x ≠ v → j 100 x = i 100 x) → j 100 v = nI (N c).2.1 → j 84 37 = nI (N c).1 → (∀ k, (k < 36 * (v + 1) ∨ 36 * (v + 1) + 36 ≤ k) → j 99 k = i 99 k) → (∀ d, d < c → j 99 (36 * (v + 1) + d) = (N c).2.2 d) → w_X10_weaves_30 84 (nI v) 99 (nI (36 * v)) (nI (36 * (v + 1))) T n r w Q (k + 1) (nI (z_W0 (i 86) v)) (nI c) j := by
    intro k
    induction k with
    | zero =>
      intro c j hc g1 g2 g3 g4 g5 g6
      have : c = qq := by omega
      subst this
      exact ⟨fun _ => hQ j g1 g2 g3 g4 g5 (fun d hd => g6 d (by omega)), fun h => absurd (nI_le (a := 36) (by omega) (by omega)) h⟩
    | succ k ih =>
      intro c j hc g1 g2 g3 g4 g5 g6
      have hc36 : c < 36 := by omega
      have e86 : j 86 = i 86 := g1.1 86 (by decide) (by decide) (by decide) (by decide)
      have efr : j 99 (36 * v + c) = f c := by rw [g5 _ (Or.inl (by omega))]; exact hf c hc36
      refine z_wvs_pre (i := j) (S := 0) hS (by rw [e86]; exact hK) hv (by decide) (by rw [g1.2 27 (by decide) (by decide) (by decide) (by decide)]; exact h27) hc36 (z_T99 hS) (by decide) (by omega) (by omega) rfl (by rw [efr]; exact hB c hc36) ?_
      intro j2 o2 ask2
      refine ⟨z_T84 hS, ?_⟩
      have e86b : j2 86 = i 86 := (o2 86 (by decide)).trans e86
      rw [e86] at ask2 ⊢
      refine z_wvs_wish (i := j2) hS e86b hL ask2 rfl ?_
      intro z j3 ev3 hz hzb
      have g84 : ∀ f, f ≠ 18 → f ≠ 19 → f ≠ 20 → j3 84 f = j 84 f := fun f f1 f2 f3 => by rw [ev3.2 f f1 f2 f3, o2 84 (by decide)]
      have o3 : ∀ b, b ≠ 84 → b ≠ 95 → j3 b = j b := fun b b1 b2 => by rw [ev3.1 b b1, o2 b b2]
      have e32 : j3 84 32 = 1 := by rw [g84 32 (by decide) (by decide) (by decide), g1.2 32 (by decide) (by decide) (by decide) (by decide)]; exact h32
      refine ⟨fun h => absurd (by rw [← e32]; exact h : (1 : Int32) = 0) (by decide), fun _ => ?_⟩
      have e37 : j3 84 37 = nI (N c).1 := by rw [g84 37 (by decide) (by decide) (by decide)]; exact g4
      refine z_draw10 (k := 100) (Nlt c) (by decide) (by decide) e37 ?_
      have ⟨j4, f4⟩ : ∃ j4, j4 = kw_st j3 84 37 (nI (z_dw (N c).1)) := ⟨_, rfl⟩
      rw [← f4]
      have lt1 := z_dw_lt (N c).1
      have lt2 := z_dw_lt (z_dw (N c).1)
      have ctle : (N c).2.1 ≤ c := by rw [hN]; exact z_dN_ct c
      have o4 : ∀ b, b ≠ 84 → b ≠ 95 → j4 b = j b := fun b b1 b2 => by rw [f4, kw_st_offF b1, o3 b b1 b2]
      have p4 : ∀ f, f ≠ 18 → f ≠ 19 → f ≠ 20 → f ≠ 37 → j4 84 f = j 84 f := fun f f1 f2 f3 f5 => by rw [f4, kw_st_row, if_neg f5, g84 f f1 f2 f3]
      have e176 : j4 86 ((176 : Int32)).toNatClampNeg = nI sl := by
        rw [o4 86 (by decide) (by decide), e86]
        exact esl
      rw [z_r84_2 hS, e176, z_r84_26 hS, nI_clamp (by omega)]
      -- behind a cell
      have next : ∀ (j5 : kw_I) (x : Int32), z_gD i j5 → (∀ y, y ≠ v → j5 100 y = i 100 y) → j5 100 v = nI (N (c + 1)).2.1 → j5 84 37 = nI (N (c + 1)).1 → j5 99 = j 99 → (∀ d, d < c → (N (c + 1)).2.2 d = (N c).2.2 d) → x = (N (c + 1)).2.2 c → w_X10_weaves_300 84 (nI v) 99 (nI (36 * v)) (nI (36 * (v + 1))) T n r w Q (w_X10_weaves_30 84 (nI v) 99 (nI (36 * v)) (nI (36 * (v + 1))) T n r w Q (k + 1)) (nI (z_W0 (i 86) v)) (nI c) 99 (nI (36 * (v + 1)) + nI c) x j5 := by
        intro j5 x c1 c2 c3 c4 c5 c6 c7
        unfold w_X10_weaves_300
        rw [nI_add, nI_clamp (by omega), nI_1]
        refine ⟨z_kin (z_T99 hS) (by omega) (by decide), fun j6 f6 => ?_⟩
        have o6 : ∀ b, b ≠ 99 → j6 b = j5 b := fun b hb => by rw [f6, kw_st_offF hb]
        have row : ∀ d, j6 99 d = if d = 36 * (v + 1) + c then x else j 99 d := fun d => by rw [f6, kw_st_row, c5]
        refine ih (c + 1) j6 (by omega) ⟨fun b b1 b2 b3 b4 => by rw [o6 b b3]; exact c1.1 b b1 b2 b3 b4, fun f f1 f2 f3 f5 => by rw [o6 84 (by decide)]; exact c1.2 f f1 f2 f3 f5⟩ (by rw [o6 100 (by decide)]; exact c2) (by rw [o6 100 (by decide)]; exact c3) (by rw [o6 84 (by decide)]; exact c4) (fun q hq => by rw [row, if_neg (by omega)]; exact g5 q hq) (fun d hd => ?_)
        rw [row]
        by_cases q : d = c
        · rw [if_pos (by omega), q]
          exact c7
        · rw [if_neg (by omega), c6 d (by omega)]
          exact g6 d (by omega)
      have e36 : (36 : Int32) * nI v + nI c = nI (36 * v + c) := by rw [show (36 : Int32) = nI 36 from rfl, pk_mul, nI_add]
      have c266 : ∀ (j5 : kw_I) (zz : Int64), (-1000000000000 ≤ zz.toInt ∧ zz.toInt ≤ 1000000000000) → j5 84 30 = -1 → (∀ col, z_Nr (z_W0 (i 86) v) zz.toInt col → w_X10_weaves_300 84 (nI v) 99 (nI (36 * v)) (nI (36 * (v + 1))) T n r w Q (w_X10_weaves_30 84 (nI v) 99 (nI (36 * v)) (nI (36 * (v + 1))) T n r w Q (k + 1)) (nI (z_W0 (i 86) v)) (nI c) 99 (nI (36 * (v + 1)) + nI c) (nI col) j5) → w_X10_weaves_266 84 (nI v) 99 (nI (36 * v)) (nI (36 * (v + 1))) T n r w Q (w_X10_weaves_30 84 (nI v) 99 (nI (36 * v)) (nI (36 * (v + 1))) T n r w Q (k + 1)) (nI (z_W0 (i 86) v)) (nI c) zz j5 := by
        intro j5 zz hzz c1 c2
        unfold w_X10_weaves_266
        rw [e36, c1]
        exact ⟨fun _ => z_near10 hW.1 hzz hW.2 c2, fun q => absurd q.symm (z_m1ne (by omega))⟩
      have n30 : j4 84 30 = -1 := by rw [p4 30 (by decide) (by decide) (by decide) (by decide), g1.2 30 (by decide) (by decide) (by decide) (by decide)]; exact h30
      have gD4 : z_gD i j4 := ⟨fun b b1 b2 b3 b4 => by rw [o4 b b1 b2]; exact g1.1 b b1 b2 b3 b4, fun f f1 f2 f3 f5 => by rw [p4 f f1 f2 f3 f5]; exact g1.2 f f1 f2 f3 f5⟩
      refine ⟨z_kin (k := 176) (z_T86 hS) (by decide) (by decide), fun q => ?_, fun q => ?_⟩
      · have hno : ¬ z_dw (N c).1 % 100 < sl := by
          have := (nI_leI (by omega) (by omega)).mp q
          omega
        have hh := hno
        rw [hN] at hh
        have Ns := z_dN_no hh
        rw [← hN] at Ns
        refine c266 j4 z hzb n30 (fun col hcol => next j4 _ gD4 (by rw [o4 100 (by decide) (by decide)]; exact g2) (by rw [o4 100 (by decide) (by decide), Ns]; exact g3) (by rw [f4, kw_st_same, Ns]) (o4 99 (by decide) (by decide)) (fun d hd => by rw [Ns]; exact if_neg (by omega)) ?_)
        rw [Ns]
        show nI col = if c = c then _ else _
        rw [if_pos rfl]
        have lf : z_left (fun c => j 99 (36 * (v + 1) + c)) c = z_left (N c).2.2 c := z_left_eq (fun d hd => g6 d hd)
        have ab : z_above (fun c => j 99 (36 * (v + 1) + c)) c = z_above (N c).2.2 c := z_above_eq (fun d hd => g6 d hd)
        rw [hz, efr, lf, ab] at hcol
        exact congrArg nI (z_nr_eq hcol).symm
      · have hyes : z_dw (N c).1 % 100 < sl := by
          rcases Nat.lt_or_ge (z_dw (N c).1 % 100) sl with y | y
          · exact y
          · exact absurd (nI_le y (by omega)) q
        have hh := hyes
        rw [hN] at hh
        have Ns := z_dN_yes hh
        rw [← hN] at Ns
        have n37 : j4 84 37 = nI (z_dw (N c).1) := by rw [f4, kw_st_same]
        refine z_draw10 (k := 8) lt1 (by decide) (by decide) n37 ?_
        have ⟨j5, f5⟩ : ∃ j5, j5 = kw_st j4 84 37 (nI (z_dw (z_dw (N c).1))) := ⟨_, rfl⟩
        rw [← f5]
        have o5 : ∀ b, b ≠ 84 → j5 b = j4 b := fun b hb => by rw [f5, kw_st_offF hb]
        have k100 : kw_in T 1 100 (nI v) := z_kin (z_T100 hS) (by omega) (by decide)
        refine ⟨k100, k100, fun j6 f6 => ?_⟩
        have o6 : ∀ b, b ≠ 84 → b ≠ 100 → j6 b = j4 b := fun b b1 b2 => by rw [f6, kw_st_offF b2, o5 b b1]
        have p6 : ∀ f, f ≠ 37 → j6 84 f = j4 84 f := fun f hf => by rw [f6, kw_st_off (by decide), f5, kw_st_row, if_neg hf]
        have r6 : ∀ x, j6 100 x = if x = v then j 100 v + 1 else j 100 x := fun x => by rw [f6, kw_st_row, o5 100 (by decide), o4 100 (by decide) (by decide)]
        refine c266 j6 _ ?_ (by rw [p6 30 (by decide)]; exact n30) (fun col hcol => next j6 _ ⟨fun b b1 b2 b3 b4 => by rw [o6 b b1 b4]; exact gD4.1 b b1 b2 b3 b4, fun f f1 f2 f3 f5 => by rw [p6 f f5]; exact gD4.2 f f1 f2 f3 f5⟩ (fun y hy => by rw [r6, if_neg hy]; exact g2 y hy) (by rw [r6, if_pos rfl, g3, nI_1, Ns]) (by rw [f6, kw_st_off (by decide), f5, kw_st_same, Ns]) (by rw [o6 99 (by decide) (by decide), o4 99 (by decide) (by decide)]) (fun d hd => by rw [Ns]; exact if_neg (by omega)) ?_)
        · rw [nI_l (by omega), lN_toInt (by omega)]
          omega
        · rw [Ns]
          show nI col = if c = c then _ else _
          rw [if_pos rfl]
          exact congrArg nI (z_nr_eq hcol).symm
  have c24 : ∀ s1 : Int32, nI (z_W0 (i 86) v) = i 86 (6 * v + 5) ||| s1 → w_X10_weaves_24 84 (nI v) 99 (nI (36 * v)) (nI (36 * (v + 1))) T n r w Q (i 86 (6 * v + 5)) s1 i := by
    intro s1 h
    refine ⟨qq + 1, ?_⟩
    rw [← h]
    refine loop qq 0 i (by omega) ⟨fun _ _ _ _ _ => rfl, fun _ _ _ _ _ => rfl⟩ (fun _ _ => rfl) ?_ ?_ (fun _ _ => rfl) (fun c hc => absurd hc (Nat.not_lt_zero c))
    · rw [h100, hN]
      rfl
    · rw [h37, hN]
      rfl
  refine ⟨fun h => c24 _ ?_, fun h => absurd (h.trans h28) (z_m1ne (by omega))⟩
  rw [eW, show (0 : Int32) = nI 0 from rfl, fa_or, Nat.or_zero]
theorem z_goesD {qq : Nat} (hqq : qq = 36) (hS : z_S T r) (hK : z_Kr (i 86) nv) (hL : i 86 180 ≠ -1 → ∃ j, j < 6 ∧ i 86 180 = nI j ∧ z_toks (i 86) j L) (h27 : i 84 27 = 0) (h28 : i 84 28 = -1) (h30 : i 84 30 = -1) (h32 : i 84 32 = 1) {sl s : Nat} (hsl : sl < 101) (esl : i 86 176 = nI sl) (hs : s < 1000003) (h37 : i 84 37 = nI s) (h100 : ∀ v, v < nv → i 100 v = 0) {f : Nat → Int32} (hf : ∀ c, c < 36 → i 99 c = f c) (hB : ∀ c, c < 36 → z_B (f c) 8) {Q : kw_I → Prop}
    (hQ : ∀ i', z_gD i i' → (∀ v, v < nv → i' 100 v = nI (z_dc qq (z_E0 (i 86) L) sl s f v)) → (∀ m, m ≤ nv → ∀ c, c < 36 → i' 99 (36 * m + c) = (z_dg qq (z_E0 (i 86) L) sl s f m).2 c) → Q i') : w_X10_goes 84 99 (nI 0) T n r i w Q := by
  have hn := hK.1
  have ⟨G, hG⟩ : ∃ G, G = z_dg qq (z_E0 (i 86) L) sl s f := ⟨_, rfl⟩
  have Glt : ∀ m, (G m).1 < 1000003 := by rw [hG]; exact z_dg_lt hs
  have GB : ∀ m, m ≤ nv → ∀ c, c < 36 → z_B ((G m).2 c) 8 := by rw [hG]; exact z_dg_B hqq hB (fun v hv => (z_Kr_W hK hv).1) (fun _ _ => rfl)
  rw [← hG] at hQ
  have loop : ∀ (d v : Nat) (j : kw_I), v + d = nv → z_gD i j → (∀ v', v ≤ v' → v' < nv → j 100 v' = 0) → (∀ v', v' < v → j 100 v' = nI (z_dc qq (z_E0 (i 86) L) sl s f v')) → j 84 37 = nI (G v).1 → (∀ m, m ≤ v → ∀ c, c < 36 → j 99 (36 * m + c) = (G m).2 c) → w_X10_goes_2 84 99 (nI 0) T n r w Q (d + 1) (nI v) j := by
    intro d
    induction d with
    | zero =>
      intro v j hd g1 g2 g3 g4 g5
      have : v = nv := by omega
      subst this
      show s_X10_goes_2 84 99 (nI 0) T n r w _ _ (nI _) j
      unfold s_X10_goes_2
      refine z_villages hS ?_
      rw [g1.1 86 (by decide) (by decide) (by decide) (by decide), hK.2.1]
      exact ⟨fun _ => hQ j g1 g3 g5, fun q => absurd (nI_le (Nat.le_refl _) (by omega)) q⟩
    | succ d ih =>
      intro v j hd g1 g2 g3 g4 g5
      have hv : v < nv := by omega
      have e86 : j 86 = i 86 := g1.1 86 (by decide) (by decide) (by decide) (by decide)
      show s_X10_goes_2 84 99 (nI 0) T n r w _ _ (nI _) j
      unfold s_X10_goes_2
      refine z_villages hS ?_
      rw [e86, hK.2.1, nI_1, show (36 : Int32) * nI v = nI (36 * v) from pk_mul 36 v, show (36 : Int32) * nI (v + 1) = nI (36 * (v + 1)) from pk_mul 36 (v + 1)]
      refine ⟨fun q => absurd q (nI_ge hv (by omega)), fun _ => ?_⟩
      refine z_weavesD (L := L) (sl := sl) (s := (G v).1) (f := (G v).2) hqq hS (by rw [e86]; exact hK) hv (by rw [e86]; exact hL) (by rw [g1.2 27 (by decide) (by decide) (by decide) (by decide)]; exact h27) (by rw [g1.2 28 (by decide) (by decide) (by decide) (by decide)]; exact h28) (by rw [g1.2 30 (by decide) (by decide) (by decide) (by decide)]; exact h30) (by rw [g1.2 32 (by decide) (by decide) (by decide) (by decide)]; exact h32) hsl (by rw [e86]; exact esl) (Glt v) g4 (g2 v (Nat.le_refl _) hv) (g5 v (Nat.le_refl _)) (GB v (by omega)) fun j2 b1 b2 b3 b4 b5 b6 => ?_
      rw [e86] at b3 b4 b6
      have GN : G (v + 1) = ((z_dN (z_E0 (i 86) L) sl v (G v).2 (G v).1 qq).1, (z_dN (z_E0 (i 86) L) sl v (G v).2 (G v).1 qq).2.2) := by rw [hG]; rfl
      refine ih (v + 1) j2 (by omega) ⟨fun b x1 x2 x3 x4 => (b1.1 b x1 x2 x3 x4).trans (g1.1 b x1 x2 x3 x4), fun f x1 x2 x3 x4 => (b1.2 f x1 x2 x3 x4).trans (g1.2 f x1 x2 x3 x4)⟩ (fun v' h1 h2 => by rw [b2 v' (by omega)]; exact g2 v' (by omega) h2) (fun v' hv' => ?_) (by rw [b4, GN]) (fun m hm c hc => ?_)
      · by_cases q : v' = v
        · rw [q, b3]
          unfold z_dc
          rw [← hG]
        · rw [b2 v' q]
          exact g3 v' (by omega)
      · by_cases q : m = v + 1
        · rw [q, b6 c hc, GN]
        · rw [b5 _ (Or.inl (by omega))]
          exact g5 m (by omega) c hc
  refine ⟨nv + 1, loop nv 0 i (by omega) ⟨fun _ _ _ _ _ => rfl, fun _ _ _ _ _ => rfl⟩ (fun v' _ h2 => h100 v' h2) (fun v' hv' => absurd hv' (Nat.not_lt_zero v')) (by rw [h37, hG]; rfl) (fun m hm c hc => ?_)⟩
  have : m = 0 := by omega
  subst this
  rw [show 36 * 0 + c = c by omega, hf c hc, hG]
  rfl
end ZDM
/-- weavers may be others -/
theorem z_Inv_wv {T : kw_T} {n : Nat} {r : kw_R} {i i' : kw_I} {w w' : kw_L} (h : z_Inv T n r i w) (hi : ∀ b, b ≠ 1 → b ≠ 29 → ¬ (70 ≤ b ∧ b ≤ 82) → b ≠ 84 → b ≠ 95 → b ≠ 99 → b ≠ 100 → i' b = i b) (h29 : i' 29 8 = i 29 8) (hw : z_wo 28 w w') (h1 : ∀ f, f ≠ 9 → i' 1 f = i 1 f) (h19 : i' 1 9 = 0) (h840 : i' 84 0 = 0) (h84 : i' 84 5 = i 84 5 ∧ i' 84 9 = i 84 9 ∧ i' 84 10 = i 84 10) (hdr : z_dr i') : z_Inv T n r i' w' := by
  obtain ⟨c1, c2, ⟨n1, n2, n3⟩, c4, c5, c6, c7, c8, c9, c10⟩ := h
  have o : ∀ b, b ≠ 1 → b ≠ 29 → (b < 70 ∨ 82 < b) → b ≠ 84 → b ≠ 95 → b ≠ 99 → b ≠ 100 → i' b = i b := fun b b1 b2 b3 b4 b5 b6 b7 => hi b b1 b2 (by omega) b4 b5 b6 b7
  have e86 : i' 86 = i 86 := o 86 (by decide) (by decide) (by decide) (by decide) (by decide) (by decide) (by decide)
  have lo : ∀ b, 2 ≤ b → b < 29 → i' b = i b := fun b b1 b2 => o b (by omega) (by omega) (by omega) (by omega) (by omega) (by omega) (by omega)
  have md : ∀ b, 30 ≤ b → b < 70 → i' b = i b := fun b b1 b2 => o b (by omega) (by omega) (by omega) (by omega) (by omega) (by omega) (by omega)
  have hg : ∀ b, 85 ≤ b → b < 95 → i' b = i b := fun b b1 b2 => o b (by omega) (by omega) (by omega) (by omega) (by omega) (by omega) (by omega)
  have hd : ∀ b, 103 ≤ b → i' b = i b := fun b hb => o b (by omega) (by omega) (by omega) (by omega) (by omega) (by omega) (by omega)
  refine ⟨c1, c2, ⟨?_, ?_, ?_⟩, ?_, ?_, ?_, hdr, ?_, ?_, ?_⟩
  · rw [e86]
    exact z_SK_eq n1 (by rw [lo 2 (by decide) (by decide)]; exact ⟨rfl, rfl, rfl⟩) (fun b b1 b2 => lo b (by omega) (by omega)) (fun _ _ => rfl)
  · rw [e86]; exact n2
  · rw [e86]
    exact z_laws_eq n3 (fun _ _ => rfl) (fun _ _ _ => rfl) (fun a b ha _ c1 _ => hd b (by omega))
  · exact z_im_eq c4 (hg 87 (by decide) (by decide)) (hg 88 (by decide) (by decide)) hd
  · rw [lo 18 (by decide) (by decide), lo 19 (by decide) (by decide), h84.2.1, hg 90 (by decide) (by decide)]
    exact c5
  · obtain ⟨a1, a2, a3, a4⟩ := c6
    rw [h1 10 (by decide), h1 11 (by decide), o 83 (by decide) (by decide) (by decide) (by decide) (by decide) (by decide) (by decide), h84.1, h84.2.2, hg 85 (by decide) (by decide)]
    exact ⟨by rw [h19, h840], a2, a3, a4⟩
  · rw [hg 89 (by decide) (by decide)]; exact c8
  · rw [lo 24 (by decide) (by decide)]; exact c9
  · intro q
    rw [h1 12 (by decide)] at q
    obtain ⟨nv, L, k1, k2, k3, k4⟩ := c10 q
    rw [e86]
    exact ⟨nv, L, k1, k2, z_rd_eq k3 (lo 24 (by decide) (by decide)) (lo 26 (by decide) (by decide)) (lo 27 (by decide) (by decide)) h29 hd (hw 25 (by decide)) (by rw [lo 23 (by decide) (by decide)]) (fun b b1 b2 => md b (by omega) (by omega)) k1.1, z_gs_eq k4 (by rw [md 52 (by decide) (by decide)]; exact ⟨rfl, rfl, rfl⟩) (fun b b1 b2 => md b (by omega) (by omega))⟩
theorem z_C27 : lw_C27 z_Inv := by
  intro T n r i w x h hn
  have hS := h.1
  have hb := z_B_le (x := x) (m := 1000000) (by decide)
  have no : ¬ z_B x 1000001 → w_X9_weavers_10 1 x T n (fun v r1 i1 w1 => T 84 = (0, 10) ∧ w_X10_weavers 84 x T n r1 i1 w1 (fun v2 i2 => v = v2 ∧ lw_N z_Inv n T n r1 i2 w1)) r i w := by
    intro hq
    exact z_refb h z_rf1 (m10 := fun i1 Q => w_X10_weavers 84 x T n r i1 w Q) (fun i1 Q o hQ => z_lies (m := 1000000) (by decide) (fun a => absurd a hq) (fun _ => z_f2 (z_ref10e hS z_rf1 hQ)))
  refine ⟨fun c => no (fun z => (hb.mp z).1 c), fun c => ⟨fun c2 => ?_, fun c2 => no (fun z => c2 (hb.mp z).2)⟩⟩
  obtain ⟨s0, hs0, rfl⟩ : z_B x 1000001 := hb.mpr ⟨c, c2⟩
  refine z_weaveIf h fun r' i' w' nv L hf o86 o2 => ?_
  have hS' := hf.1.1
  have hK := hf.2.2.1
  have hn10 := hK.1
  obtain ⟨sl, hsl, esl⟩ := hK.2.2.2.2.2.1
  obtain ⟨qq, hqq⟩ : ∃ qq : Nat, qq = 36 := ⟨_, rfl⟩
  have e10 : r' 10 ((0 : Int32)).toNatClampNeg = 11 := z_r10_0 hS'
  rw [z_r1_4 hS', z_r1_7 hS', z_r23_0 hS', z_r1_0 hS', z_r2_1 hS', e10]
  refine ⟨z_T23 hS', z_T70 hS', z_weaveAll8 hqq hf (s0 := s0) (by omega) hsl esl fun a i2 w2 a1 a2 a3 a4 a5 a6 a7 => ⟨z_T2 hS', z_kin (k := 0) (z_T10 hS') (by decide) (by decide), z_like9 a1 (z_T11 hS') fun i3 e3 => ⟨z_T84 hS', ?_⟩⟩⟩
  have ⟨G, hG⟩ : ∃ G, G = z_dg qq (z_E0 (i' 86) L) sl s0 (fun c => i' 86 (60 + c)) := ⟨_, rfl⟩
  rw [← hG] at a6 a7
  have e11 : ∀ c, c < 36 → i2 11 c = i' 86 (60 + c) := fun c hc => by
    rw [a2 11 (by decide) (by decide) (by decide)]
    exact hf.1.2.2.1.1.2.1 0 c (by decide) hc
  rw [z_lk_eq a7 e11]
  have o3 : ∀ b, b ≠ 1 → b ≠ 29 → (b < 70 ∨ 82 < b) → i3 b = i' b := fun b b1 b2 b3 => by rw [e3, kw_st_offF b1, a2 b b2 (by omega) (by omega)]
  have m86 : i3 86 = i' 86 := o3 86 (by decide) (by decide) (by decide)
  refine z_lies (m := 1000000) (by decide) (fun _ => z_t2 (z_plain fun j p1 p2 j2 f2 => z_villages hS' fun j3 f3 => ?_)) (fun q => absurd ⟨s0, hs0, rfl⟩ q)
  have q3 : ∀ b, b ≠ 84 → j3 b = i3 b := fun b hb => by rw [f3, kw_st_offF hb, f2, kw_st_offF hb, p1.1 b hb]
  have j386 : j2 86 178 = nI nv := by rw [f2, kw_st_off (by decide), p1.1 86 (by decide), m86]; exact hK.2.1
  rw [j386] at f3
  have p3 : ∀ f, f ≠ 36 → f ≠ 37 → j3 84 f = j 84 f := fun f x1 x2 => by rw [f3, kw_st_row, if_neg x1, f2, kw_st_row, if_neg x2]
  have e36 : j3 84 36 = nI nv := by rw [f3, kw_st_same]
  have e37 : j3 84 37 = nI s0 := by rw [f3, kw_st_row, if_neg (by decide), f2, kw_st_same]
  refine ⟨11, ?_⟩
  have ⟨R, hR⟩ : ∃ R, R = nI (z_lk (G nv).2 (fun c => i' 86 (60 + c))) := ⟨_, rfl⟩
  rw [← hR]
  have zero : ∀ (d k : Nat) (m : kw_I), k + d = 10 → z_io 100 j3 m → (∀ k', k' < k → m 100 k' = 0) → w_X10_weavers_35 84 (nI s0) T n r' w2 (fun v2 i2 => R = v2 ∧ lw_N z_Inv n T n r' i2 w2) (d + 1) (nI k) m := by
    intro d
    induction d with
    | zero =>
      intro k m hk g1 g2
      have : k = 10 := by omega
      subst this
      refine ⟨fun _ => ⟨37, ?_⟩, fun q => absurd (by decide) q⟩
      have copy : ∀ (d c : Nat) (m2 : kw_I), c + d = 36 → z_io 99 m m2 → (∀ c', c' < c → m2 99 c' = i' 86 (60 + c')) → w_X10_weavers_56 84 (nI s0) T n r' w2 (fun v2 i2 => R = v2 ∧ lw_N z_Inv n T n r' i2 w2) (d + 1) (nI c) m2 := by
        intro d
        induction d with
        | zero =>
          intro c m2 hc g3 g4
          have : c = 36 := by omega
          subst this
          show s_X10_weavers_56 84 (nI s0) T n r' w2 _ _ (nI 36) m2
          unfold s_X10_weavers_56
          rw [z_r84_25 hS', z_r84_2 hS']
          refine ⟨fun _ m4 f4 => ?_, fun q => absurd (by decide) q⟩
          have o4 : ∀ b, b ≠ 84 → b ≠ 99 → b ≠ 100 → m4 b = i3 b := fun b b1 b2 b3 => by rw [f4, kw_st_offF b1, g3 b b2, g1 b b3, q3 b b1]
          have p4 : ∀ f, f ≠ 32 → m4 84 f = j3 84 f := fun f hf => by rw [f4, kw_st_row, if_neg hf, g3 84 (by decide), g1 84 (by decide)]
          have n86 : m4 86 = i' 86 := (o4 86 (by decide) (by decide) (by decide)).trans m86
          have r99 : m4 99 = m2 99 := by rw [f4, kw_st_offF (by decide)]
          have r100 : m4 100 = m 100 := by rw [f4, kw_st_offF (by decide), g3 100 (by decide)]
          refine z_goesD (L := L) (sl := sl) (s := s0) (f := fun c => i' 86 (60 + c)) hqq hS' (by rw [n86]; exact hK) (by rw [n86]; exact hf.2.2.2.1) (by rw [p4 27 (by decide), p3 27 (by decide) (by decide)]; exact p2.1) (by rw [p4 28 (by decide), p3 28 (by decide) (by decide)]; exact p2.2.1) (by rw [p4 30 (by decide), p3 30 (by decide) (by decide)]; exact p2.2.2.2.1) (by rw [f4, kw_st_same]) hsl (by rw [n86]; exact esl) (by omega) (by rw [p4 37 (by decide)]; exact e37) (fun v hv => by rw [r100]; exact g2 v (by omega)) (fun c hc => by rw [r99]; exact g4 c hc) (fun c hc => hK.2.2.2.1 0 c (by decide) hc) fun m5 b1 b2 b3 m6 f6 => z_villages hS' ?_
          rw [n86, ← hG] at b3
          have o6 : ∀ b, b ≠ 84 → b ≠ 95 → b ≠ 99 → b ≠ 100 → m6 b = i3 b := fun b c1 c2 c3 c4 => by rw [f6, kw_st_offF c1, b1.1 b c1 c2 c3 c4, o4 b c1 c3 c4]
          have k86 : m6 86 = i' 86 := (o6 86 (by decide) (by decide) (by decide) (by decide)).trans m86
          have r6 : m6 99 = m5 99 := by rw [f6, kw_st_offF (by decide)]
          have s6 : m6 100 = m5 100 := by rw [f6, kw_st_offF (by decide)]
          rw [k86, hK.2.1, show (36 : Int32) * nI nv = nI (36 * nv) from pk_mul 36 nv]
          refine z_like10 (fb := 60) (z_T99 hS') (z_T86 hS') (by omega) (by omega) (by decide) (by decide) fun m7 f7 => ?_
          refine ⟨?_, ?_, by omega⟩
          · rw [hR]
            refine congrArg nI (z_lk_eq (fun c hc => ?_) (fun c hc => by rw [k86]))
            rw [r6]
            exact (b3 nv (Nat.le_refl _) c hc).symm
          · have o7 : ∀ b, b ≠ 84 → b ≠ 95 → b ≠ 99 → b ≠ 100 → m7 b = i3 b := fun b c1 c2 c3 c4 => by rw [f7, kw_st_offF c1, o6 b c1 c2 c3 c4]
            have p7 : ∀ f, f ≠ 0 → f ≠ 18 → f ≠ 19 → f ≠ 20 → f ≠ 32 → f ≠ 37 → m7 84 f = j3 84 f := fun f c1 c2 c3 c4 c5 c6 => by rw [f7, kw_st_row, if_neg c1, f6, kw_st_row, if_neg c5, b1.2 f c2 c3 c4 c6, p4 f c5]
            have p8 : ∀ f, f ≠ 0 → f < 18 → m7 84 f = i' 84 f := fun f c1 c2 => by
              rw [p7 f c1 (by omega) (by omega) (by omega) (by omega) (by omega), p3 f (by omega) (by omega), p1.2 f (by omega), o3 84 (by decide) (by decide) (by decide)]
            refine z_Inv_wv hf.1 (fun b c1 c2 c3 c4 c5 c6 c7 => by rw [o7 b c4 c5 c6 c7]; exact o3 b c1 c2 (by omega)) ?_ a5 (fun f hf' => ?_) ?_ ?_ ⟨p8 5 (by decide) (by decide), p8 9 (by decide) (by decide), p8 10 (by decide) (by decide)⟩ ⟨nv, hn10, ?_, ?_, fun v hv => ⟨?_, fun c hc => ?_⟩⟩
            · rw [o7 29 (by decide) (by decide) (by decide) (by decide), e3, kw_st_off (by decide)]; exact a3
            · rw [o7 1 (by decide) (by decide) (by decide) (by decide), e3, kw_st_row, if_neg hf', a2 1 (by decide) (by decide) (by decide)]
            · rw [o7 1 (by decide) (by decide) (by decide) (by decide), e3, kw_st_same]
            · rw [f7, kw_st_same]
            · rw [o7 70 (by decide) (by decide) (by decide) (by decide), e3, kw_st_off (by decide)]; exact a4
            · rw [p7 36 (by decide) (by decide) (by decide) (by decide) (by decide) (by decide)]; exact e36
            · rw [o7 82 (by decide) (by decide) (by decide) (by decide), e3, kw_st_off (by decide), (a6 v hv).1, f7, kw_st_off (by decide), s6, b2 v hv, n86]
            · rw [o7 (72 + v) (by omega) (by omega) (by omega) (by omega), e3, kw_st_off (by omega), (a6 v hv).2 c hc, f7, kw_st_off (by decide), r6, b3 (v + 1) (by omega) c hc]
        | succ d ih =>
          intro c m2 hc g3 g4
          show s_X10_weavers_56 84 (nI s0) T n r' w2 _ _ (nI c) m2
          unfold s_X10_weavers_56
          rw [z_r84_25 hS', z_r84_2 hS', show (60 : Int32) + nI c = nI (60 + c) from nI_add 60 c, nI_clamp (show 60 + c < 2 ^ 31 by omega), nI_clamp (show c < 2 ^ 31 by omega), nI_1]
          refine ⟨fun q => absurd q (nI_ge (b := 36) (by omega) (by decide)), fun _ => ⟨z_kin (z_T86 hS') (by omega) (by decide), z_kin (z_T99 hS') (by omega) (by decide), fun m4 f4 => ih (c + 1) m4 (by omega) (by rw [f4]; exact z_io_st g3) (fun c' hc' => ?_)⟩⟩
          rw [f4, kw_st_row]
          by_cases q : c' = c
          · rw [if_pos q, q, g3 86 (by decide), g1 86 (by decide), q3 86 (by decide), m86]
          · rw [if_neg q]
            exact g4 c' (by omega)
      exact copy 36 0 m (by omega) (fun _ _ => rfl) (fun c' hc' => absurd hc' (Nat.not_lt_zero c'))
    | succ d ih =>
      intro k m hk g1 g2
      show s_X10_weavers_35 84 (nI s0) T n r' w2 _ _ (nI k) m
      unfold s_X10_weavers_35
      rw [z_r84_26 hS', nI_clamp (by omega), nI_1]
      refine ⟨fun q => absurd q (nI_ge (b := 10) (by omega) (by decide)), fun _ => ⟨z_kin (z_T100 hS') (by omega) (by decide), fun m2 f2 => ih (k + 1) m2 (by omega) (by rw [f2]; exact z_io_st g1) (fun k' hk' => ?_)⟩⟩
      rw [f2, kw_st_row]
      by_cases q : k' = k
      · rw [if_pos q]
      · rw [if_neg q]
        exact g2 k' (by omega)
  exact zero 10 0 j3 (by omega) (fun _ _ => rfl) (fun k' hk' => absurd hk' (Nat.not_lt_zero k'))
