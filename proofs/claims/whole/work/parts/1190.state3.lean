theorem z_C1 : lw_C1 z_Inv := by
  intro T n r i w x1 x2 x3 h hn
  have hS := h.1
  have h0 := z_T84 hS
  obtain ⟨nv, hv, e1, e2, hK⟩ := z_Inv_nv h
  -- what may be put: k is 0 (taste) or 1 (wool)
  have refused : ¬ ((x2 = 0 ∧ z_B x3 8) ∨ (x2 = 1 ∧ ¬ x3 < 1 ∧ ¬ (255 : Int32) < x3)) → ∀ i1 Q, (∀ b, b ≠ 1 → b ≠ 83 → i1 b = i b) → (∀ i2, i2 = kw_st (kw_st i1 84 0 (-1)) 85 1 (i1 85 1 + 1) → Q (-1) i2) → w_X10_put 84 x1 x2 x3 T n r i1 w Q := by
    intro hq i1 Q o hQ
    have c29 : w_X10_put_29 84 x1 x2 x3 T n r w Q i1 := z_ref10e hS z_rf1 hQ
    refine z_lies (m := 1) (by decide) (fun a => z_t ⟨fun e => ?_, fun e => ?_⟩) (fun _ => z_f c29)
    · obtain ⟨k, hk, rfl⟩ := a
      have : k = 1 := by
        rcases (show k = 0 ∨ k = 1 by omega) with rfl | rfl
        · exact absurd rfl e
        · rfl
      subst this
      refine z_lies_f ?_ (z_f2 c29)
      by_cases c1 : x3 < 1
      · exact Or.inl c1
      · by_cases c2 : (255 : Int32) < x3
        · exact Or.inr c2
        · exact absurd (Or.inr ⟨rfl, c1, c2⟩) hq
    · rw [e]
      exact z_lies (m := 7) (by decide) (fun b => absurd (Or.inl ⟨e, b⟩) hq) (fun _ => z_f2 c29)
  have done : ∀ k : Nat, k < 2 → x2 = nI k → (k = 0 → z_B x3 8) → (k = 1 → ¬ x3 < 1 ∧ ¬ (255 : Int32) < x3) → ∀ v : Nat, v < nv → x1 = nI v → w_X9_put_90 1 (nI v) x2 x3 T n r w (fun v i1 => T 84 = (0, 10) ∧ w_X10_put 84 x1 x2 x3 T n r i1 w (fun v2 i2 => v = v2 ∧ lw_N z_Inv n T n r i2 w)) 3 (nI (4 + k)) i := by
    intro k hk ek t0 t1 v hv2 ev
    subst ek
    unfold w_X9_put_90
    have er : r 3 (nI (4 + k)).toNatClampNeg = 8 + k := by
      rcases (show k = 0 ∨ k = 1 by omega) with rfl | rfl
      · exact z_r3_4 hS
      · exact z_r3_5 hS
    have eT : T (8 + k) = (1, 10) := by
      rcases (show k = 0 ∨ k = 1 by omega) with rfl | rfl
      · exact z_T8 hS
      · exact z_T9 hS
    rw [er, nI_clamp (by omega)]
    have kv : kw_in T 1 (8 + k) (nI v) := z_kin eT (by omega) (by decide)
    refine ⟨z_kin (z_T3 hS) (by omega) (by decide), kv, kv, fun i51 e51 j1 q1 j2 q2 => ⟨h0, ?_⟩⟩
    have o86 : j2 86 = i 86 := by rw [q2, q1, e51, kw_st_offF (by decide), kw_st_offF (by decide), kw_st_offF (by omega)]
    have o84 : j2 84 = i 84 := by rw [q2, q1, e51, kw_st_offF (by decide), kw_st_offF (by decide), kw_st_offF (by omega)]
    subst ev
    have fin : ∀ s1 s2 : Int32, ¬ x3 < s1 → ¬ s2 < x3 → w_X10_put_23 84 (nI v) (nI k) x3 T n r w (fun v2 i2 => i (8 + k) v = v2 ∧ lw_N z_Inv n T n r i2 w) x3 s1 s2 j2 := by
      intro s1 s2 b1 b2
      refine z_lies_t b1 b2 (z_t2 (z_isV10 hS (by rw [o86]; exact e1) hv (fun _ => z_t2 ?_) (fun q => absurd ⟨v, hv2, rfl⟩ q)))
      have e4 : (4 : Int32) + nI k = nI (4 + k) := nI_add 4 k
      have e64 : (6 : Int32) * nI v + (4 : Int32) + nI k = nI (6 * v + 4 + k) := by rw [show (6 : Int32) = nI 6 from rfl, show (4 : Int32) = nI 4 from rfl, pk_mul, nI_add, nI_add]
      rw [e4, e64]
      refine z_factOf hS (by omega) (by omega) ?_
      rw [z_r84_2 hS, nI_clamp (by omega), o86]
      refine ⟨z_kin (z_T86 hS) (by omega) (by decide), fun i56 e56 i9 e9 => ⟨?_, ?_, by omega⟩⟩
      · have := h.2.2.1.1.1 (4 + k) v (by omega) (by omega)
        rw [show 2 + 2 + (4 + k) = 8 + k by omega] at this
        exact this
      have K' : ∀ p, i9 86 p = if p = 6 * v + 4 + k then x3 else i 86 p := by
        intro p
        rw [e9, kw_st_off (by decide), e56, kw_st_row, o86]
      have rows : ∀ b, b ≠ 84 → b ≠ 86 → i9 b = j2 b := fun b b1 b2 => by rw [e9, kw_st_offF b1, e56, kw_st_offF b2]
      have old : ∀ b, b ≠ 1 → b ≠ 8 + k → b ≠ 84 → b ≠ 86 → i9 b = i b := fun b b1 b3 b4 b5 => by
        rw [rows b b4 b5, q2, kw_st_offF b1, q1, kw_st_offF b1, e51, kw_st_offF b3]
      have rp : ∀ p, i9 (8 + k) p = if p = v then x3 else i (8 + k) p := fun p => by
        rw [rows _ (by omega) (by omega), q2, kw_st_off (by omega), q1, kw_st_off (by omega), e51, kw_st_row]
      have kk : ∀ p, 60 ≤ p → i9 86 p = i 86 p := fun p hp => by rw [K', if_neg (by omega)]
      refine z_Inv_ch h (fun b b1 b2 b4 b5 => old b b1 (by omega) b4 b5) ?_ ?_ (fun f f1 f2 => ?_) ?_ (fun f f1 => ?_) ?_ ⟨nv, ?_⟩ (kk 179 (by decide)) (fun k hk => kk k (by omega)) (Or.inl (kk 180 (by decide)))
      · rw [rows 1 (by decide) (by decide), q2, kw_st_row, if_neg (by decide), q1, kw_st_same]
      · rw [rows 1 (by decide) (by decide), q2, kw_st_same]
      · rw [rows 1 (by decide) (by decide), q2, kw_st_row, if_neg f1, q1, kw_st_row, if_neg f2, e51, kw_st_off (by omega)]
      · rw [e9, kw_st_same]
      · rw [e9, kw_st_row, if_neg f1, e56, kw_st_off (by decide), o84]
      · refine z_SK_tr h.2.2.1.1 (v := v) (by omega) (p := fun j => decide (j = 4 + k)) (new := fun _ => x3) (fun j v' hj => ?_) (fun q _ _ => ?_) (fun b b1 b2 => old b (by omega) (by omega) (by omega) (by omega)) (by rw [old 2 (by decide) (by omega) (by decide) (by decide), kk 178 (by decide)]; exact h.2.2.1.1.2.2.2.2.1) (by rw [old 2 (by decide) (by omega) (by decide) (by decide)]) (by rw [old 2 (by decide) (by omega) (by decide) (by decide)])
        · simp only [decide_eq_true_iff]
          by_cases ej : j = 4 + k
          · subst ej
            rw [show 4 + (4 + k) = 8 + k by omega, rp]
            by_cases ev : v' = v
            · rw [if_pos ev, if_pos ⟨ev, rfl⟩]
            · rw [if_neg ev, if_neg (fun z => ev z.1)]
          · rw [old _ (by omega) (by omega) (by omega) (by omega), if_neg (fun z => ej z.2)]
        · simp only [decide_eq_true_iff]
          rw [K']
          by_cases eq : q = 6 * v + 4 + k
          · rw [if_pos eq, if_pos (by omega)]
          · rw [if_neg eq, if_neg (by omega)]
      · obtain ⟨k1, k2, k3, k4, k5', k6, k7⟩ := hK
        refine ⟨k1, by rw [kk 178 (by decide)]; exact k2, fun v' hv' => ?_, fun q' c' hq' hc' => by rw [kk _ (by omega)]; exact k4 q' c' hq' hc', fun c hc => by rw [kk _ (by omega)]; exact k5' c hc, by rw [kk _ (by decide)]; exact k6, by rw [kk _ (by decide)]; exact k7⟩
        obtain ⟨g1, g2, g3⟩ := k3 v' hv'
        refine ⟨?_, ?_, ?_⟩
        · rw [K', if_neg (by omega), K', if_neg (by omega), K', if_neg (by omega), K', if_neg (by omega)]
          exact g1
        · rw [K']
          by_cases eq : 6 * v' + 4 = 6 * v + 4 + k
          · rw [if_pos eq]
            exact t0 (by omega)
          · rw [if_neg eq]
            exact g2
        · rw [K']
          by_cases eq : 6 * v' + 5 = 6 * v + 4 + k
          · rw [if_pos eq]
            have := t1 (by omega)
            have b2 : ¬ x3 < 0 := by
              have := this.1
              rw [fa_lt] at this ⊢
              have e1 : (1 : Int32).toInt = 1 := by decide
              have e0 : (0 : Int32).toInt = 0 := by decide
              omega
            obtain ⟨W, hW, rfl⟩ := nI_of b2
            refine ⟨W, ?_, ?_, rfl⟩
            · rcases Nat.lt_or_ge W 1 with q | q
              · exact absurd (nI_lt (b := 1) q (by decide)) this.1
              · exact q
            · rcases Nat.lt_or_ge 255 W with q | q
              · exact absurd (nI_lt (a := 255) q hW) this.2
              · omega
          · rw [if_neg eq]
            exact g3
    refine z_lies (m := 1) (by decide) (fun _ => z_t ⟨fun e => ?_, fun e => ?_⟩) (fun q => absurd ⟨k, by omega, rfl⟩ q)
    · have : k = 1 := by
        rcases (show k = 0 ∨ k = 1 by omega) with rfl | rfl
        · exact absurd rfl e
        · rfl
      subst this
      have := t1 rfl
      exact fin 1 255 this.1 this.2
    · have : k = 0 := (nI_eq (b := 0) (by omega) (by decide)).mp e
      subst this
      have := (z_B_le (m := 7) (by decide)).mp (t0 rfl)
      exact fin 0 7 this.1 (Int32.not_lt.mpr this.2)
  -- a village or none
  have c58 : ∀ x4 : Int32, ((x4 = 1 ∧ x2 = 0 ∧ z_B x3 8) ∨ (x4 = 0 ∧ x2 = 1 ∧ ¬ x3 < 1 ∧ ¬ (255 : Int32) < x3)) → w_X9_put_58 1 x1 x2 x3 T n r w (fun v i1 => T 84 = (0, 10) ∧ w_X10_put 84 x1 x2 x3 T n r i1 w (fun v2 i2 => v = v2 ∧ lw_N z_Inv n T n r i2 w)) x4 i := by
    intro x4 hx
    unfold w_X9_put_58
    rw [z_r1_0 hS, z_r2_0 hS]
    refine z_isV9 hS e2 hv (fun bv => z_t2 ⟨z_T2 hS, fun c => ?_, fun c => ?_⟩) (fun bv => z_f2 ?_)
    · obtain ⟨v, hv2, rfl⟩ := bv
      rcases hx with ⟨e, _⟩ | ⟨_, e, t⟩
      · rw [e] at c
        exact absurd c (by decide)
      · exact done 1 (by decide) e (fun q => by omega) (fun _ => t) v hv2 rfl
    · obtain ⟨v, hv2, rfl⟩ := bv
      rcases hx with ⟨_, e, t⟩ | ⟨e, _⟩
      · exact done 0 (by decide) e (fun _ => t) (fun q => by omega) v hv2 rfl
      · exact absurd e c
    · refine z_refb h z_rf2 (m10 := fun i1 Q => w_X10_put 84 x1 x2 x3 T n r i1 w Q) (fun i1 Q o hQ => ?_)
      have last : ∀ s1 s2 : Int32, ¬ x3 < s1 → ¬ s2 < x3 → w_X10_put_23 84 x1 x2 x3 T n r w Q x3 s1 s2 i1 := fun s1 s2 b1 b2 => z_lies_t b1 b2 (z_t2 (z_isV10 hS (by rw [o 86 (by decide) (by decide)]; exact e1) hv (fun q => absurd q bv) (fun _ => z_f2 (z_ref10e hS z_rf2 hQ))))
      rcases hx with ⟨_, e, t⟩ | ⟨_, e, t1, t2⟩
      · refine z_lies (m := 1) (by decide) (fun _ => z_t ⟨fun q => absurd e q, fun _ => ?_⟩) (fun q => absurd ⟨0, by decide, e⟩ q)
        have := (z_B_le (m := 7) (by decide)).mp t
        rw [e]
        rw [e] at last
        exact last 0 7 this.1 (Int32.not_lt.mpr this.2)
      · refine z_lies (m := 1) (by decide) (fun _ => z_t ⟨fun _ => ?_, fun q => absurd (e.symm.trans q) (by decide)⟩) (fun q => absurd ⟨1, by decide, e⟩ q)
        rw [e]
        rw [e] at last
        exact last 1 255 t1 t2
  have c40 : ∀ x4 s0 : Int32, ((x4 = 1 ∧ x2 = 0 ∧ z_B x3 8) ∨ (x4 = 0 ∧ s0 = 1 ∧ x2 = 1 ∧ ¬ x3 < 1 ∧ ¬ (255 : Int32) < x3) ∨ (x4 = 0 ∧ s0 = 0 ∧ ¬ ((x2 = 0 ∧ z_B x3 8) ∨ (x2 = 1 ∧ ¬ x3 < 1 ∧ ¬ (255 : Int32) < x3)))) → w_X9_put_40 1 x1 x2 x3 T n r w (fun v i1 => T 84 = (0, 10) ∧ w_X10_put 84 x1 x2 x3 T n r i1 w (fun v2 i2 => v = v2 ∧ lw_N z_Inv n T n r i2 w)) x4 s0 i := by
    intro x4 s0 hx
    refine ⟨fun c => c58 x4 ?_, fun c => ⟨fun c2 => c58 x4 ?_, fun c2 => ?_⟩⟩
    · rcases hx with q | ⟨q, _⟩ | ⟨q, _⟩
      · exact Or.inl q
      · exact absurd q c
      · exact absurd q c
    · rcases hx with ⟨q, _⟩ | ⟨q, _, t⟩ | ⟨_, q, _⟩
      · rw [c] at q
        exact absurd q (by decide)
      · exact Or.inr ⟨q, t⟩
      · exact absurd q c2
    · rcases hx with ⟨q, _⟩ | ⟨_, q, _⟩ | ⟨_, _, t⟩
      · rw [c] at q
        exact absurd q (by decide)
      · rw [c2] at q
        exact absurd q (by decide)
      · exact z_refb h z_rf1 (m10 := fun i1 Q => w_X10_put 84 x1 x2 x3 T n r i1 w Q) (refused t)
  have c16 : ∀ s0 : Int32, ((s0 = 1 ∧ x2 = 0 ∧ z_B x3 8) ∨ (s0 = 0 ∧ ¬ (x2 = 0 ∧ z_B x3 8))) → w_X9_put_16 1 x1 x2 x3 T n r w (fun v i1 => T 84 = (0, 10) ∧ w_X10_put 84 x1 x2 x3 T n r i1 w (fun v2 i2 => v = v2 ∧ lw_N z_Inv n T n r i2 w)) s0 i := by
    intro s0 hx
    have n39 : ¬ (x2 = 1 ∧ ¬ x3 < 1 ∧ ¬ (255 : Int32) < x3) → w_X9_put_39 1 x1 x2 x3 T n r w (fun v i1 => T 84 = (0, 10) ∧ w_X10_put 84 x1 x2 x3 T n r i1 w (fun v2 i2 => v = v2 ∧ lw_N z_Inv n T n r i2 w)) s0 i := by
      intro hq
      refine c40 s0 0 ?_
      rcases hx with q | ⟨q, q2⟩
      · exact Or.inl q
      · exact Or.inr (Or.inr ⟨q, rfl, fun z => z.elim q2 hq⟩)
    have le255 : ¬ (256 : Int32) ≤ x3 ↔ ¬ (255 : Int32) < x3 := by
      rw [fa_le, fa_lt]
      have e1 : (256 : Int32).toInt = 256 := by decide
      have e2 : (255 : Int32).toInt = 255 := by decide
      omega
    refine ⟨fun c => n39 (fun q => c q.1), fun c => ⟨fun c2 => n39 (fun q => q.2.1 c2), fun c2 => ⟨fun c3 => n39 (fun q => le255.mpr q.2.2 c3), fun c3 => c40 s0 1 ?_⟩⟩⟩
    rcases hx with ⟨_, q, _⟩ | ⟨q, _⟩
    · rw [c] at q
      exact absurd q (by decide)
    · exact Or.inr (Or.inl ⟨q, rfl, c, c2, le255.mp c3⟩)
  refine ⟨fun c => c16 0 (Or.inr ⟨rfl, fun q => c q.1⟩), fun c => z_isColour9 (fun b => z_t (c16 1 (Or.inl ⟨rfl, c, b⟩))) (fun b => z_f (c16 0 (Or.inr ⟨rfl, fun q => b q.2⟩)))⟩
theorem z_C14 : lw_C14 z_Inv := by
  intro T n r i w x h hn
  have hS := h.1
  have h0 := z_T84 hS
  obtain ⟨nv, hv, e1, e2, hK⟩ := z_Inv_nv h
  obtain ⟨n1, -, n3⟩ := h.2.2.1
  obtain ⟨g1, nl, g2, g3, g4, g5⟩ := n3
  have e6 : i 2 6 = nI nl := n1.2.2.2.2.2.1.trans g3
  have k86 : ∀ k, k < 4987 → kw_in T 1 86 (nI k) := fun k hk => z_kin (z_T86 hS) hk (by decide)
  have m1 : (-1 : Int32).toInt = -1 := by decide
  -- whether it lies
  have ly : ∀ {i1 : kw_I} {Q : Int32 → Prop}, (x = -1 ∨ z_B x nl → Q 1) → (¬ (x = -1 ∨ z_B x nl) → Q 0) → w_X10_lies x (-1) (nI nl - 1) T n r i1 w Q := by
    intro i1 Q ht hf
    have em : (nI nl - 1 : Int32).toInt = (nl : Int) - 1 := pk_sub_toInt (b := 1) (by omega) (by decide)
    by_cases hb : x = -1 ∨ z_B x nl
    · have : -1 ≤ x.toInt ∧ x.toInt ≤ (nl : Int) - 1 := by
        rcases hb with e | ⟨k, hk, e⟩
        · rw [e, m1]
          omega
        · rw [e, nI_toInt (by omega)]
          omega
      refine z_lies_t ?_ ?_ (ht hb)
      · rw [fa_lt, m1]; omega
      · rw [fa_lt, em]; omega
    · refine z_lies_f ?_ (hf hb)
      rw [fa_lt, fa_lt, m1, em]
      by_cases c : x < 0
      · left
        have e0 : (0 : Int32).toInt = 0 := by decide
        rw [fa_lt, e0] at c
        have : x.toInt ≠ -1 := fun q => hb (Or.inl ((fa_eq x (-1)).mpr (by rw [q, m1])))
        omega
      · right
        obtain ⟨k, hk, rfl⟩ := nI_of c
        rw [nI_toInt hk]
        have : ¬ k < nl := fun q => hb (Or.inr ⟨k, q, rfl⟩)
        omega
  have bad : ¬ (x = -1 ∨ z_B x nl) → w_X9_force_20 1 x T n r w (fun v i1 => T 84 = (0, 10) ∧ w_X10_force 84 x T n r i1 w (fun v2 i2 => v = v2 ∧ lw_N z_Inv n T n r i2 w)) i := by
    intro hb
    refine z_refb h z_rf2 (m10 := fun i1 Q => w_X10_force 84 x T n r i1 w Q) (fun i1 Q o hQ => ?_)
    unfold w_X10_force
    rw [z_r84_2 hS, o 86 (by decide) (by decide)]
    have e179 : i 86 ((179 : Int32)).toNatClampNeg = nI nl := g3
    rw [e179]
    exact ⟨k86 179 (by decide), ly (fun q => absurd q hb) (fun _ => z_f2 (z_ref10e hS z_rf2 hQ))⟩
  have good : (x = -1 ∨ z_B x nl) → w_X9_force_27 1 x T n r w (fun v i1 => T 84 = (0, 10) ∧ w_X10_force 84 x T n r i1 w (fun v2 i2 => v = v2 ∧ lw_N z_Inv n T n r i2 w)) i := by
    intro hb
    unfold w_X9_force_27
    rw [z_r1_0 hS]
    refine ⟨z_T2 hS, fun i40 e40 j1 q1 j2 q2 => ⟨h0, ?_⟩⟩
    have o86 : j2 86 = i 86 := by rw [q2, q1, e40, kw_st_offF (by decide), kw_st_offF (by decide), kw_st_offF (by decide)]
    have o84 : j2 84 = i 84 := by rw [q2, q1, e40, kw_st_offF (by decide), kw_st_offF (by decide), kw_st_offF (by decide)]
    unfold w_X10_force
    have e179 : i 86 ((179 : Int32)).toNatClampNeg = nI nl := g3
    have e180 : i 86 ((180 : Int32)).toNatClampNeg = i 86 180 := rfl
    rw [z_r84_2 hS, o86, e179, e180]
    refine ⟨k86 179 (by decide), ly (fun _ => z_t2 ⟨k86 180 (by decide), k86 180 (by decide), fun i42 e42 i9 e9 => ⟨n1.2.2.2.2.2.2, ?_, by omega⟩⟩) (fun q => absurd hb q)⟩
    have K' : ∀ p, i9 86 p = if p = 180 then x else i 86 p := by
      intro p
      have : ((180 : Int32)).toNatClampNeg = 180 := rfl
      rw [e9, kw_st_off (by decide), e42, this, kw_st_row, o86]
    have rows : ∀ b, b ≠ 84 → b ≠ 86 → i9 b = j2 b := fun b b1 b2 => by rw [e9, kw_st_offF b1, e42, kw_st_offF b2]
    have old : ∀ b, b ≠ 1 → b ≠ 2 → b ≠ 84 → b ≠ 86 → i9 b = i b := fun b b1 b3 b4 b5 => by
      rw [rows b b4 b5, q2, kw_st_offF b1, q1, kw_st_offF b1, e40, kw_st_offF b3]
    have r2 : ∀ p, i9 2 p = if p = 7 then x else i 2 p := fun p => by
      rw [rows _ (by decide) (by decide), q2, kw_st_off (by decide), q1, kw_st_off (by decide), e40, kw_st_row]
    have kk : ∀ p, p ≠ 180 → i9 86 p = i 86 p := fun p hp => by rw [K', if_neg hp]
    obtain ⟨s1, s2, s3, s4, s5, s6, s7⟩ := n1
    refine z_Inv_ch h (fun b b1 b2 b4 b5 => old b b1 (by omega) b4 b5) ?_ ?_ (fun f f1 f2 => ?_) ?_ (fun f f1 => ?_) ⟨?_, ?_, ?_, ?_, ?_, ?_, ?_⟩ ⟨nv, ?_⟩ (kk 179 (by decide)) (fun k hk => kk k (by omega)) ?_
    · rw [rows 1 (by decide) (by decide), q2, kw_st_row, if_neg (by decide), q1, kw_st_same]
    · rw [rows 1 (by decide) (by decide), q2, kw_st_same]
    · rw [rows 1 (by decide) (by decide), q2, kw_st_row, if_neg f1, q1, kw_st_row, if_neg f2, e40, kw_st_off (by decide)]
    · rw [e9, kw_st_same]
    · rw [e9, kw_st_row, if_neg f1, e42, kw_st_off (by decide), o84]
    · intro j v hj hv'
      rw [old _ (by omega) (by omega) (by omega) (by omega), kk _ (by omega)]
      exact s1 j v hj hv'
    · intro q' c' hq' hc'
      rw [old _ (by omega) (by omega) (by omega) (by omega), kk _ (by omega)]
      exact s2 q' c' hq' hc'
    · intro c' hc'
      rw [old _ (by omega) (by omega) (by omega) (by omega), kk _ (by omega)]
      exact s3 c' hc'
    · intro t ht
      rw [old _ (by omega) (by omega) (by omega) (by omega), kk _ (by omega)]
      exact s4 t ht
    · rw [r2, if_neg (by decide), kk 178 (by decide)]; exact s5
    · rw [r2, if_neg (by decide), kk 179 (by decide)]; exact s6
    · rw [r2, if_pos rfl, K', if_pos rfl]
    · obtain ⟨k1, k2, k3, k4, k5', k6, k7⟩ := hK
      refine ⟨k1, by rw [kk 178 (by decide)]; exact k2, fun v' hv' => ?_, fun q' c' hq' hc' => by rw [kk _ (by omega)]; exact k4 q' c' hq' hc', fun c hc => by rw [kk _ (by omega)]; exact k5' c hc, by rw [kk _ (by decide)]; exact k6, by rw [kk _ (by decide)]; exact k7⟩
      rw [kk _ (by omega), kk _ (by omega), kk _ (by omega), kk _ (by omega), kk _ (by omega), kk _ (by omega)]
      exact k3 v' hv'
    · rw [K', if_pos rfl]
      rcases hb with e | ⟨k, hk, e⟩
      · exact Or.inr (Or.inl e)
      · refine Or.inr (Or.inr ⟨k, fun nl' h1 h2 => ?_, e⟩)
        rw [← (nI_eq (by omega) (by omega)).mp (g3.symm.trans h2)]
        exact hk
  have hb := z_B_iff (x := x) (m := nl) (by omega)
  unfold w_X9_force
  rw [z_r1_0 hS, e6]
  refine ⟨fun c => good (Or.inl c), fun c => ⟨fun c2 => bad (fun q => q.elim c (fun q => (hb.mp q).1 c2)), fun c2 => ⟨z_T2 hS, fun c3 => good (Or.inr (hb.mpr ⟨c2, c3⟩)), fun c3 => bad (fun q => q.elim c (fun q => c3 (hb.mp q).2))⟩⟩⟩
