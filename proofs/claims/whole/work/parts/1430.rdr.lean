-- THE CLASS READS TOKENS
def z_cx4 (T : kw_T) (r : kw_R) (B : Nat → Nat) (len : Nat) : Prop := z_S T r ∧ r 20 2 = 19 ∧ len ≤ 400 ∧ ∀ k, B k < 256
/-- what reading leaves as it was -/
def z_RB (i0 i : kw_I) (B : Nat → Nat) (len : Nat) : Prop := (∀ b, b ≠ 20 → b ≠ 21 → i b = i0 b) ∧ (∀ k, k < 400 → i0 19 k = nI (B k)) ∧ i 20 3 = nI len
def z_aT (i : kw_I) (B : Nat → Nat) (len t : Nat) : Prop := i 20 4 = nI (z_plc B len t) ∧ i 20 5 = nI (z_te B len t) ∧ i 20 6 = nI (z_kd B len (z_plc B len t))
def z_co (i : kw_I) (s : Nat) (cd : Nat → Nat) : Prop := i 20 7 = nI s ∧ s ≤ 400 ∧ z_code (i 21) s cd
/-- it stands at the token t, with m parts and s steps of code -/
def z_RS (i0 i : kw_I) (B : Nat → Nat) (len t m s : Nat) (cd : Nat → Nat) : Prop := z_RB i0 i B len ∧ z_aT i B len t ∧ i 20 8 = nI m ∧ i 20 9 = -1 ∧ z_co i s cd
/-- it is stuck, the fault at the token t -/
def z_RX (i0 i : kw_I) (B : Nat → Nat) (len t : Nat) : Prop := z_RB i0 i B len ∧ i 20 6 = nI 259 ∧ i 20 9 = nI (z_plc B len t) ∧ ∃ s, s ≤ 400 ∧ i 20 7 = nI s
def z_m3 (i j : kw_I) : Prop := z_io 20 i j ∧ ∀ f, f ≠ 4 → f ≠ 5 → f ≠ 6 → j 20 f = i 20 f
theorem z_m3_st {i j : kw_I} {f : Nat} {v : Int32} (h : z_m3 i j) (hf : f = 4 ∨ f = 5 ∨ f = 6) : z_m3 i (kw_st j 20 f v) := by
  refine ⟨z_io_st h.1, fun g g1 g2 g3 => ?_⟩
  rw [kw_st_row, if_neg (by omega)]
  exact h.2 g g1 g2 g3
section ZR4
variable {T : kw_T} {n : Nat} {r : kw_R} {i i0 : kw_I} {w : kw_L} {B : Nat → Nat} {len : Nat}
theorem z_ltrI {b : Nat} (hb : b < 256) : (¬ nI b < (97 : Int32) ∧ ¬ (122 : Int32) < nI b) ↔ z_ltr b = true := by
  unfold z_ltr
  rw [decide_eq_true_iff]
  constructor
  · rintro ⟨h1, h2⟩
    refine ⟨?_, ?_⟩
    · rcases Nat.lt_or_ge b 97 with q | q
      · exact absurd (nI_lt (b := 97) q (by decide)) h1
      · exact q
    · rcases Nat.lt_or_ge 122 b with q | q
      · exact absurd (nI_lt (a := 122) q (by omega)) h2
      · exact q
  · rintro ⟨h1, h2⟩
    exact ⟨nI_nlt (b := 97) h1 (by omega), nI_nlt (a := 122) h2 (by decide)⟩
theorem z_dgtI {b : Nat} (hb : b < 256) : (¬ nI b < (48 : Int32) ∧ ¬ (57 : Int32) < nI b) ↔ z_dgt b = true := by
  unfold z_dgt
  rw [decide_eq_true_iff]
  constructor
  · rintro ⟨h1, h2⟩
    refine ⟨?_, ?_⟩
    · rcases Nat.lt_or_ge b 48 with q | q
      · exact absurd (nI_lt (b := 48) q (by decide)) h1
      · exact q
    · rcases Nat.lt_or_ge 57 b with q | q
      · exact absurd (nI_lt (a := 57) q (by omega)) h2
      · exact q
  · rintro ⟨h1, h2⟩
    exact ⟨nI_nlt (b := 48) h1 (by omega), nI_nlt (a := 57) h2 (by decide)⟩
theorem z_step4 (hx : z_cx4 T r B len) (hb : z_RB i0 i B len) {e : Nat} (h5 : i 20 5 = nI e) (he : e ≤ len) {Q : kw_I → Prop}
    (hQ : ∀ i', z_m3 i i' → i' 20 4 = nI (z_adv z_spc B len e) → i' 20 5 = nI (if z_adv z_spc B len e < len then z_ten B len (z_adv z_spc B len e) else z_adv z_spc B len e) → i' 20 6 = nI (z_kd B len (z_adv z_spc B len e)) → Q i') : w_X4_step 20 T n r i w Q := by
  obtain ⟨hS, hr2, hl, hB⟩ := hx
  have k19 : ∀ k, k < 400 → kw_in T 1 19 (nI k) := fun k hk => z_kin (z_T19 hS) hk (by decide)
  have by19 : ∀ j, z_m3 i j → ∀ k, k < 400 → j 19 k = nI (B k) := fun j hj k hk => by rw [hj.1 19 (by decide), hb.1 19 (by decide) (by decide)]; exact hb.2.1 k hk
  have len3 : ∀ j, z_m3 i j → j 20 3 = nI len := fun j hj => by rw [hj.2 3 (by decide) (by decide) (by decide)]; exact hb.2.2
  -- letters, digits go on
  have more : ∀ (P : Nat → Bool) (W : Nat → kw_I → Prop) (kd : Nat), (∀ N k j, z_m3 i j → k ≤ len → j 20 5 = nI k → (¬ (k < len ∧ P (B k) = true) → Q j) → (k < len → P (B k) = true → W N (kw_st j 20 5 (nI (k + 1)))) → W (N + 1) j) → ∀ (d k : Nat) (j : kw_I), len - k = d → k ≤ len → z_m3 i j → j 20 5 = nI k → (∀ j', z_m3 i j' → j' 20 4 = j 20 4 → j' 20 6 = j 20 6 → j' 20 5 = nI (z_adv P B len k) → Q j') → W (d + 1) j := by
    intro P W kd hstep d
    induction d with
    | zero =>
      intro k j hd hk g1 g2 g3
      refine hstep 0 k j g1 hk g2 (fun q => g3 j g1 rfl rfl (by rw [z_adv_stop q]; exact g2)) (fun q => by omega)
    | succ d ih =>
      intro k j hd hk g1 g2 g3
      refine hstep (d + 1) k j g1 hk g2 (fun q => g3 j g1 rfl rfl (by rw [z_adv_stop q]; exact g2)) (fun q1 q2 => ih (k + 1) _ (by omega) (by omega) (z_m3_st g1 (by decide)) kw_st_same (fun j' k1 k2 k3 k4 => g3 j' k1 (by rw [k2, kw_st_row, if_neg (by decide)]) (by rw [k3, kw_st_row, if_neg (by decide)]) (by rw [k4, z_adv_step q1 q2])))
  -- the token itself
  have c46 : ∀ j, z_m3 i j → ∀ p, p = z_adv z_spc B len e → j 20 4 = nI p → w_X4_step_46 20 T n r w Q j := by
    intro j hj p hp j4
    have ple : p ≤ len := by rw [hp]; exact z_adv_le he
    rw [← hp] at hQ
    intro j1 e1
    have m1 : z_m3 i j1 := by rw [e1]; exact z_m3_st hj (by decide)
    have a4 : j1 20 4 = nI p := by rw [e1, kw_st_row, if_neg (by decide)]; exact j4
    have a5 : j1 20 5 = nI p := by rw [e1, kw_st_same]; exact j4
    rw [hr2, a4, len3 j1 m1, nI_clamp (by omega)]
    refine ⟨fun q => ?_, fun q j2 e2 => ?_⟩
    · have hpl : p < len := (nI_ltI (by omega) (by omega)).mp q
      refine ⟨k19 p (by omega), fun j2 e2 j3 e3 => ?_⟩
      have m3 : z_m3 i j3 := by rw [e3, e2]; exact z_m3_st (z_m3_st m1 (by decide)) (by decide)
      have b6 : j3 20 6 = nI (B p) := by rw [e3, kw_st_row, if_neg (by decide), e2, kw_st_same]; exact by19 j1 m1 p (by omega)
      have b5 : j3 20 5 = nI (p + 1) := by rw [e3, kw_st_same, e2, kw_st_row, if_neg (by decide), a5, nI_1]
      have b4 : j3 20 4 = nI p := by rw [e3, kw_st_row, if_neg (by decide), e2, kw_st_row, if_neg (by decide)]; exact a4
      have hbp := hB p
      have lI := z_ltrI hbp
      have dI := z_dgtI hbp
      have ekd : z_kd B len p = if z_ltr (B p) = true then 256 else if z_dgt (B p) = true then 257 else B p := if_pos hpl
      have ete : (if p < len then z_ten B len p else p) = z_ten B len p := if_pos hpl
      rw [ekd, ete] at hQ
      unfold z_ten at hQ
      have c173 : z_ltr (B p) = false → w_X4_step_173 20 T n r w Q j3 := by
        intro hn
        have hn' : ¬ z_ltr (B p) = true := by rw [hn]; decide
        rw [if_neg hn', if_neg hn'] at hQ
        unfold w_X4_step_173
        rw [b6]
        have noD : ¬ z_dgt (B p) = true → Q j3 := by
          intro q3
          rw [if_neg q3, if_neg q3] at hQ
          exact hQ j3 m3 b4 b5 b6
        refine ⟨fun q1 => noD (fun z => (dI.mpr z).1 q1), fun q1 => ⟨fun q2 => noD (fun z => (dI.mpr z).2 q2), fun q2 j4 e4 => ?_⟩⟩
        have hd := dI.mp ⟨q1, q2⟩
        rw [if_pos hd, if_pos hd] at hQ
        refine ⟨len - (p + 1) + 1, more z_dgt (w_X4_step_198 20 T n r w Q) 257 (fun N k j g1 gk g2 gs gn => ?_) _ (p + 1) j4 rfl (by omega) (by rw [e4]; exact z_m3_st m3 (by decide)) (by rw [e4, kw_st_row, if_neg (by decide)]; exact b5) (fun j' k1 k2 k3 k4 => hQ j' k1 (by rw [k2, e4, kw_st_row, if_neg (by decide)]; exact b4) k4 (by rw [k3, e4, kw_st_same]; rfl))⟩
        show s_X4_step_198 20 T n r w Q _ j
        unfold s_X4_step_198
        rw [hr2, g2, len3 j g1, nI_clamp (by omega)]
        refine ⟨fun q => gs (fun z => ?_), fun q => ?_⟩
        · have := (nI_leI (by omega) (by omega)).mp q
          omega
        · have hk : k < len := by
            rcases Nat.lt_or_ge k len with z | z
            · exact z
            · exact absurd (nI_le z (by omega)) q
          rw [by19 j g1 k (by omega)]
          have dk := z_dgtI (hB k)
          refine ⟨k19 k (by omega), fun q1 => gs (fun z => (dk.mpr z.2).1 q1), fun q1 => ⟨k19 k (by omega), fun q2 => gs (fun z => (dk.mpr z.2).2 q2), fun q2 j5 e5 => ?_⟩⟩
          rw [e5, nI_1]
          exact gn hk (dk.mp ⟨q1, q2⟩)
      rw [b6]
      refine ⟨fun q1 => c173 ?_, fun q1 => ⟨fun q2 => c173 ?_, fun q2 j4 e4 => ?_⟩⟩
      · cases hh : z_ltr (B p) with
        | false => rfl
        | true => exact absurd q1 (lI.mpr hh).1
      · cases hh : z_ltr (B p) with
        | false => rfl
        | true => exact absurd q2 (lI.mpr hh).2
      · have hd := lI.mp ⟨q1, q2⟩
        rw [if_pos hd, if_pos hd] at hQ
        refine ⟨len - (p + 1) + 1, more z_ltr (w_X4_step_121 20 T n r w Q) 256 (fun N k j g1 gk g2 gs gn => ?_) _ (p + 1) j4 rfl (by omega) (by rw [e4]; exact z_m3_st m3 (by decide)) (by rw [e4, kw_st_row, if_neg (by decide)]; exact b5) (fun j' k1 k2 k3 k4 => hQ j' k1 (by rw [k2, e4, kw_st_row, if_neg (by decide)]; exact b4) k4 (by rw [k3, e4, kw_st_same]; rfl))⟩
        show s_X4_step_121 20 T n r w Q _ j
        unfold s_X4_step_121
        rw [hr2, g2, len3 j g1, nI_clamp (by omega)]
        refine ⟨fun q => gs (fun z => ?_), fun q => ?_⟩
        · have := (nI_leI (by omega) (by omega)).mp q
          omega
        · have hk : k < len := by
            rcases Nat.lt_or_ge k len with z | z
            · exact z
            · exact absurd (nI_le z (by omega)) q
          rw [by19 j g1 k (by omega)]
          have dk := z_ltrI (hB k)
          refine ⟨k19 k (by omega), fun q1 => gs (fun z => (dk.mpr z.2).1 q1), fun q1 => ⟨k19 k (by omega), fun q2 => gs (fun z => (dk.mpr z.2).2 q2), fun q2 j5 e5 => ?_⟩⟩
          rw [e5, nI_1]
          exact gn hk (dk.mp ⟨q1, q2⟩)
    · have hpl : ¬ p < len := fun z => q (nI_lt z (by omega))
      have ekd : z_kd B len p = 258 := if_neg hpl
      have ete : (if p < len then z_ten B len p else p) = p := if_neg hpl
      rw [ekd, ete] at hQ
      exact hQ j2 (by rw [e2]; exact z_m3_st m1 (by decide)) (by rw [e2, kw_st_row, if_neg (by decide)]; exact a4) (by rw [e2, kw_st_row, if_neg (by decide)]; exact a5) (by rw [e2, kw_st_same]; rfl)
  intro i5 e5
  rw [h5] at e5
  refine ⟨len - e + 1, ?_⟩
  have loop : ∀ (d k : Nat) (j : kw_I), len - k = d → k ≤ len → z_adv z_spc B len k = z_adv z_spc B len e → z_m3 i j → j 20 4 = nI k → w_X4_step_8 20 T n r w Q (d + 1) j := by
    intro d
    induction d with
    | zero =>
      intro k j hd hk ha g1 g2
      have hkl : k = len := by omega
      show s_X4_step_8 20 T n r w Q _ j
      unfold s_X4_step_8
      rw [g2, len3 j g1]
      refine ⟨fun _ => c46 j g1 k (by rw [← ha, z_adv_stop (fun z => by omega)]) g2, fun q => absurd (nI_le (by omega) (by omega)) q⟩
    | succ d ih =>
      intro k j hd hk ha g1 g2
      have hkl : k < len := by omega
      show s_X4_step_8 20 T n r w Q _ j
      unfold s_X4_step_8
      rw [hr2, g2, len3 j g1, nI_clamp (by omega), by19 j g1 k (by omega)]
      have hbk := hB k
      refine ⟨fun q => absurd q (nI_ge hkl (by omega)), fun _ => ⟨k19 k (by omega), fun q => c46 j g1 k ?_ g2, fun q j2 e2 => ?_⟩⟩
      · rw [← ha, z_adv_stop]
        intro z
        have := z.2
        unfold z_spc at this
        rw [decide_eq_true_iff] at this
        exact q (by rw [this]; rfl)
      · rw [nI_1] at e2
        have hs : z_spc (B k) = true := by
          unfold z_spc
          rw [decide_eq_true_iff]
          exact (nI_eq (b := 32) (by omega) (by decide)).mp q
        exact ih (k + 1) j2 (by omega) (by omega) (by rw [← ha, z_adv_step hkl hs]) (by rw [e2]; exact z_m3_st g1 (by decide)) (by rw [e2, kw_st_same])
  exact loop (len - e) e i5 rfl he rfl (by rw [e5]; exact z_m3_st ⟨fun _ _ => rfl, fun _ _ _ _ => rfl⟩ (by decide)) (by rw [e5, kw_st_same])
/-- a step from token to token -/
theorem z_stepT (hx : z_cx4 T r B len) {t m s : Nat} {cd : Nat → Nat} (h : z_RS i0 i B len t m s cd) {Q : kw_I → Prop} (hQ : ∀ i', z_RS i0 i' B len (t + 1) m s cd → Q i') : w_X4_step 20 T n r i w Q := by
  obtain ⟨h1, ⟨a1, a2, a3⟩, h3, h4, h5, h6, h7⟩ := h
  refine z_step4 hx h1 a2 (z_te_le t) fun i' g1 g2 g3 g4 => hQ i' ?_
  rw [← z_plc_succ] at g2 g3 g4
  refine ⟨⟨fun b b1 b2 => by rw [g1.1 b b1]; exact h1.1 b b1 b2, h1.2.1, by rw [g1.2 3 (by decide) (by decide) (by decide)]; exact h1.2.2⟩, ⟨g2, g3, g4⟩, by rw [g1.2 8 (by decide) (by decide) (by decide)]; exact h3, by rw [g1.2 9 (by decide) (by decide) (by decide)]; exact h4, by rw [g1.2 7 (by decide) (by decide) (by decide)]; exact h5, h6, by rw [g1.1 21 (by decide)]; exact h7⟩
theorem z_stickT {t m s : Nat} {cd : Nat → Nat} (h : z_RS i0 i B len t m s cd) {Q : kw_I → Prop} (hQ : ∀ i', z_RX i0 i' B len t → Q i') : w_X4_stick 20 T n r i w Q := by
  obtain ⟨h1, ⟨a1, a2, a3⟩, h3, h4, h5, h6, h7⟩ := h
  unfold w_X4_stick
  rw [h4, a1]
  refine ⟨fun q => absurd rfl q, fun _ i1 e1 i2 e2 => hQ i2 ?_⟩
  have o : ∀ b, b ≠ 20 → i2 b = i b := fun b hb => by rw [e2, kw_st_offF hb, e1, kw_st_offF hb]
  have f : ∀ f, f ≠ 6 → f ≠ 9 → i2 20 f = i 20 f := fun f f1 f2 => by rw [e2, kw_st_row, if_neg f1, e1, kw_st_row, if_neg f2]
  exact ⟨⟨fun b b1 b2 => by rw [o b b1]; exact h1.1 b b1 b2, h1.2.1, by rw [f 3 (by decide) (by decide)]; exact h1.2.2⟩, by rw [e2, kw_st_same]; rfl, by rw [e2, kw_st_row, if_neg (by decide), e1, kw_st_same], s, h6, by rw [f 7 (by decide) (by decide)]; exact h5⟩
theorem z_stickX {t : Nat} (ht : z_plc B len t < 2 ^ 31) (h : z_RX i0 i B len t) {Q : kw_I → Prop} (hQ : ∀ i', z_RX i0 i' B len t → Q i') : w_X4_stick 20 T n r i w Q := by
  obtain ⟨h1, h2, h3, s, h4, h5⟩ := h
  unfold w_X4_stick
  rw [h3]
  refine ⟨fun _ i2 e2 => hQ i2 ?_, fun q => absurd q (z_m1ne ht)⟩
  have o : ∀ b, b ≠ 20 → i2 b = i b := fun b hb => by rw [e2, kw_st_offF hb]
  have f : ∀ f, f ≠ 6 → i2 20 f = i 20 f := fun f f1 => by rw [e2, kw_st_row, if_neg f1]
  exact ⟨⟨fun b b1 b2 => by rw [o b b1]; exact h1.1 b b1 b2, h1.2.1, by rw [f 3 (by decide)]; exact h1.2.2⟩, by rw [e2, kw_st_same]; rfl, by rw [f 9 (by decide)]; exact h3, s, h4, by rw [f 7 (by decide)]; exact h5⟩
end ZR4
