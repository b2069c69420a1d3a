-- MENDING, BY THE CLASS
def z_mo (f : Nat → Nat) (P : Nat → Int32) (m : Nat) (o : Option Nat) (fw : Int32) (bs : Nat → Int32) : Prop := match o with
  | none => fw = 61
  | some k => fw = nI (z_Sq f P m m k) ∧ ∀ a, a < m → bs a = nI (z_dg8 m k a)
/-- what mending changes -/
def z_fm (i i' : kw_I) : Prop := (∀ b, b ≠ 64 → b ≠ 67 → b ≠ 68 → b ≠ 69 → i' b = i b) ∧ ∀ f, f ≠ 6 → i' 64 f = i 64 f
theorem z_fm_tr {i j k : kw_I} (h : z_fm i j) (h' : z_fm j k) : z_fm i k := ⟨fun b b1 b2 b3 b4 => (h'.1 b b1 b2 b3 b4).trans (h.1 b b1 b2 b3 b4), fun f hf => (h'.2 f hf).trans (h.2 f hf)⟩
section ZME
variable {T : kw_T} {n : Nat} {r : kw_R} {i : kw_I} {w : kw_L} {f : Nat → Nat} {P : Nat → Int32} {m : Nat}
theorem z_around (hS : z_S T r) {c : Nat} {x : Int32} (hc : c < 36) (hx : i 69 c = x) {Q : Int32 → Prop} (hQ : Q (nI (z_ar (i 69) x c))) : w_X3_seamsAround 64 (nI c) T n r i w Q := by
  have k69 : ∀ k, k < 36 → kw_in T 1 69 (nI k) := fun k hk => z_kin (z_T69 hS) hk (by decide)
  have em : nI c - nI c / (6 : Int32) * 6 = nI (c % 6) := pk_rem (d := 6) (by omega) (by decide) (by decide)
  -- one side
  have side : ∀ (s : Nat) (y : Int32) (R : Int32 → Prop), R (nI (s + (if y ≠ -1 ∧ y ≠ x then 1 else 0))) → w_X9_seam x y T n r i w (fun v => R (nI s + v)) := by
    intro s y R hR
    refine z_seam9 ?_
    by_cases q : y ≠ -1 ∧ y ≠ x
    · rw [if_pos q] at hR ⊢
      rw [show (1 : Int32) = nI 1 from rfl, nI_add]
      exact hR
    · rw [if_neg q] at hR ⊢
      rw [show (0 : Int32) = nI 0 from rfl, nI_add]
      exact hR
  have c76 : ∀ s : Nat, s + (if c + 6 < 36 ∧ i 69 (c + 6) ≠ -1 ∧ i 69 (c + 6) ≠ x then 1 else 0) = z_ar (i 69) x c → w_X3_seamsAround_76 64 (nI c) T n r i w Q x (nI s) := by
    intro s hs
    unfold w_X3_seamsAround_76
    rw [show nI c + (6 : Int32) = nI (c + 6) from nI_add c 6, z_r64_4 hS, nI_clamp (by omega)]
    refine ⟨fun q => ?_, fun q => ?_⟩
    · have : 36 ≤ c + 6 := (nI_leI (a := 36) (by decide) (by omega)).mp q
      rw [if_neg (fun z => by omega)] at hs
      rw [← hs] at hQ
      exact hQ
    · have h6 : c + 6 < 36 := by
        rcases Nat.lt_or_ge (c + 6) 36 with z | z
        · exact z
        · exact absurd (nI_le (a := 36) z (by omega)) q
      refine ⟨k69 (c + 6) h6, side s _ Q ?_⟩
      have e : (if c + 6 < 36 ∧ i 69 (c + 6) ≠ -1 ∧ i 69 (c + 6) ≠ x then 1 else 0) = (if i 69 (c + 6) ≠ -1 ∧ i 69 (c + 6) ≠ x then 1 else 0) := by
        by_cases y : i 69 (c + 6) ≠ -1 ∧ i 69 (c + 6) ≠ x
        · rw [if_pos y, if_pos ⟨h6, y⟩]
        · rw [if_neg y, if_neg (fun z => y z.2)]
      rw [← e, hs]
      exact hQ
  have c54 : ∀ s : Nat, s + (if 6 ≤ c ∧ i 69 (c - 6) ≠ -1 ∧ i 69 (c - 6) ≠ x then 1 else 0) + (if c + 6 < 36 ∧ i 69 (c + 6) ≠ -1 ∧ i 69 (c + 6) ≠ x then 1 else 0) = z_ar (i 69) x c → w_X3_seamsAround_54 64 (nI c) T n r i w Q x (nI s) := by
    intro s hs
    unfold w_X3_seamsAround_54
    rw [z_r64_4 hS]
    refine ⟨fun q => c76 s ?_, fun q => ?_⟩
    · have : c < 6 := (nI_ltI (b := 6) (by omega) (by decide)).mp q
      rw [if_neg (show ¬ (6 ≤ c ∧ _) from fun z => by omega)] at hs
      exact hs
    · have h6 : 6 ≤ c := by
        rcases Nat.lt_or_ge c 6 with z | z
        · exact absurd (nI_lt (b := 6) z (by decide)) q
        · exact z
      rw [show nI c - (6 : Int32) = nI (c - 6) from pk_sub (b := 6) h6, nI_clamp (by omega)]
      refine ⟨k69 (c - 6) (by omega), side s _ (fun v => w_X3_seamsAround_76 64 (nI c) T n r i w Q x v) (c76 _ ?_)⟩
      have e : (if 6 ≤ c ∧ i 69 (c - 6) ≠ -1 ∧ i 69 (c - 6) ≠ x then 1 else 0) = (if i 69 (c - 6) ≠ -1 ∧ i 69 (c - 6) ≠ x then 1 else 0) := by
        by_cases y : i 69 (c - 6) ≠ -1 ∧ i 69 (c - 6) ≠ x
        · rw [if_pos y, if_pos ⟨h6, y⟩]
        · rw [if_neg y, if_neg (fun z => y z.2)]
      rw [← e]
      exact hs
  have c31 : ∀ s : Nat, s + (if c % 6 < 5 ∧ i 69 (c + 1) ≠ -1 ∧ i 69 (c + 1) ≠ x then 1 else 0) + (if 6 ≤ c ∧ i 69 (c - 6) ≠ -1 ∧ i 69 (c - 6) ≠ x then 1 else 0) + (if c + 6 < 36 ∧ i 69 (c + 6) ≠ -1 ∧ i 69 (c + 6) ≠ x then 1 else 0) = z_ar (i 69) x c → w_X3_seamsAround_31 64 (nI c) T n r i w Q x (nI s) := by
    intro s hs
    unfold w_X3_seamsAround_31
    rw [em, z_r64_4 hS, nI_1, nI_clamp (by omega)]
    refine ⟨fun q => c54 s ?_, fun q => ?_⟩
    · have : 5 ≤ c % 6 := (nI_leI (a := 5) (by decide) (by omega)).mp q
      rw [if_neg (show ¬ (c % 6 < 5 ∧ _) from fun z => by omega)] at hs
      exact hs
    · have h5 : c % 6 < 5 := by
        rcases Nat.lt_or_ge (c % 6) 5 with z | z
        · exact z
        · exact absurd (nI_le (a := 5) z (by omega)) q
      refine ⟨k69 (c + 1) (by omega), side s _ (fun v => w_X3_seamsAround_54 64 (nI c) T n r i w Q x v) (c54 _ ?_)⟩
      have e : (if c % 6 < 5 ∧ i 69 (c + 1) ≠ -1 ∧ i 69 (c + 1) ≠ x then 1 else 0) = (if i 69 (c + 1) ≠ -1 ∧ i 69 (c + 1) ≠ x then 1 else 0) := by
        by_cases y : i 69 (c + 1) ≠ -1 ∧ i 69 (c + 1) ≠ x
        · rw [if_pos y, if_pos ⟨h5, y⟩]
        · rw [if_neg y, if_neg (fun z => y z.2)]
      rw [← e]
      exact hs
  unfold w_X3_seamsAround
  rw [em, z_r64_4 hS, nI_clamp (by omega), hx]
  refine ⟨k69 c hc, fun q => c31 0 ?_, fun q => ?_⟩
  · have h0 : c % 6 = 0 := by
      rcases Nat.eq_zero_or_pos (c % 6) with z | z
      · exact z
      · exact absurd q (nI_nle z (by omega))
    unfold z_ar
    rw [if_neg (show ¬ (c % 6 ≠ 0 ∧ i 69 (c - 1) ≠ -1 ∧ i 69 (c - 1) ≠ x) from fun z => z.1 h0)]
  · have h0 : c % 6 ≠ 0 := fun z => q (by rw [z]; decide)
    rw [show nI c - (1 : Int32) = nI (c - 1) from pk_sub (b := 1) (by omega), nI_clamp (by omega)]
    refine ⟨k69 (c - 1) (by omega), side 0 _ (fun v => w_X3_seamsAround_31 64 (nI c) T n r i w Q x v) (c31 _ ?_)⟩
    unfold z_ar
    have e : (if c % 6 ≠ 0 ∧ i 69 (c - 1) ≠ -1 ∧ i 69 (c - 1) ≠ x then 1 else 0) = (if i 69 (c - 1) ≠ -1 ∧ i 69 (c - 1) ≠ x then 1 else 0) := by
      by_cases y : i 69 (c - 1) ≠ -1 ∧ i 69 (c - 1) ≠ x
      · rw [if_pos y, if_pos ⟨h0, y⟩]
      · rw [if_neg y, if_neg (fun z => y z.2)]
    rw [e, Nat.zero_add]
theorem z_maxI {k : Nat} (hk : k < 61) : nI k < (61 : Int32) := by
  rw [fa_lt, nI_toInt (by omega)]
  have : (61 : Int32).toInt = 61 := by decide
  omega
theorem z_mendFrom (hS : z_S T r) (hm : m ≤ 5) (hso : z_so f m) : ∀ (e t q : Nat) (j : kw_I) (o : Option Nat) (Q : kw_I → Prop), t + e = m → j 64 5 = nI m → (∀ a, a < m → j 66 a = nI (f a)) → (∀ c, c < 36 → j 69 c = z_fl f P (z_xs t q) m c) → (∀ a, a < t → j 67 a = nI (z_dg8 t q a)) → z_best z_tt (z_Fk f P m) (q * 8 ^ e) o → z_mo f P m o (j 64 6) (j 68) → (∀ j' o', z_fm j j' → (∀ c, c < 36 → j' 69 c = z_fl f P (z_xs t q) m c) → (∀ a, a < t → j' 67 a = nI (z_dg8 t q a)) → z_best z_tt (z_Fk f P m) ((q + 1) * 8 ^ e) o' → z_mo f P m o' (j' 64 6) (j' 68) → Q j') → g_X3_mendFrom (e + 1) 64 (nI t) (nI (z_Sq f P m t q)) T n r j w Q := by
  intro e
  induction e with
  | zero =>
    intro t q j o Q ht h5 h66 h69 h67 hb hmo hQ
    have : t = m := by omega
    subst this
    rw [Nat.pow_zero, Nat.mul_one] at hb
    rw [Nat.pow_zero, Nat.mul_one] at hQ
    have sle := z_Sq_le f P t t q
    show w_X3_mendFrom (g_X3_mendFrom 0) 64 (nI t) (nI (z_Sq f P t t q)) T n r j w Q
    unfold w_X3_mendFrom
    rw [h5]
    refine ⟨fun y => ⟨fun y2 => absurd y2 (nI_nlt (Nat.le_refl _) (by omega)), fun _ j2 e2 => ?_⟩, fun y => ?_⟩
    · have e25 : j2 64 5 = nI t := by rw [e2, kw_st_row, if_neg (by decide)]; exact h5
      rw [z_r64_2 hS, z_r64_3 hS, e25, nI_clamp (by omega)]
      refine ⟨?_, fun j3 e3 => ?_⟩
      · unfold kw_cpo
        rw [z_T67 hS, z_T68 hS, nI_clamp (by omega)]
        exact ⟨rfl, rfl, by decide, by decide, nI_pos (by omega), by show 0 + t ≤ 5; omega, by show 0 + t ≤ 5; omega⟩
      · have e3' : j3 = kw_cpy j2 67 68 0 0 t := e3
        have o3 : ∀ b, b ≠ 64 → b ≠ 68 → j3 b = j b := fun b b1 b2 => by rw [e3', z_cpy_off b2, e2, kw_st_offF b1]
        have e64 : j3 64 = j2 64 := by rw [e3', z_cpy_off (by decide)]
        refine hQ j3 (some q) ⟨fun b b1 b2 b3 b4 => o3 b b1 b3, fun f' hf' => by rw [e64, e2, kw_st_row, if_neg hf']⟩ (fun c hc => by rw [o3 69 (by decide) (by decide)]; exact h69 c hc) (fun a ha => by rw [o3 67 (by decide) (by decide)]; exact h67 a ha) (z_best_take hb rfl (fun k hk => ?_)) ⟨?_, fun a ha => ?_⟩
        · subst hk
          have l2 := z_Sq_le f P t t k
          rw [hmo.1] at y
          have := (nI_ltI (by omega) (by omega)).mp y
          unfold z_Fk
          omega
        · rw [e64, e2, kw_st_same]
        · rw [e3', z_cpy_row ha, e2, kw_st_off (by decide)]
          exact h67 a ha
    · cases o with
      | none =>
        rw [show j 64 6 = 61 from hmo] at y
        exact absurd (z_maxI (by omega)) y
      | some k =>
        have l2 := z_Sq_le f P t t k
        rw [hmo.1] at y
        have y' : ¬ z_Sq f P t t q < z_Sq f P t t k := fun z => y (nI_lt z (by omega))
        refine hQ j (some k) ⟨fun _ _ _ _ _ => rfl, fun _ _ => rfl⟩ h69 h67 (z_best_keep hb ?_) hmo
        unfold z_Fk
        omega
  | succ e ih =>
    intro t q j o Q ht h5 h66 h69 h67 hb hmo hQ
    have sle := z_Sq_le f P m t q
    have f36 := hso.2 t (by omega)
    have pw : 8 ^ (e + 1) = 8 * 8 ^ e := by rw [Nat.pow_succ, Nat.mul_comm]
    show w_X3_mendFrom (g_X3_mendFrom (e + 1)) 64 (nI t) (nI (z_Sq f P m t q)) T n r j w Q
    unfold w_X3_mendFrom
    rw [h5, z_r64_1 hS, nI_clamp (show t < 2 ^ 31 by omega), h66 t (by omega)]
    refine ⟨fun y => ⟨fun _ => ⟨z_kin (z_T66 hS) (by omega) (by decide), 9, ?_⟩, fun y2 => absurd (nI_lt (by omega) (by omega)) y2⟩, fun y => ?_⟩
    · have loop : ∀ (d c : Nat) (j1 : kw_I) (o1 : Option Nat), c + d = 8 → z_fm j j1 → (∀ k, k < 36 → k ≠ f t → j1 69 k = z_fl f P (z_xs t q) m k) → (∀ a, a < t → j1 67 a = nI (z_dg8 t q a)) → z_best z_tt (z_Fk f P m) ((8 * q + c) * 8 ^ e) o1 → z_mo f P m o1 (j1 64 6) (j1 68) → w_X3_mendFrom_50 (g_X3_mendFrom (e + 1)) 64 (nI t) (nI (z_Sq f P m t q)) T n r w Q (d + 1) (nI (f t)) (nI c) j1 := by
        intro d
        induction d with
        | zero =>
          intro c j1 o1 hc g1 g2 g3 g4 g5
          have : c = 8 := by omega
          subst this
          show s_X3_mendFrom_50 (g_X3_mendFrom (e + 1)) 64 (nI t) (nI (z_Sq f P m t q)) T n r w Q _ (nI (f t)) (nI 8) j1
          unfold s_X3_mendFrom_50
          rw [z_r64_4 hS, nI_clamp (by omega)]
          refine ⟨fun _ => ⟨z_kin (z_T69 hS) f36 (by decide), fun j2 e2 => ?_⟩, fun y => absurd (by decide) y⟩
          have o2 : ∀ b, b ≠ 69 → j2 b = j1 b := fun b hb => by rw [e2, kw_st_offF hb]
          refine hQ j2 o1 (z_fm_tr g1 ⟨fun b _ _ _ b4 => o2 b b4, fun f' _ => by rw [o2 64 (by decide)]⟩) (fun c hc => ?_) (fun a ha => by rw [o2 67 (by decide)]; exact g3 a ha) ?_ (by rw [o2 64 (by decide), o2 68 (by decide)]; exact g5)
          · rw [e2, kw_st_row]
            by_cases z : c = f t
            · rw [if_pos z, z, z_fl_at hso.1 (by omega)]
              exact (if_neg (by omega)).symm
            · rw [if_neg z]
              exact g2 c hc z
          · have e8 : (q + 1) * 8 ^ (e + 1) = (8 * q + 8) * 8 ^ e := by rw [pw, ← Nat.mul_assoc]; congr 1; omega
            rw [e8]
            exact g4
        | succ d ihd =>
          intro c j1 o1 hc g1 g2 g3 g4 g5
          have hc8 : c < 8 := by omega
          show s_X3_mendFrom_50 (g_X3_mendFrom (e + 1)) 64 (nI t) (nI (z_Sq f P m t q)) T n r w Q _ (nI (f t)) (nI c) j1
          unfold s_X3_mendFrom_50
          rw [z_r64_2 hS, z_r64_4 hS, nI_clamp (show f t < 2 ^ 31 by omega), nI_clamp (show t < 2 ^ 31 by omega), nI_1]
          refine ⟨fun y => absurd y (nI_ge (b := 8) hc8 (by decide)), fun _ => ⟨z_kin (z_T67 hS) (by omega) (by decide), fun j2 e2 => ⟨z_kin (z_T69 hS) f36 (by decide), fun j3 e3 => ?_⟩⟩⟩
          have o3 : ∀ b, b ≠ 67 → b ≠ 69 → j3 b = j1 b := fun b b1 b2 => by rw [e3, kw_st_offF b2, e2, kw_st_offF b1]
          have f3 : z_fm j j3 := z_fm_tr g1 ⟨fun b b1 b2 b3 b4 => o3 b b2 b4, fun f' _ => by rw [o3 64 (by decide) (by decide)]⟩
          -- the picture with this colour
          have chg : ∀ k, z_fl f P (z_xs (t + 1) (8 * q + c)) m k = if k = f t then nI c else z_fl f P (z_xs t q) m k := fun k => by
            have := z_fl_ch (P := P) (x := z_xs t q) (x' := z_xs (t + 1) (8 * q + c)) hso.1 (show t < m by omega) (fun a _ ha => z_xs_ch hc8 ha) k
            rw [this]
            have ex : z_xs (t + 1) (8 * q + c) t = nI c := by
              unfold z_xs
              rw [if_pos (by omega), z_dg8_1 hc8]
            rw [ex]
          have r69 : ∀ k, k < 36 → j3 69 k = z_fl f P (z_xs (t + 1) (8 * q + c)) m k := fun k hk => by
            rw [chg, e3, kw_st_row]
            by_cases z : k = f t
            · rw [if_pos z, if_pos z]
            · rw [if_neg z, if_neg z, e2, kw_st_off (by decide)]
              exact g2 k hk z
          have r67 : ∀ a, a < t + 1 → j3 67 a = nI (z_dg8 (t + 1) (8 * q + c) a) := fun a ha => by
            rw [e3, kw_st_off (by decide), e2, kw_st_row]
            by_cases z : a = t
            · rw [if_pos z, z, z_dg8_1 hc8]
            · rw [if_neg z, z_dg8_0 (by omega) hc8]
              exact g3 a (by omega)
          have e69 : j3 69 (f t) = nI c := by rw [e3, kw_st_same]
          refine z_around hS f36 e69 ?_
          have hole : z_fl f P (z_xs t q) m (f t) = -1 := by
            rw [z_fl_at hso.1 (by omega)]
            exact if_neg (by omega)
          have sset := z_sm9_set (g := z_fl f P (z_xs t q) m) (g' := z_fl f P (z_xs (t + 1) (8 * q + c)) m) (x := nI c) f36 hole (z_m1ne (by omega)) chg
          have ear : z_ar (j3 69) (nI c) (f t) = z_ar (z_fl f P (z_xs (t + 1) (8 * q + c)) m) (nI c) (f t) := by
            have rw1 : ∀ (p : Prop) [Decidable p] (k : Nat), (p → k < 36) → (if p ∧ j3 69 k ≠ -1 ∧ j3 69 k ≠ nI c then 1 else 0) = (if p ∧ z_fl f P (z_xs (t + 1) (8 * q + c)) m k ≠ -1 ∧ z_fl f P (z_xs (t + 1) (8 * q + c)) m k ≠ nI c then 1 else 0) := by
              intro p _ k hp
              by_cases z : p
              · rw [r69 k (hp z)]
              · rw [if_neg (fun y => z y.1), if_neg (fun y => z y.1)]
            unfold z_ar
            rw [rw1 _ (f t - 1) (fun _ => by omega), rw1 _ (f t + 1) (fun _ => by omega), rw1 _ (f t - 6) (fun _ => by omega), rw1 _ (f t + 6) (fun h => h)]
          rw [ear, nI_add]
          have eS : z_Sq f P m t q + z_ar (z_fl f P (z_xs (t + 1) (8 * q + c)) m) (nI c) (f t) = z_Sq f P m (t + 1) (8 * q + c) := sset.symm
          rw [eS]
          refine ih (t + 1) (8 * q + c) j3 o1 _ (by omega) (by rw [f3.2 5 (by decide)]; exact h5) (fun a ha => by rw [f3.1 66 (by decide) (by decide) (by decide) (by decide)]; exact h66 a ha) r69 r67 g4 (by rw [o3 64 (by decide) (by decide), o3 68 (by decide) (by decide)]; exact g5) (fun j4 o4 b1 b2 b3 b4 b5 => ?_)
          rw [nI_1]
          refine ihd (c + 1) j4 o4 (by omega) (z_fm_tr f3 b1) (fun k hk hne => ?_) (fun a ha => ?_) b4 b5
          · rw [b2 k hk, chg, if_neg hne]
          · rw [b3 a (by omega), z_dg8_0 ha hc8]
      refine loop 8 0 j o (by omega) ⟨fun _ _ _ _ _ => rfl, fun _ _ => rfl⟩ (fun k hk _ => h69 k hk) h67 ?_ hmo
      have e8 : q * 8 ^ (e + 1) = (8 * q + 0) * 8 ^ e := by rw [pw, ← Nat.mul_assoc]; congr 1; omega
      rw [e8] at hb
      exact hb
    · cases o with
      | none =>
        rw [show j 64 6 = 61 from hmo] at y
        exact absurd (z_maxI (by omega)) y
      | some k =>
        have l2 := z_Sq_le f P m m k
        rw [hmo.1] at y
        have y' : ¬ z_Sq f P m t q < z_Sq f P m m k := fun z => y (nI_lt z (by omega))
        refine hQ j (some k) ⟨fun _ _ _ _ _ => rfl, fun _ _ => rfl⟩ h69 h67 ?_ hmo
        rw [Nat.succ_mul]
        refine z_best_keepN hb _ (fun k' h1 h2 => ?_)
        have := z_Sq_mono (P := P) hso (e + 1) t q k' ht h1 (by rw [Nat.succ_mul]; exact h2)
        unfold z_Fk
        omega
theorem z_mendAll (hS : z_S T r) (hm : m ≤ 5) (hso : z_so f m) (h5 : i 64 5 = nI m) (h66 : ∀ a, a < m → i 66 a = nI (f a)) {ga : Nat} (hga : T ga = (1, 36)) (hg : ∀ c, c < 36 → i ga c = P c) (hB : ∀ c, c < 36 → P c ≠ -1) {Q : kw_I → Prop} (hQ : ∀ i' k, z_fm i i' → z_best z_tt (z_Fk f P m) (8 ^ m) (some k) → i' 64 6 = nI (z_Sq f P m m k) → (∀ a, a < m → i' 68 a = nI (z_dg8 m k a)) → Q i') : w_X3_mendAll 64 ga T n r i w Q := by
  unfold w_X3_mendAll
  rw [z_r64_4 hS]
  refine ⟨z_cpo hga (z_T69 hS) rfl (by decide), fun i1 e1 => ⟨m + 1, ?_⟩⟩
  have e1' : i1 = kw_cpy i ga 69 0 0 36 := e1
  have o1 : ∀ b, b ≠ 69 → i1 b = i b := fun b hb => by rw [e1', z_cpy_off hb]
  have r1 : ∀ c, c < 36 → i1 69 c = P c := fun c hc => by rw [e1', z_cpy_row hc]; exact hg c hc
  have loop : ∀ (d a : Nat) (j : kw_I), a + d = m → z_io 69 i1 j → (∀ c, c < 36 → j 69 c = z_fl f P (fun _ => -1) a c) → w_X3_mendAll_14 64 ga T n r w Q (d + 1) (nI a) j := by
    intro d
    induction d with
    | zero =>
      intro a j ha g1 g2
      have : a = m := by omega
      subst this
      show s_X3_mendAll_14 64 ga T n r w Q _ (nI a) j
      unfold s_X3_mendAll_14
      have j5 : j 64 5 = nI a := by rw [g1 64 (by decide), o1 64 (by decide)]; exact h5
      rw [j5, z_r64_4 hS]
      refine ⟨fun _ j2 e2 => z_seams9 (z_T69 hS) ⟨a + 1, by omega, ?_⟩, fun q => absurd (nI_le (Nat.le_refl _) (by omega)) q⟩
      have o2 : ∀ b, b ≠ 64 → j2 b = j b := fun b hb => by rw [e2, kw_st_offF hb]
      have x0 : z_xs 0 0 = fun _ => (-1 : Int32) := by
        funext b
        exact if_neg (by omega)
      have r2 : ∀ c, c < 36 → j2 69 c = z_fl f P (z_xs 0 0) a c := fun c hc => by
        rw [o2 69 (by decide), x0]
        exact g2 c hc
      rw [z_sm9_eq r2]
      refine z_mendFrom (P := P) hS hm hso a 0 0 j2 none _ (by omega) (by rw [e2, kw_st_row, if_neg (by decide)]; exact j5) (fun b hb => by rw [o2 66 (by decide), g1 66 (by decide), o1 66 (by decide)]; exact h66 b hb) r2 (fun b hb => absurd hb (Nat.not_lt_zero b)) (by rw [Nat.zero_mul]; exact z_best_0) (by show j2 64 6 = 61; rw [e2, kw_st_same]) (fun j3 o3 b1 b2 b3 b4 b5 => ?_)
      rw [Nat.zero_add, Nat.one_mul] at b4
      cases o3 with
      | none =>
        have := b4 0 (Nat.pow_pos (by decide))
        cases this
      | some k =>
        refine hQ j3 k ⟨fun b c1 c2 c3 c4 => by rw [b1.1 b c1 c2 c3 c4, o2 b c1, g1 b c4, o1 b c4], fun f' hf' => by rw [b1.2 f' hf', e2, kw_st_row, if_neg hf', g1 64 (by decide), o1 64 (by decide)]⟩ b4 b5.1 b5.2
    | succ d ih =>
      intro a j ha g1 g2
      show s_X3_mendAll_14 64 ga T n r w Q _ (nI a) j
      unfold s_X3_mendAll_14
      have j5 : j 64 5 = nI m := by rw [g1 64 (by decide), o1 64 (by decide)]; exact h5
      have j66 : j 66 a = nI (f a) := by rw [g1 66 (by decide), o1 66 (by decide)]; exact h66 a (by omega)
      have f36 := hso.2 a (by omega)
      rw [j5, z_r64_4 hS, z_r64_1 hS, nI_clamp (show a < 2 ^ 31 by omega), j66, nI_clamp (show f a < 2 ^ 31 by omega), nI_1]
      refine ⟨fun q => absurd q (nI_ge (by omega) (by omega)), fun _ => ⟨z_kin (z_T66 hS) (by omega) (by decide), z_kin (z_T69 hS) f36 (by decide), fun j2 e2 => ih (a + 1) j2 (by omega) (by rw [e2]; exact z_io_st g1) (fun c hc => ?_)⟩⟩
      rw [e2, kw_st_row]
      show _ = if c = f a then (-1 : Int32) else z_fl f P (fun _ => -1) a c
      by_cases q : c = f a
      · rw [if_pos q, if_pos q]
      · rw [if_neg q, if_neg q]
        exact g2 c hc
  exact loop m 0 i1 (by omega) (fun _ _ => rfl) r1
end ZME
