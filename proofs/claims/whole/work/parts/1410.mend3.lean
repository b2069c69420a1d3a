-- MENDING, BY THE REFERENCE
/-- the answer to what, where m cells f are taken -/
def z_mR (P : Nat → Int32) (m : Nat) (f : Nat → Nat) (x R : Int32) : Prop := (¬ z_B x (m + 1) ∧ R = -1) ∨ ∃ t k, t ≤ m ∧ x = nI t ∧ z_best z_tt (z_Fk f P m) (8 ^ m) (some k) ∧ ((t = 0 ∧ R = nI (z_Sq f P m m k)) ∨ (0 < t ∧ R = nI (z_dg8 m k (t - 1))))
def z_bro (f : Nat → Nat) (P : Nat → Int32) (m : Nat) (o : Option Nat) (x9 x10 : Int32) : Prop := match o with
  | none => x9 = -1
  | some k => x9 = nI k ∧ x10 = nI (z_Sq f P m m k)
theorem z_8pow {m : Nat} (h : m ≤ 5) : 8 ^ m ≤ 32768 := Nat.pow_le_pow_right (n := 8) (j := 5) (by decide) h
section ZMR
variable {T : kw_T} {n : Nat} {r : kw_R} {i : kw_I} {w : kw_L} {nv : Nat} {L : List z_Sm} {g : Nat → Int32} {x6 R : Int32}
theorem z_mend224 (hS : z_S T r) (h : z_Inv T n r i w) (hK : z_Kr (i 86) nv) (hLk : z_Lk (i 86) L) {m : Nat} {f : Nat → Nat} (hm : m ≤ 5) (hso : z_so f m) (h35 : i 84 35 = nI m) (h101 : ∀ a, a < m → i 101 a = nI (f a)) (hR : z_mR (z_on (i 86) L nv) m f x6 R) {x1 x2 x3 x4 x5 : Int32} : w_X10_mend_224 84 x1 x2 x3 x4 x5 x6 T n r w (fun v2 i2 => R = v2 ∧ lw_N z_Inv n T n r i2 w) i := by
  have hn := hK.1
  unfold w_X10_mend_224
  rw [h35]
  refine z_lies (m := m) (by omega) (fun hb => z_t2 ?_) (fun hb => z_f2 ?_)
  rotate_left
  · rcases hR with ⟨_, e⟩ | ⟨t, k, h1, h2, _⟩
    · exact ⟨e, z_N h⟩
    · exact absurd ⟨t, by omega, h2⟩ hb
  obtain ⟨t, k, ht, rfl, hbest, hans⟩ : ∃ t k, t ≤ m ∧ x6 = nI t ∧ z_best z_tt (z_Fk f (z_on (i 86) L nv) m) (8 ^ m) (some k) ∧ ((t = 0 ∧ R = nI (z_Sq f (z_on (i 86) L nv) m m k)) ∨ (0 < t ∧ R = nI (z_dg8 m k (t - 1)))) := by
    rcases hR with ⟨e, _⟩ | e
    · exact absurd hb e
    · exact e
  have ⟨P, hP⟩ : ∃ P, P = z_on (i 86) L nv := ⟨_, rfl⟩
  rw [← hP] at hbest hans
  have p8 := z_8pow hm
  have Bon : ∀ c, c < 36 → z_B (P c) 8 := by rw [hP]; exact fun c hc => z_go_B (fun c hc => hK.2.2.2.1 0 c (by decide) hc) (fun v hv => (z_Kr_W hK hv).1) (fun v c x _ _ q => by cases q) nv (by omega) c hc
  refine z_looks (L := L) hS hK hLk fun j q1 q2 q3 => ⟨37, ?_⟩
  have hj := z_Inv_gq h (by decide) q1
  have j86 : j 86 = i 86 := q1.1 86 (by decide) (by decide) (by decide)
  have j35 : j 84 35 = nI m := by rw [q1.2 35 (by decide) (by decide) (by decide) (by decide)]; exact h35
  have j101 : ∀ a, a < m → j 101 a = nI (f a) := fun a ha => by rw [q1.1 101 (by decide) (by decide) (by decide)]; exact h101 a ha
  have stp : ∀ j2, z_io 102 j j2 → z_Inv T n r j2 w := fun j2 h2 => z_Inv_gz hj (fun b _ _ _ b4 => h2 b b4) (fun f _ _ _ _ _ => by rw [h2 84 (by decide)]) rfl
  -- the digits of an answer
  have digs : ∀ (d s v : Nat) (j2 : kw_I), t ≤ s → s = t + d → s ≤ m → v = k / 8 ^ (m - s) → 0 < t → z_io 102 j j2 → w_X10_mend_423 84 x1 x2 x3 x4 x5 (nI t) T n r w (fun v2 i2 => R = v2 ∧ lw_N z_Inv n T n r i2 w) (d + 1) (nI v) (nI s) j2 := by
    intro d
    induction d with
    | zero =>
      intro s v j2 h1 h2 h3 h4 h5 h6
      have : s = t := by omega
      subst this
      have klt : k < 8 ^ m := hbest.1
      have vle : v ≤ k := by rw [h4]; exact Nat.div_le_self _ _
      refine ⟨fun _ => ⟨?_, stp j2 h6, by omega⟩, fun q => absurd (nI_le (Nat.le_refl _) (by omega)) q⟩
      have em : nI v - nI v / (8 : Int32) * 8 = nI (v % 8) := pk_rem (d := 8) (by omega) (by decide) (by decide)
      rw [em]
      rcases hans with ⟨e, _⟩ | ⟨_, e⟩
      · omega
      · rw [e, h4]
        unfold z_dg8
        rw [show m - 1 - (s - 1) = m - s by omega]
    | succ d ih =>
      intro s v j2 h1 h2 h3 h4 h5 h6
      have klt : k < 8 ^ m := hbest.1
      have vle : v ≤ k := by rw [h4]; exact Nat.div_le_self _ _
      show s_X10_mend_423 84 x1 x2 x3 x4 x5 (nI t) T n r w _ _ (nI v) (nI s) j2
      unfold s_X10_mend_423
      have ed : nI v / (8 : Int32) = nI (v / 8) := pk_div (d := 8) (by omega) (by decide) (by decide)
      have e2 : nI s + (-1 : Int32) = nI (s - 1) := by
        rw [show s = s - 1 + 1 by omega, z_m1', show s - 1 + 1 - 1 = s - 1 by omega]
      rw [ed, e2]
      refine ⟨fun q => absurd q (nI_ge (by omega) (by omega)), fun _ => ih (s - 1) (v / 8) j2 (by omega) (by omega) (by omega) ?_ h5 h6⟩
      rw [h4, Nat.div_div_eq_div_mul, show m - (s - 1) = (m - s) + 1 by omega, Nat.pow_succ]
  -- all mendings
  have all : ∀ (d p : Nat) (j2 : kw_I) (o : Option Nat) (x9 x10 : Int32), p + d = 8 ^ m → z_io 102 j j2 → (∀ c, c < 36 → (∀ a, a < m → f a ≠ c) → j2 102 c = P c) → z_best z_tt (z_Fk f P m) p o → z_bro f P m o x9 x10 → w_X10_mend_315 84 x1 x2 x3 x4 x5 (nI t) T n r w (fun v2 i2 => R = v2 ∧ lw_N z_Inv n T n r i2 w) (d + 1) (nI (8 ^ m)) x9 x10 (nI p) j2 := by
    intro d
    induction d with
    | zero =>
      intro p j2 o x9 x10 hd g1 g2 g3 g4
      have : p = 8 ^ m := by omega
      subst this
      have eo := z_best_one hbest g3
      subst eo
      have klt : k < 8 ^ m := hbest.1
      show s_X10_mend_315 84 x1 x2 x3 x4 x5 (nI t) T n r w _ _ (nI (8 ^ m)) x9 x10 (nI (8 ^ m)) j2
      unfold s_X10_mend_315
      refine ⟨fun _ => ⟨fun q => ⟨m - t + 1, ?_⟩, fun q => ⟨?_, stp j2 g1, by omega⟩⟩, fun q => absurd (nI_le (Nat.le_refl _) (by omega)) q⟩
      · have t0 : 0 < t := by
          rcases Nat.eq_zero_or_pos t with z | z
          · exact absurd (by rw [z]; rfl) q
          · exact z
        rw [g4.1, g1 84 (by decide), j35]
        exact digs (m - t) m k j2 (by omega) (by omega) (Nat.le_refl _) (by rw [Nat.sub_self, Nat.pow_zero, Nat.div_one]) t0 g1
      · have t0 : t = 0 := (nI_eq (b := 0) (by omega) (by decide)).mp q
        rcases hans with ⟨_, e⟩ | ⟨e, _⟩
        · rw [e, g4.2]
        · omega
    | succ d ih =>
      intro p j2 o x9 x10 hd g1 g2 g3 g4
      show s_X10_mend_315 84 x1 x2 x3 x4 x5 (nI t) T n r w _ _ (nI (8 ^ m)) x9 x10 (nI p) j2
      unfold s_X10_mend_315
      rw [g1 84 (by decide), j35]
      refine ⟨fun q => absurd q (nI_ge (by omega) (by omega)), fun _ => ⟨m + 1, ?_⟩⟩
      -- one mending
      have one : ∀ (e : Nat) (j3 : kw_I), e ≤ m → z_io 102 j j3 → (∀ c, c < 36 → (∀ a, a < m → f a ≠ c) → j3 102 c = P c) → (∀ a, e ≤ a → a < m → j3 102 (f a) = nI (z_dg8 m p a)) → w_X10_mend_334 84 x1 x2 x3 x4 x5 (nI t) T n r w (fun v2 i2 => R = v2 ∧ lw_N z_Inv n T n r i2 w) (w_X10_mend_315 84 x1 x2 x3 x4 x5 (nI t) T n r w (fun v2 i2 => R = v2 ∧ lw_N z_Inv n T n r i2 w) (d + 1)) (e + 1) (nI (8 ^ m)) x9 x10 (nI p) (nI (p / 8 ^ (m - e))) (nI e - 1) j3 := by
        intro e
        induction e with
        | zero =>
          intro j3 he k1 k2 k3
          show s_X10_mend_334 84 x1 x2 x3 x4 x5 (nI t) T n r w _ _ _ (nI (8 ^ m)) x9 x10 (nI p) _ (nI 0 - 1) j3
          unfold s_X10_mend_334
          rw [z_r84_34 hS]
          refine ⟨fun _ => z_seams10 (fr := 0) (z_T102 hS) (by omega) (by decide) ?_, fun q => absurd (by decide) q⟩
          have row : ∀ c, c < 36 → j3 102 c = z_fl f P (z_xs m p) m c := by
            intro c hc
            by_cases y : ∃ a, a < m ∧ f a = c
            · obtain ⟨a, ha, rfl⟩ := y
              rw [z_fl_at hso.1 ha, k3 a (Nat.zero_le _) ha]
              exact (if_pos ha).symm
            · have hh : ∀ a, a < m → f a ≠ c := fun a ha e => y ⟨a, ha, e⟩
              rw [z_fl_off hh]
              exact k2 c hc hh
          have ne1 : ∀ c, c < 36 → z_fl f P (z_xs m p) m c ≠ -1 := by
            intro c hc
            by_cases y : ∃ a, a < m ∧ f a = c
            · obtain ⟨a, ha, rfl⟩ := y
              rw [z_fl_at hso.1 ha]
              have : z_xs m p a = nI (z_dg8 m p a) := if_pos ha
              rw [this]
              exact z_m1ne (by have := z_dg8_lt m p a; omega)
            · rw [z_fl_off (fun a ha e => y ⟨a, ha, e⟩)]
              exact z_B_ne (Bon c hc) (by decide)
          have es : z_sm10 (fun c => j3 102 (0 + c)) 36 = z_Sq f P m m p := by
            unfold z_Sq
            rw [z_sm_eq ne1]
            exact z_sm10_eq (fun c hc => by rw [Nat.zero_add]; exact row c hc)
          rw [es]
          have sle := z_Sq_le f P m m p
          have go : ∀ (o2 : Option Nat) (y9 y10 : Int32), z_best z_tt (z_Fk f P m) (p + 1) o2 → z_bro f P m o2 y9 y10 → w_X10_mend_403 84 x1 x2 x3 x4 x5 (nI t) T n r w (fun v2 i2 => R = v2 ∧ lw_N z_Inv n T n r i2 w) (w_X10_mend_315 84 x1 x2 x3 x4 x5 (nI t) T n r w (fun v2 i2 => R = v2 ∧ lw_N z_Inv n T n r i2 w) (d + 1)) (nI (8 ^ m)) y9 y10 (nI p) j3 := by
            intro o2 y9 y10 u1 u2
            unfold w_X10_mend_403
            rw [nI_1]
            exact ih (p + 1) j3 o2 y9 y10 (by omega) k1 k2 u1 u2
          have take : (∀ k', o = some k' → z_Fk f P m k' < z_Fk f P m p) → w_X10_mend_395 84 x1 x2 x3 x4 x5 (nI t) T n r w (fun v2 i2 => R = v2 ∧ lw_N z_Inv n T n r i2 w) (w_X10_mend_315 84 x1 x2 x3 x4 x5 (nI t) T n r w (fun v2 i2 => R = v2 ∧ lw_N z_Inv n T n r i2 w) (d + 1)) (nI (8 ^ m)) (nI p) (nI (z_Sq f P m m p)) j3 := fun hh => go (some p) _ _ (z_best_take g3 rfl hh) ⟨rfl, rfl⟩
          cases o with
          | none => exact ⟨fun _ => take (fun k' hk' => by cases hk'), fun q => absurd g4 q⟩
          | some k' =>
            have l2 := z_Sq_le f P m m k'
            have k'lt : k' < p := g3.1
            rw [g4.1, g4.2]
            refine ⟨fun q => absurd q (z_m1ne (by omega)), fun _ => ⟨fun q => take (fun k2 hk2 => ?_), fun q => go (some k') _ _ (z_best_keep g3 ?_) ⟨rfl, rfl⟩⟩⟩
            · cases hk2
              have := (nI_ltI (by omega) (by omega)).mp q
              unfold z_Fk
              omega
            · have : ¬ z_Sq f P m m p < z_Sq f P m m k' := fun z => q (nI_lt z (by omega))
              unfold z_Fk
              omega
        | succ e ihe =>
          intro j3 he k1 k2 k3
          have f36 := hso.2 e (by omega)
          have vle : p / 8 ^ (m - (e + 1)) ≤ p := Nat.div_le_self _ _
          show s_X10_mend_334 84 x1 x2 x3 x4 x5 (nI t) T n r w _ _ _ (nI (8 ^ m)) x9 x10 (nI p) _ (nI (e + 1) - 1) j3
          unfold s_X10_mend_334
          have em : nI (p / 8 ^ (m - (e + 1))) - nI (p / 8 ^ (m - (e + 1))) / (8 : Int32) * 8 = nI (p / 8 ^ (m - (e + 1)) % 8) := pk_rem (d := 8) (by omega) (by decide) (by decide)
          have ed : nI (p / 8 ^ (m - (e + 1))) / (8 : Int32) = nI (p / 8 ^ (m - (e + 1)) / 8) := pk_div (d := 8) (by omega) (by decide) (by decide)
          have e101 : j3 101 e = nI (f e) := by rw [k1 101 (by decide)]; exact j101 e (by omega)
          rw [z_m1, z_r84_33 hS, z_r84_34 hS, nI_clamp (show e < 2 ^ 31 by omega), e101, nI_clamp (show f e < 2 ^ 31 by omega), em, ed]
          refine ⟨fun q => absurd q (nI_pos (by omega)), fun _ => ⟨z_kin (z_T101 hS) (by omega) (by decide), z_kin (z_T102 hS) f36 (by decide), fun j4 e4 => ?_⟩⟩
          have r4 : ∀ c, j4 102 c = if c = f e then nI (z_dg8 m p e) else j3 102 c := fun c => by
            rw [e4, kw_st_row]
            unfold z_dg8
            rw [show m - 1 - e = m - (e + 1) by omega]
          have nx := ihe j4 (by omega) (by rw [e4]; exact z_io_st k1) (fun c hc hne => by rw [r4, if_neg (fun z => hne e (by omega) z.symm)]; exact k2 c hc hne) (fun a h1 h2 => by
            rw [r4]
            by_cases y : a = e
            · rw [if_pos (by rw [y]), y]
            · have := hso.1 e a (by omega) h2
              rw [if_neg (by omega)]
              exact k3 a (by omega) h2)
          rw [Nat.div_div_eq_div_mul, ← Nat.pow_succ, show (m - (e + 1)).succ = m - e by omega]
          rw [Int32.sub_eq_add_neg] at nx
          exact nx
      have := one m j2 (Nat.le_refl _) g1 g2 (fun a h1 h2 => by omega)
      rw [Nat.sub_self, Nat.pow_zero, Nat.div_one] at this
      exact this
  -- how many they are
  have many : ∀ (d a : Nat) (j2 : kw_I), a + d = m → z_io 102 j j2 → (∀ c, c < 36 → j2 102 c = P c) → w_X10_mend_284 84 x1 x2 x3 x4 x5 (nI t) T n r w (fun v2 i2 => R = v2 ∧ lw_N z_Inv n T n r i2 w) (d + 1) (nI (8 ^ a)) (nI a) j2 := by
    intro d
    induction d with
    | zero =>
      intro a j2 ha g1 g2
      have : a = m := by omega
      subst this
      show s_X10_mend_284 84 x1 x2 x3 x4 x5 (nI t) T n r w _ _ (nI (8 ^ a)) (nI a) j2
      unfold s_X10_mend_284
      rw [g1 84 (by decide), j35]
      exact ⟨fun _ => ⟨8 ^ a + 1, all (8 ^ a) 0 j2 none (-1) 0 (by omega) g1 (fun c hc _ => g2 c hc) z_best_0 rfl⟩, fun q => absurd (nI_le (Nat.le_refl _) (by omega)) q⟩
    | succ d ih =>
      intro a j2 ha g1 g2
      show s_X10_mend_284 84 x1 x2 x3 x4 x5 (nI t) T n r w _ _ (nI (8 ^ a)) (nI a) j2
      unfold s_X10_mend_284
      rw [g1 84 (by decide), j35, nI_1, show nI (8 ^ a) * (8 : Int32) = nI (8 ^ a * 8) from pk_mul _ 8, ← Nat.pow_succ]
      exact ⟨fun q => absurd q (nI_ge (by omega) (by omega)), fun _ => ih (a + 1) j2 (by omega) g1 g2⟩
  -- the end is copied
  have copy : ∀ (d c : Nat) (j2 : kw_I), c + d = 36 → z_io 102 j j2 → (∀ c', c' < c → j2 102 c' = P c') → w_X10_mend_246 84 x1 x2 x3 x4 x5 (nI t) T n r w (fun v2 i2 => R = v2 ∧ lw_N z_Inv n T n r i2 w) (d + 1) (nI c) j2 := by
    intro d
    induction d with
    | zero =>
      intro c j2 hc g1 g2
      have : c = 36 := by omega
      subst this
      exact ⟨fun _ => ⟨m + 1, many m 0 j2 (by omega) g1 g2⟩, fun q => absurd (by decide) q⟩
    | succ d ih =>
      intro c j2 hc g1 g2
      show s_X10_mend_246 84 x1 x2 x3 x4 x5 (nI t) T n r w _ _ (nI c) j2
      unfold s_X10_mend_246
      refine ⟨fun q => absurd q (nI_ge (b := 36) (by omega) (by decide)), fun _ => z_villages hS ?_⟩
      rw [g1 86 (by decide), j86, hK.2.1, show (36 : Int32) * nI nv = nI (36 * nv) from pk_mul 36 nv]
      dsimp only
      rw [nI_add, z_r84_22 hS, z_r84_34 hS, nI_clamp (show 36 * nv + c < 2 ^ 31 by omega), nI_clamp (show c < 2 ^ 31 by omega), nI_1]
      refine ⟨z_kin (z_T96 hS) (by omega) (by decide), z_kin (z_T102 hS) (by omega) (by decide), fun j3 e3 => ih (c + 1) j3 (by omega) (by rw [e3]; exact z_io_st g1) (fun c' hc' => ?_)⟩
      rw [e3, kw_st_row]
      by_cases y : c' = c
      · rw [if_pos y, g1 96 (by decide), y, hP]
        exact q3 nv (Nat.le_refl _) c (by omega)
      · rw [if_neg y]
        exact g2 c' (by omega)
  exact copy 36 0 j (by omega) (fun _ _ => rfl) (fun c' hc' => absurd hc' (Nat.not_lt_zero c'))
theorem z_mend10 (h : z_Inv T n r i w) (hK : z_Kr (i 86) nv) (hLk : z_Lk (i 86) L) {o : Option (Nat × (Nat → Nat))} (hT : z_TK g 5 0 (fun _ => 0) o) (hR : match o with | none => R = -1 | some q => z_mR (z_on (i 86) L nv) q.1 q.2 x6 R) : w_X10_mend 84 (g 0) (g 1) (g 2) (g 3) (g 4) x6 T n r i w (fun v2 i2 => R = v2 ∧ lw_N z_Inv n T n r i2 w) := by
  have hS := h.1
  -- what stands behind some cells
  have ⟨P, hP⟩ : ∃ P : kw_I → Nat → (Nat → Nat) → Prop, P = fun j m f => (∀ b, b ≠ 84 → b ≠ 101 → j b = i b) ∧ (∀ q, q ≠ 35 → j 84 q = i 84 q) ∧ j 84 35 = nI m ∧ (∀ a, a < m → j 101 a = nI (f a)) ∧ z_so f m := ⟨_, rfl⟩
  have PI : ∀ j m f, P j m f → z_Inv T n r j w := by
    intro j m f hp
    rw [hP] at hp
    exact z_Inv_gz h (fun b b1 _ b3 _ => hp.1 b b1 b3) (fun f _ _ _ f4 _ => hp.2.1 f (by omega)) rfl
  have fail : ∀ j m f, P j m f → o = none → (R = -1 ∧ lw_N z_Inv n T n r j w) := by
    intro j m f hp ho
    subst ho
    exact ⟨hR, z_N (PI j m f hp)⟩
  have c224 : ∀ j m f, P j m f → m ≤ 5 → o = some (m, f) → w_X10_mend_224 84 (g 0) (g 1) (g 2) (g 3) (g 4) x6 T n r w (fun v2 i2 => R = v2 ∧ lw_N z_Inv n T n r i2 w) j := by
    intro j m f hp hm ho
    subst ho
    have hj := PI j m f hp
    rw [hP] at hp
    have e86 : j 86 = i 86 := hp.1 86 (by decide) (by decide)
    exact z_mend224 (nv := nv) (L := L) hS hj (by rw [e86]; exact hK) (by rw [e86]; exact hLk) hm hp.2.2.2.2 hp.2.2.1 hp.2.2.2.1 (by rw [e86]; exact hR)
  -- a cell is eaten
  have eat : ∀ (j : kw_I) (m : Nat) (f : Nat → Nat) (d : Nat) (A B : kw_I → Prop), P j m f → m < 5 → z_TK g (d + 1) m f o → g m ≠ -1 → (∀ j', (R = -1 ∧ lw_N z_Inv n T n r j' w) → A j') → (∀ j' f', P j' (m + 1) f' → z_TK g d (m + 1) f' o → B j') → w_X10_eats 84 (g m) T n r j w (fun v i' => (v = 0 → A i') ∧ (¬ v = 0 → B i')) := by
    intro j m f d A B hp hm ht hne hA hB
    have hp0 := hp
    rw [hP] at hp
    obtain ⟨b1, b2, b3, b4, b5⟩ := hp
    rcases ht with ⟨e, _⟩ | ⟨e, _⟩ | ⟨_, hb, ho⟩ | ⟨c, p, hc, ec, hpq, hcase⟩
    · exact absurd e hne
    · exact absurd e hne
    · exact z_isCell10 (fun q => absurd q hb) (fun _ => z_f2 (z_f (hA j (fail j m f hp0 ho))))
    · rw [ec]
      refine z_eats10 hS hm hc b5 hpq b3 b4 (fun hd => z_f ?_) (fun hno j2 u1 u2 u3 u4 => z_t ?_)
      · rcases hcase with ⟨_, _, ho⟩ | ⟨hno, _⟩
        · exact hA j (fail j m f hp0 ho)
        · exact absurd hd hno
      · rcases hcase with ⟨h1, h2, _⟩ | ⟨_, ht'⟩
        · exact absurd ⟨h1, h2⟩ hno
        · refine hB j2 (z_insf f p c) ?_ ht'
          rw [hP]
          exact ⟨fun b x1 x2 => (u1 b x1 x2).trans (b1 b x1 x2), fun q hq => (u2 q hq).trans (b2 q hq), u3, u4, z_so_ins b5 hpq hc hno⟩
  have eat' : ∀ (j : kw_I) (m : Nat) (f : Nat → Nat) (d : Nat) (A B : kw_I → Prop), P j m f → m < 5 → z_TK g (d + 1) m f o → g m ≠ -1 → (∀ j', (R = -1 ∧ lw_N z_Inv n T n r j' w) → A j') → (∀ j' f', P j' (m + 1) f' → z_TK g d (m + 1) f' o → B j') → w_X10_eats 84 (g m) T n r j w (fun v i' => (¬ v = 0 → B i') ∧ (v = 0 → A i')) := by
    intro j m f d A B hp hm ht hne hA hB
    have hp0 := hp
    rw [hP] at hp
    obtain ⟨b1, b2, b3, b4, b5⟩ := hp
    rcases ht with ⟨e, _⟩ | ⟨e, _⟩ | ⟨_, hb, ho⟩ | ⟨c, p, hc, ec, hpq, hcase⟩
    · exact absurd e hne
    · exact absurd e hne
    · exact z_isCell10 (fun q => absurd q hb) (fun _ => z_f2 (z_f2 (hA j (fail j m f hp0 ho))))
    · rw [ec]
      refine z_eats10 hS hm hc b5 hpq b3 b4 (fun hd => z_f2 ?_) (fun hno j2 u1 u2 u3 u4 => z_t2 ?_)
      · rcases hcase with ⟨_, _, ho⟩ | ⟨hno, _⟩
        · exact hA j (fail j m f hp0 ho)
        · exact absurd hd hno
      · rcases hcase with ⟨h1, h2, _⟩ | ⟨_, ht'⟩
        · exact absurd ⟨h1, h2⟩ hno
        · refine hB j2 (z_insf f p c) ?_ ht'
          rw [hP]
          exact ⟨fun b x1 x2 => (u1 b x1 x2).trans (b1 b x1 x2), fun q hq => (u2 q hq).trans (b2 q hq), u3, u4, z_so_ins b5 hpq hc hno⟩
  -- no more, and none is told
  have stop : ∀ (m d : Nat) (f : Nat → Nat), z_TK g (d + 1) m f o → g m = -1 → ((∀ k, m < k → k < 5 → g k = -1) ∧ o = some (m, f)) ∨ ((∃ k, m < k ∧ k < 5 ∧ g k ≠ -1) ∧ o = none) := by
    intro m d f ht e
    rcases ht with ⟨_, h1, h2⟩ | ⟨_, h1, h2⟩ | ⟨h1, _⟩ | ⟨c, p, hc, ec, _⟩
    · exact Or.inl ⟨h1, h2⟩
    · exact Or.inr ⟨h1, h2⟩
    · exact absurd e h1
    · rw [ec] at e
      exact absurd e (z_m1ne (by omega))
  -- from behind: 'more' is false
  have n207 : ∀ j m f, P j m f → m ≤ 5 → o = some (m, f) → g 4 = -1 → w_X10_mend_207 84 (g 0) (g 1) (g 2) (g 3) (g 4) x6 T n r w (fun v2 i2 => R = v2 ∧ lw_N z_Inv n T n r i2 w) j := fun j m f hp hm ho e => ⟨fun _ => c224 j m f hp hm ho, fun q => absurd e q⟩
  have n194 : ∀ j m f, P j m f → m ≤ 5 → o = some (m, f) → g 4 = -1 → w_X10_mend_194 84 (g 0) (g 1) (g 2) (g 3) (g 4) x6 T n r w (fun v2 i2 => R = v2 ∧ lw_N z_Inv n T n r i2 w) 0 j := fun j m f hp hm ho e => z_f2 ⟨fun _ => n207 j m f hp hm ho e, fun q => absurd e q⟩
  have n143 : ∀ j m f, P j m f → m ≤ 5 → o = some (m, f) → g 3 = -1 → g 4 = -1 → w_X10_mend_143 84 (g 0) (g 1) (g 2) (g 3) (g 4) x6 T n r w (fun v2 i2 => R = v2 ∧ lw_N z_Inv n T n r i2 w) 0 j := fun j m f hp hm ho e3 e4 => z_f2 ⟨fun q => absurd e3 q, fun _ => ⟨fun _ => z_f (z_f (n194 j m f hp hm ho e4)), fun q => absurd e4 q⟩⟩
  have n89 : ∀ j m f, P j m f → m ≤ 5 → o = some (m, f) → g 2 = -1 → g 3 = -1 → g 4 = -1 → w_X10_mend_89 84 (g 0) (g 1) (g 2) (g 3) (g 4) x6 T n r w (fun v2 i2 => R = v2 ∧ lw_N z_Inv n T n r i2 w) 0 j := fun j m f hp hm ho e2 e3 e4 => z_f2 ⟨fun q => absurd e2 q, fun _ => ⟨fun q => absurd e3 q, fun _ => ⟨fun _ => z_f (z_f (n143 j m f hp hm ho e3 e4)), fun q => absurd e4 q⟩⟩⟩
  have n30 : ∀ j m f, P j m f → m ≤ 5 → o = some (m, f) → g 1 = -1 → g 2 = -1 → g 3 = -1 → g 4 = -1 → w_X10_mend_30 84 (g 0) (g 1) (g 2) (g 3) (g 4) x6 T n r w (fun v2 i2 => R = v2 ∧ lw_N z_Inv n T n r i2 w) 0 j := fun j m f hp hm ho e1 e2 e3 e4 => z_f2 ⟨fun q => absurd e1 q, fun _ => ⟨fun q => absurd e2 q, fun _ => ⟨fun q => absurd e3 q, fun _ => ⟨fun _ => z_f (z_f (n89 j m f hp hm ho e2 e3 e4)), fun q => absurd e4 q⟩⟩⟩⟩
  -- from behind: 'more' is true, m cells are taken
  have t207 : ∀ j f, P j 4 f → z_TK g 1 4 f o → w_X10_mend_207 84 (g 0) (g 1) (g 2) (g 3) (g 4) x6 T n r w (fun v2 i2 => R = v2 ∧ lw_N z_Inv n T n r i2 w) j := by
    intro j f hp ht
    refine ⟨fun e => ?_, fun e => eat' j 4 f 0 _ _ hp (by decide) ht e (fun j' hh => hh) (fun j' f' hp' ht' => c224 j' 5 f' hp' (by decide) ht')⟩
    rcases stop 4 0 f ht e with ⟨_, ho⟩ | ⟨⟨k, h1, h2, _⟩, _⟩
    · exact c224 j 4 f hp (by decide) ho
    · omega
  have t162 : ∀ j f, P j 3 f → z_TK g 2 3 f o → w_X10_mend_162 84 (g 0) (g 1) (g 2) (g 3) (g 4) x6 T n r w (fun v2 i2 => R = v2 ∧ lw_N z_Inv n T n r i2 w) 1 j := by
    intro j f hp ht
    refine z_t ⟨fun e => z_f ?_, fun e => z_t (eat j 3 f 1 _ _ hp (by decide) ht e (fun j' hh => hh) (fun j' f' hp' ht' => z_t2 (t207 j' f' hp' ht')))⟩
    rcases stop 3 1 f ht e with ⟨h1, ho⟩ | ⟨⟨k, h1, h2, h3⟩, ho⟩
    · exact n194 j 3 f hp (by decide) ho (h1 4 (by decide) (by decide))
    · have hk : k = 4 := by omega
      rw [hk] at h3
      exact z_f2 ⟨fun q => absurd q h3, fun _ => fail j 3 f hp ho⟩
  have t113 : ∀ j f, P j 2 f → z_TK g 3 2 f o → w_X10_mend_113 84 (g 0) (g 1) (g 2) (g 3) (g 4) x6 T n r w (fun v2 i2 => R = v2 ∧ lw_N z_Inv n T n r i2 w) 1 j := by
    intro j f hp ht
    refine z_t ⟨fun e => z_f ?_, fun e => z_t (eat j 2 f 2 _ _ hp (by decide) ht e (fun j' hh => hh) (fun j' f' hp' ht' => z_t2 (t162 j' f' hp' ht')))⟩
    rcases stop 2 2 f ht e with ⟨h1, ho⟩ | ⟨⟨k, h1, h2, h3⟩, ho⟩
    · exact n143 j 2 f hp (by decide) ho (h1 3 (by decide) (by decide)) (h1 4 (by decide) (by decide))
    · refine z_f2 ⟨fun _ => fail j 2 f hp ho, fun e3 => ⟨fun e4 => ?_, fun _ => fail j 2 f hp ho⟩⟩
      rcases (show k = 3 ∨ k = 4 by omega) with rfl | rfl
      · exact absurd e3 h3
      · exact absurd e4 h3
  have t59 : ∀ j f, P j 1 f → z_TK g 4 1 f o → w_X10_mend_59 84 (g 0) (g 1) (g 2) (g 3) (g 4) x6 T n r w (fun v2 i2 => R = v2 ∧ lw_N z_Inv n T n r i2 w) 1 j := by
    intro j f hp ht
    refine z_t ⟨fun e => z_f ?_, fun e => z_t (eat j 1 f 3 _ _ hp (by decide) ht e (fun j' hh => hh) (fun j' f' hp' ht' => z_t2 (t113 j' f' hp' ht')))⟩
    rcases stop 1 3 f ht e with ⟨h1, ho⟩ | ⟨⟨k, h1, h2, h3⟩, ho⟩
    · exact n89 j 1 f hp (by decide) ho (h1 2 (by decide) (by decide)) (h1 3 (by decide) (by decide)) (h1 4 (by decide) (by decide))
    · refine z_f2 ⟨fun _ => fail j 1 f hp ho, fun e2 => ⟨fun _ => fail j 1 f hp ho, fun e3 => ⟨fun e4 => ?_, fun _ => fail j 1 f hp ho⟩⟩⟩
      rcases (show k = 2 ∨ k = 3 ∨ k = 4 by omega) with rfl | rfl | rfl
      · exact absurd e2 h3
      · exact absurd e3 h3
      · exact absurd e4 h3
  intro j e2
  have hp : P j 0 (fun _ => 0) := by
    rw [hP]
    exact ⟨fun b b1 _ => by rw [e2, kw_st_offF b1], fun q hq => by rw [e2, kw_st_row, if_neg hq], by rw [e2, kw_st_same]; rfl, fun a ha => absurd ha (Nat.not_lt_zero a), fun a b _ h => absurd h (Nat.not_lt_zero b), fun a h => absurd h (Nat.not_lt_zero a)⟩
  refine ⟨fun e => z_f ?_, fun e => z_t (eat j 0 _ 4 _ _ hp (by decide) hT e (fun j' hh => hh) (fun j' f' hp' ht' => z_t2 (t59 j' f' hp' ht')))⟩
  rcases stop 0 4 _ hT e with ⟨h1, ho⟩ | ⟨⟨k, h1, h2, h3⟩, ho⟩
  · exact n30 j 0 _ hp (by decide) ho (h1 1 (by decide) (by decide)) (h1 2 (by decide) (by decide)) (h1 3 (by decide) (by decide)) (h1 4 (by decide) (by decide))
  · refine z_f2 ⟨fun _ => fail j 0 _ hp ho, fun e1 => ⟨fun _ => fail j 0 _ hp ho, fun e2 => ⟨fun _ => fail j 0 _ hp ho, fun e3 => ⟨fun e4 => ?_, fun _ => fail j 0 _ hp ho⟩⟩⟩⟩
    rcases (show k = 1 ∨ k = 2 ∨ k = 3 ∨ k = 4 by omega) with rfl | rfl | rfl | rfl
    · exact absurd e1 h3
    · exact absurd e2 h3
    · exact absurd e3 h3
    · exact absurd e4 h3
end ZMR
theorem z_C26 : lw_C26 z_Inv := by
  intro T n r i w x1 x2 x3 x4 x5 x6 h hn
  have hS := h.1
  have ⟨g, hg⟩ : ∃ g : Nat → Int32, g = fun k => if k = 0 then x1 else if k = 1 then x2 else if k = 2 then x3 else if k = 3 then x4 else x5 := ⟨_, rfl⟩
  have e0 : x1 = g 0 := by rw [hg]; rfl
  have e1 : x2 = g 1 := by rw [hg]; rfl
  have e2 : x3 = g 2 := by rw [hg]; rfl
  have e3 : x4 = g 3 := by rw [hg]; rfl
  have e4 : x5 = g 4 := by rw [hg]; rfl
  rw [e0, e1, e2, e3, e4]
  clear e0 e1 e2 e3 e4 hg
  unfold w_X9_mend
  rw [z_r1_6 hS]
  have tk : ∀ i', (∀ b, ¬ (64 ≤ b ∧ b ≤ 66) → i' b = i b) → z_Inv T n r i' w := fun i' o => z_Inv_scr h (fun b b1 _ _ _ => o b (fun q => b1 (by unfold z_scr; omega))) (by rw [o 84 (by decide)]; exact ⟨rfl, rfl, rfl, rfl, rfl⟩) (by rw [o 52 (by decide)]; exact ⟨rfl, rfl, rfl⟩) (by rw [o 29 (by decide)]) rfl
  -- the law of the state now
  have lawn : ∀ i', z_Inv T n r i' w → ∃ nv L, z_Kr (i' 86) nv ∧ z_Lk (i' 86) L := by
    intro i' hi
    obtain ⟨_, ⟨nv, hK⟩, n3⟩ := hi.2.2.1
    obtain ⟨L, la, hL, hLk⟩ := z_laws_in n3
    exact ⟨nv, L, hK, hLk⟩
  refine ⟨z_T64 hS, z_takeCells hS (fun i' m f ht hm hso o h5 h66 => z_t2 ?_) (fun i' ht o => z_f2 ?_)⟩
  rotate_left
  · obtain ⟨nv, L, hK, hLk⟩ := lawn i' (tk i' o)
    exact ⟨z_T84 hS, z_mend10 (tk i' o) hK hLk ht rfl⟩
  have hb := z_B_le (x := x6) (m := m) (by omega)
  have hI := tk i' o
  have no : ¬ z_B x6 (m + 1) → T 84 = (0, 10) ∧ w_X10_mend 84 (g 0) (g 1) (g 2) (g 3) (g 4) x6 T n r i' w (fun v2 i2 => -1 = v2 ∧ lw_N z_Inv n T n r i2 w) := by
    intro hq
    obtain ⟨nv, L, hK, hLk⟩ := lawn i' hI
    exact ⟨z_T84 hS, z_mend10 hI hK hLk ht (Or.inl ⟨hq, rfl⟩)⟩
  rw [h5]
  refine ⟨fun c => no (fun z => (hb.mp z).1 c), fun c => ⟨fun c2 => ?_, fun c2 => no (fun z => c2 (hb.mp z).2)⟩⟩
  obtain ⟨t, htm, rfl⟩ : z_B x6 (m + 1) := hb.mpr ⟨c, c2⟩
  refine z_weaveIf2 hI fun r' i2 w' nv L hf o86 o2 o62 => ?_
  have hS' := hf.1.1
  have hK := hf.2.2.1
  have hn10 := hK.1
  rw [z_r1_4 hS', z_r1_6 hS', z_r64_3 hS']
  have Bon : ∀ c, c < 36 → z_on (i2 86) L nv c ≠ -1 := fun c hc => z_B_ne (z_go_B (fun c hc => hK.2.2.2.1 0 c (by decide) hc) (fun v hv => (z_Kr_W hK hv).1) (fun v c x _ _ q => by cases q) nv (by omega) c hc) (by decide)
  refine ⟨z_T23 hS', z_last hf fun ga a1 a2 a3 => ⟨z_T64 hS', z_mendAll (P := z_on (i2 86) L nv) hS' hm hso (by rw [o62 64 (by decide)]; exact h5) (fun a ha => by rw [o62 66 (by decide)]; exact h66 a ha) a1 a2 Bon fun i3 k b1 b2 b3 b4 => ?_⟩⟩
  have I3 : z_Inv T n r' i3 w' := z_Inv_scr hf.1 (fun b c1 _ _ _ => b1.1 b (fun q => c1 (by unfold z_scr; omega)) (fun q => c1 (by unfold z_scr; omega)) (fun q => c1 (by unfold z_scr; omega)) (fun q => c1 (by unfold z_scr; omega))) (by rw [b1.1 84 (by decide) (by decide) (by decide) (by decide)]; exact ⟨rfl, rfl, rfl, rfl, rfl⟩) (by rw [b1.1 52 (by decide) (by decide) (by decide) (by decide)]; exact ⟨rfl, rfl, rfl⟩) (by rw [b1.1 29 (by decide) (by decide) (by decide) (by decide)]) rfl
  have e86 : i3 86 = i2 86 := b1.1 86 (by decide) (by decide) (by decide) (by decide)
  refine ⟨fun q => ?_, fun q => ⟨z_T84 hS', z_mend10 (nv := nv) (L := L) I3 (by rw [e86]; exact hK) (by rw [e86]; exact hf.2.2.2.1) ht ?_⟩⟩
  · have t0 : 0 < t := by
      rcases Nat.eq_zero_or_pos t with z | z
      · exact absurd (by rw [z]; rfl) q
      · exact z
    rw [show nI t - (1 : Int32) = nI (t - 1) from pk_sub (b := 1) t0, nI_clamp (by omega)]
    refine ⟨z_kin (z_T68 hS') (by omega) (by decide), z_T84 hS', z_mend10 (nv := nv) (L := L) I3 (by rw [e86]; exact hK) (by rw [e86]; exact hf.2.2.2.1) ht ?_⟩
    rw [e86]
    exact Or.inr ⟨t, k, by omega, rfl, b2, Or.inr ⟨t0, b4 (t - 1) (by omega)⟩⟩
  · rw [e86]
    exact Or.inr ⟨t, k, by omega, rfl, b2, Or.inl ⟨(nI_eq (b := 0) (by omega) (by decide)).mp q, b3⟩⟩
