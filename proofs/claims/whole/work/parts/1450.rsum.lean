-- THE CLASS READS SUMS
abbrev z_k4 := Nat → Int32 → kw_T → Nat → kw_R → kw_I → kw_L → (kw_I → Prop) → Prop
/-- tokens end at sz -/
def z_szo (B : Nat → Nat) (len sz : Nat) : Prop := sz ≤ len ∧ (∀ t, t < sz → z_plc B len t < len) ∧ ∀ t, sz ≤ t → z_plc B len t = len
def z_c4 {A : Type} (T : kw_T) (n : Nat) (r : kw_R) (w : kw_L) (i0 : kw_I) (B : Nat → Nat) (len : Nat) (k : z_k4) (x : Int32) (P : Nat → Nat → z_O A → Prop) (dn : (Nat → Nat) → Nat → Nat → Nat → A → Prop) : Prop :=
  ∀ (p m s : Nat) (cd : Nat → Nat) (o : z_O A) (i : kw_I) (Q : kw_I → Prop), P p m o → z_RS i0 i B len p m s cd → s ≤ p → m ≤ 50 → (∀ a q m', o = .ok (a, q, m') → ∀ i' s' cd', z_RS i0 i' B len q m' s' cd' → (∀ k, k < s → cd' k = cd k) → dn cd' s s' (m' - m) a → s' + p ≤ s + q → Q i') → (∀ t, o = .error t → ∀ i', z_RX i0 i' B len t → Q i') → k 20 x T n r i w Q
def z_c4X (T : kw_T) (n : Nat) (r : kw_R) (w : kw_L) (i0 : kw_I) (B : Nat → Nat) (len : Nat) (k : z_k4) (x : Int32) : Prop := ∀ (t : Nat) (i : kw_I) (Q : kw_I → Prop), z_RX i0 i B len t → (∀ i', z_RX i0 i' B len t → Q i') → k 20 x T n r i w Q
section ZSR
variable {T : kw_T} {n : Nat} {r : kw_R} {i i0 : kw_I} {w : kw_L} {B : Nat → Nat} {len sz : Nat}
theorem z_plc31 (hx : z_cx4 T r B len) (t : Nat) : z_plc B len t < 2 ^ 31 := by
  have := z_plc_le (B := B) (len := len) t
  have := hx.2.2.1
  omega
theorem z_tk0 (hz : z_szo B len sz) : ∀ p, sz ≤ p → z_tk B len p = 0 := by
  intro p hp
  unfold z_tk
  rw [if_neg (by have := hz.2.2 p hp; omega)]
theorem z_tklt (hz : z_szo B len sz) {p : Nat} (h : z_tk B len p ≠ 0) : p < sz := by
  rcases Nat.lt_or_ge p sz with q | q
  · exact q
  · exact absurd (z_tk0 hz p q) h
/-- a part that is no bracket -/
theorem z_part33 (hx : z_cx4 T r B len) (hz : z_szo B len sz) {kp ks : z_k4} {x : Int32} {p m s : Nat} {cd : Nat → Nat} (h : z_RS i0 i B len p m s cd) (hs : s ≤ p) (hm : m ≤ 50) {Q : kw_I → Prop} (h1 : z_lf (z_tk B len) (z_vl B len) p → m < 50 → ∀ i' cd', z_RS i0 i' B len (p + 1) (m + 1) (s + 1) cd' → (∀ k, k < s → cd' k = cd k) → z_kS cd' s (s + 1) 1 (z_lfS (z_tk B len) (z_vl B len) p) → Q i') (h0 : ¬ (z_lf (z_tk B len) (z_vl B len) p ∧ m < 50) → ∀ i', z_RX i0 i' B len p → Q i') : w_X4_readPart_33 kp ks 20 x T n r w Q i := by
  have hB := hx.2.2.2
  have hl := hx.2.2.1
  have t50 := z_tk_50 (len := len) hB p
  have kl := z_kd_lt (len := len) hB (z_plc B len p)
  have e6 := h.2.1.2.2
  -- from a value on
  have c54 : ∀ (x0 : Int32) (v op : Nat), (x0 = -1 ∧ ¬ z_lf (z_tk B len) (z_vl B len) p) ∨ (x0 = nI v ∧ v < 1001 ∧ z_lf (z_tk B len) (z_vl B len) p ∧ ((op = 0 ∧ z_tk B len p = 50 ∧ v = z_vl B len p) ∨ (op = 1 ∧ z_tk B len p ≠ 50 ∧ v = z_tk B len p - 6 ∧ v < 9))) → w_X4_readPart_54 kp ks 20 x T n r w Q x0 i := by
    intro x0 v op hcase
    rcases hcase with ⟨e, hno⟩ | ⟨e, hv, hlf, hop⟩
    · exact ⟨fun _ => z_stickT h (h0 (fun z => hno z.1)), fun q => absurd e q⟩
    · unfold w_X4_readPart_54
      rw [e, h.2.2.1]
      refine ⟨fun q => absurd q (z_m1ne (by omega)), fun _ => ⟨fun q i1 e1 => ?_, fun q => z_stickT h (h0 (fun z => q (nI_lt (b := 50) z.2 (by decide))))⟩⟩
      have hm50 : m < 50 := (nI_ltI (b := 50) (by omega) (by decide)).mp q
      rw [nI_1] at e1
      have R1 : z_RS i0 i1 B len p (m + 1) s cd := by
        obtain ⟨g1, ⟨a1, a2, a3⟩, g3, g4, g5, g6, g7⟩ := h
        have o : ∀ b, b ≠ 20 → i1 b = i b := fun b hb => by rw [e1, kw_st_offF hb]
        have f : ∀ f, f ≠ 8 → i1 20 f = i 20 f := fun f hf => by rw [e1, kw_st_row, if_neg hf]
        exact ⟨⟨fun b b1 b2 => by rw [o b b1]; exact g1.1 b b1 b2, g1.2.1, by rw [f 3 (by decide)]; exact g1.2.2⟩, ⟨by rw [f 4 (by decide)]; exact a1, by rw [f 5 (by decide)]; exact a2, by rw [f 6 (by decide)]; exact a3⟩, by rw [e1, kw_st_same], by rw [f 9 (by decide)]; exact g4, by rw [f 7 (by decide)]; exact g5, g6, by rw [o 21 (by decide)]; exact g7⟩
      have psz : p < sz := z_tklt hz (by
        intro z
        unfold z_lf at hlf
        omega)
      have s400 : s < 400 := by have := hz.1; omega
      have e6' := R1.2.1.2.2
      rw [e6']
      have fin : ∀ o : Nat, o = op → w_X4_readPart_100 kp ks 20 x T n r w Q (nI v) 20 (nI o) i1 := by
        intro o ho
        subst ho
        refine ⟨z_T20 hx.1, z_emit4 hx R1 s400 (by rcases hop with q | q <;> omega) (by omega) (fun z => by rcases hop with q | q <;> omega) fun i2 cd2 R2 c1 c2 => z_stepT hx R2 fun i3 R3 => h1 hlf hm50 i3 cd2 R3 c1 ?_⟩
        rcases hop with ⟨o0, tk5, ev⟩ | ⟨o1, tkn, ev, _⟩
        · have := z_kS_num (cd := cd2) (p := s) (x := v) (by rw [c2, o0]; rfl)
          have ee : z_lfS (z_tk B len) (z_vl B len) p = fun _ => some (nI v).toInt64 := by
            funext ask
            unfold z_lfS
            rw [if_pos tk5, ev]
          rw [ee]
          exact this
        · have := z_kS_ask (cd := cd2) (p := s) (x := v) (by rw [c2, o1])
          have ee : z_lfS (z_tk B len) (z_vl B len) p = fun ask => some (ask v).toInt64 := by
            funext ask
            unfold z_lfS
            rw [if_neg tkn, ev]
          rw [ee]
          exact this
      refine ⟨fun q2 => fin 1 ?_, fun q2 => fin 0 ?_⟩
      · rcases hop with ⟨_, tk5, _⟩ | ⟨o1, _⟩
        · exact absurd (by rw [t50.mp tk5]; rfl) q2
        · exact o1.symm
      · rcases hop with ⟨o0, _⟩ | ⟨_, tkn, _⟩
        · exact o0.symm
        · exact absurd (t50.mpr ((nI_eq (b := 257) (by omega) (by decide)).mp q2)) tkn
  unfold w_X4_readPart_33
  rw [e6]
  refine ⟨fun q => z_word4 hx h (fun k1 k2 => c54 _ (z_tk B len p - 6) 1 (Or.inr ⟨rfl, by omega, Or.inr ⟨k1, k2⟩, Or.inr ⟨rfl, by omega, rfl, by omega⟩⟩)) (fun k1 => c54 _ 0 0 (Or.inl ⟨rfl, fun z => ?_⟩)), fun q => ?_⟩
  · rcases z with z | z
    · exact q (by rw [t50.mp z.1]; rfl)
    · exact k1 z
  · have k257 : z_kd B len (z_plc B len p) = 257 := (nI_eq (b := 257) (by omega) (by decide)).mp q
    have tk5 := t50.mpr k257
    refine z_num4 hx h k257 (fun k1 => c54 _ (z_vl B len p) 0 (Or.inr ⟨rfl, by omega, Or.inl ⟨tk5, k1⟩, Or.inl ⟨rfl, tk5, rfl⟩⟩)) (fun k1 => c54 _ 0 0 (Or.inl ⟨rfl, fun z => ?_⟩))
    unfold z_lf at z
    omega
theorem z_part33X (hx : z_cx4 T r B len) {kp ks : z_k4} {x : Int32} {t : Nat} (h : z_RX i0 i B len t) {Q : kw_I → Prop} (hQ : ∀ i', z_RX i0 i' B len t → Q i') : w_X4_readPart_33 kp ks 20 x T n r w Q i := by
  unfold w_X4_readPart_33
  rw [h.2.1]
  exact ⟨fun _ => z_wordX h ⟨fun _ => z_stickX (z_plc31 hx t) h hQ, fun q => absurd rfl q⟩, fun q => absurd q (by decide)⟩
theorem z_rPartX (hx : z_cx4 T r B len) {kp ks : z_k4} {x : Int32} : z_c4X T n r w i0 B len (w_X4_readPart kp ks) x := by
  intro t i Q h hQ
  unfold w_X4_readPart
  rw [h.2.1]
  exact ⟨fun _ => z_part33X hx h hQ, fun q => absurd q (by decide)⟩
theorem z_rPart0 (hx : z_cx4 T r B len) (hz : z_szo B len sz) {kp ks : z_k4} : z_c4 T n r w i0 B len (w_X4_readPart kp ks) (nI (8 - 0)) (z_gP (z_tk B len) (z_vl B len) sz 0) z_kS := by
  intro p m s cd o i Q hg hRS hs m50 hok herr
  have c33 : w_X4_readPart_33 kp ks 20 (nI (8 - 0)) T n r w Q i := by
    refine z_part33 hx hz hRS hs m50 (fun hl hm i' cd' R c1 c2 => ?_) (fun hno i' R => ?_)
    · rcases hg.1 with ⟨e, _⟩ | ⟨_, _, _, e⟩ | ⟨_, e, _⟩
      · exfalso
        unfold z_lf at hl
        omega
      · refine hok _ _ _ e i' (s + 1) cd' R c1 ?_ (by omega)
        rw [show m + 1 - m = 1 by omega]
        exact c2
      · exact absurd ⟨hl, hm⟩ e
    · rcases hg.1 with ⟨_, e⟩ | ⟨_, e1, e2, _⟩ | ⟨_, _, e⟩
      · exact herr _ e i' R
      · exact absurd ⟨e1, e2⟩ hno
      · exact herr _ e i' R
  exact ⟨fun _ => c33, fun _ => ⟨fun _ => c33, fun q => absurd (by decide) q⟩⟩
theorem z_rPartS (hx : z_cx4 T r B len) (hz : z_szo B len sz) {kp ks : z_k4} {e : Nat} (he : e + 1 ≤ 8) (hks : z_c4 T n r w i0 B len ks (nI (8 - e)) (z_gSo (z_tk B len) sz (z_gP (z_tk B len) (z_vl B len) sz e)) z_kS) (hksX : z_c4X T n r w i0 B len ks (nI (8 - e))) (htot : ∀ p m o, z_gSo (z_tk B len) sz (z_gP (z_tk B len) (z_vl B len) sz e) p m o → z_gd sz p m o) : z_c4 T n r w i0 B len (w_X4_readPart kp ks) (nI (8 - (e + 1))) (z_gP (z_tk B len) (z_vl B len) sz (e + 1)) z_kS := by
  intro p m s cd o i Q hg hRS hs m50 hok herr
  have hB := hx.2.2.2
  have kl := z_kd_lt (len := len) hB (z_plc B len p)
  have ts := z_tk_sign (B := B) (len := len) (t := p) (c := 191) (by decide) (by decide)
  have c33 : z_tk B len p ≠ 191 → w_X4_readPart_33 kp ks 20 (nI (8 - (e + 1))) T n r w Q i := by
    intro hne
    refine z_part33 hx hz hRS hs m50 (fun hl hm i' cd' R c1 c2 => ?_) (fun hno i' R => ?_)
    · rcases hg.1 with ⟨q, _⟩ | ⟨_, _, _, q⟩ | ⟨_, q, _⟩
      · exact absurd q hne
      · refine hok _ _ _ q i' (s + 1) cd' R c1 ?_ (by omega)
        rw [show m + 1 - m = 1 by omega]
        exact c2
      · exact absurd ⟨hl, hm⟩ q
    · rcases hg.1 with ⟨q, _⟩ | ⟨_, e1, e2, _⟩ | ⟨_, _, q⟩
      · exact absurd q hne
      · exact absurd ⟨e1, e2⟩ hno
      · exact herr _ q i' R
  unfold w_X4_readPart
  rw [hRS.2.1.2.2]
  refine ⟨fun q => c33 (fun z => q (by rw [ts.mp z]; rfl)), fun q => ⟨fun q2 => ?_, fun _ => ?_⟩⟩
  · have := (nI_leI (a := 8) (by decide) (by omega)).mp q2
    omega
  · have tk191 : z_tk B len p = 191 := ts.mpr ((nI_eq (b := 91) (by omega) (by decide)).mp q)
    rw [nI_1, show 8 - (e + 1) + 1 = 8 - e by omega]
    have hgB : z_gB (z_tk B len) 193 (z_gSo (z_tk B len) sz (z_gP (z_tk B len) (z_vl B len) sz e)) p m o := by
      rcases hg.1 with ⟨_, h⟩ | ⟨h, _⟩ | ⟨h, _⟩
      · exact h
      · exact absurd tk191 h
      · exact absurd tk191 h
    refine z_stepT hx hRS fun i1 R1 => ?_
    rcases hgB with ⟨t, hP, ho⟩ | ⟨a, p', m', hP, hcl⟩
    · exact hks (p + 1) m s cd _ i1 _ hP R1 (by omega) m50 (fun _ _ _ h => by cases h) (fun t' ht' i2 X2 => by
        cases ht'
        exact z_takeSX (c := 93) (z_plc31 hx t) X2 (by decide) (fun i3 X3 => herr t ho i3 X3))
    · have g := (htot _ _ _ hP).1 a p' m' rfl
      refine hks (p + 1) m s cd _ i1 _ hP R1 (by omega) m50 (fun a2 q2 m2 h i2 s2 cd2 R2 c1 c2 c3 => ?_) (fun _ h => by cases h)
      cases h
      refine z_takeS4 (c := 93) hx R2 (by decide) (by decide) (fun ht i3 R3 => ?_) (fun ht i3 X3 => ?_)
      · rcases hcl with ⟨_, h⟩ | ⟨h, _⟩
        · exact hok _ _ _ h i3 s2 cd2 R3 c1 c2 (by omega)
        · exact absurd ht h
      · rcases hcl with ⟨h, _⟩ | ⟨_, h⟩
        · exact absurd h ht
        · exact herr _ h i3 X3
/-- what a sum's reading has so far -/
def z_LS (i0 : kw_I) (B : Nat → Nat) (len sz p m s : Nat) (cd0 : Nat → Nat) (held : Option (Nat × z_Sm × Nat × Nat)) (a : z_Sm) (i : kw_I) (p1 m1 s2 : Nat) (cd : Nat → Nat) : Prop := z_RS i0 i B len p1 m1 s2 cd ∧ (∀ k, k < s → cd k = cd0 k) ∧ m < m1 ∧ m1 ≤ 50 ∧ p1 ≤ sz ∧ match held with
  | none => z_kS cd s s2 (m1 - m) a ∧ s2 + p ≤ s + p1
  | some q => (q.1 = 2 ∨ q.1 = 3) ∧ m < q.2.2.2 ∧ q.2.2.2 < m1 ∧ z_kS cd s q.2.2.1 (q.2.2.2 - m) q.2.1 ∧ z_kS cd q.2.2.1 s2 (m1 - q.2.2.2) a ∧ s2 + 1 + p ≤ s + p1
def z_hx (held : Option (Nat × z_Sm × Nat × Nat)) : Int32 := match held with
  | none => -1
  | some q => nI q.1
def z_ttl (held : Option (Nat × z_Sm × Nat × Nat)) (a : z_Sm) : z_Sm := match held with
  | none => a
  | some q => z_opS q.1 q.2.1 a
theorem z_calc4 (hx : z_cx4 T r B len) {p m s : Nat} {cd : Nat → Nat} (h : z_RS i0 i B len p m s cd) {Q : Int32 → Prop} (hy : z_isA (z_tk B len p) ∨ z_isM (z_tk B len p) → Q (nI (z_oc (z_tk B len p)))) (hn : ¬ z_isA (z_tk B len p) → ¬ z_isM (z_tk B len p) → Q (-1)) : w_X4_calculation 20 T n r i w Q := by
  have hB := hx.2.2.2
  have kl := z_kd_lt (len := len) hB (z_plc B len p)
  have t43 := z_tk_sign (B := B) (len := len) (t := p) (c := 143) (by decide) (by decide)
  have t45 := z_tk_sign (B := B) (len := len) (t := p) (c := 145) (by decide) (by decide)
  have t42 := z_tk_sign (B := B) (len := len) (t := p) (c := 142) (by decide) (by decide)
  have t47 := z_tk_sign (B := B) (len := len) (t := p) (c := 147) (by decide) (by decide)
  have is : ∀ k : Nat, k < 259 → (nI (z_kd B len (z_plc B len p)) = nI k ↔ z_kd B len (z_plc B len p) = k) := fun k hk => nI_eq (by omega) (by omega)
  unfold w_X4_calculation
  rw [h.2.1.2.2]
  refine ⟨fun q1 => ⟨fun q2 => ⟨fun q3 => ⟨fun q4 => hn ?_ ?_, fun q4 => ?_⟩, fun q3 => ?_⟩, fun q2 => ?_⟩, fun q1 => ?_⟩
  · rintro (z | z)
    · exact q1 ((is 43 (by decide)).mpr (t43.mp z))
    · exact q2 ((is 45 (by decide)).mpr (t45.mp z))
  · rintro (z | z)
    · exact q3 ((is 42 (by decide)).mpr (t42.mp z))
    · exact q4 ((is 47 (by decide)).mpr (t47.mp z))
  · have e := t47.mpr ((is 47 (by decide)).mp q4)
    have := hy (Or.inr (Or.inr e))
    rw [e] at this
    exact this
  · have e := t42.mpr ((is 42 (by decide)).mp q3)
    have := hy (Or.inr (Or.inl e))
    rw [e] at this
    exact this
  · have e := t45.mpr ((is 45 (by decide)).mp q2)
    have := hy (Or.inl (Or.inr e))
    rw [e] at this
    exact this
  · have e := t43.mpr ((is 43 (by decide)).mp q1)
    have := hy (Or.inl (Or.inl e))
    rw [e] at this
    exact this
theorem z_calcX {t : Nat} (h : z_RX i0 i B len t) {Q : Int32 → Prop} (hn : Q (-1)) : w_X4_calculation 20 T n r i w Q := by
  unfold w_X4_calculation
  rw [h.2.1]
  exact ⟨fun _ => ⟨fun _ => ⟨fun _ => ⟨fun _ => hn, fun q => absurd q (by decide)⟩, fun q => absurd q (by decide)⟩, fun q => absurd q (by decide)⟩, fun q => absurd q (by decide)⟩
theorem z_rSumX (hx : z_cx4 T r B len) {kp ks : z_k4} {x : Int32} (hkp : z_c4X T n r w i0 B len kp x) : z_c4X T n r w i0 B len (w_X4_readSum kp ks) x := by
  intro t i Q h hQ
  refine hkp t i _ h fun i1 X1 => ⟨1, ?_⟩
  exact ⟨fun q => absurd q (by decide), fun _ => z_calcX X1 ⟨fun q => absurd rfl q, fun _ => ⟨fun _ => hQ i1 X1, fun q => absurd rfl q⟩⟩⟩
theorem z_rSum (hx : z_cx4 T r B len) (hz : z_szo B len sz) {kp ks : z_k4} {x : Int32} {P : Nat → Nat → z_O z_Sm → Prop} (hkp : z_c4 T n r w i0 B len kp x P z_kS) (hkpX : z_c4X T n r w i0 B len kp x) (hP : ∀ p m o, P p m o → z_gd sz p m o) : z_c4 T n r w i0 B len (w_X4_readSum kp ks) x (z_gSo (z_tk B len) sz P) z_kS := by
  have hB := hx.2.2.2
  have hl := hx.2.2.1
  intro p m s cd0 o i Q hg hRS hs m50 hok herr
  have szl := hz.1
  -- once stuck
  have stuck : ∀ (F x3 : Nat) (x2 : Int32) (j : kw_I) (t : Nat), z_RX i0 j B len t → (∀ i', z_RX i0 i' B len t → Q i') → w_X4_readSum_9 kp ks 20 x T n r w Q (F + 1) x2 (nI x3) j := by
    intro F x3 x2 j t hX hQ
    have c87 : w_X4_readSum_87 kp ks 20 x T n r w Q x2 j := ⟨fun _ => hQ j hX, fun _ => z_emitX (z_plc31 hx t) hX (hQ j hX)⟩
    exact ⟨fun _ => c87, fun _ => z_calcX hX ⟨fun q => absurd rfl q, fun _ => c87⟩⟩
  -- a chain of * and /
  have inner : ∀ (N p1 m1 : Nat) (a : z_Sm) (oM : z_O z_Sm), z_Lp (z_tk B len) z_isM z_mkS P N p1 m1 a oM → ∀ (held : Option (Nat × z_Sm × Nat × Nat)) (j : kw_I) (s2 x3 F : Nat) (cd : Nat → Nat), z_LS i0 B len sz p m s cd0 held a j p1 m1 s2 cd → x3 ≤ p1 → sz - p1 < F → (∀ b p2 m2, oM = .ok (b, p2, m2) → ¬ z_isM (z_tk B len p2) → ∀ j' s2' x3' F' cd', z_LS i0 B len sz p m s cd0 held b j' p2 m2 s2' cd' → x3' ≤ p2 → sz - p2 < F' → w_X4_readSum_9 kp ks 20 x T n r w Q F' (z_hx held) (nI x3') j') → (∀ t, oM = .error t → ∀ i', z_RX i0 i' B len t → Q i') → w_X4_readSum_9 kp ks 20 x T n r w Q F (z_hx held) (nI x3) j := by
    intro N
    induction N with
    | zero => intro p1 m1 a oM h; exact h.elim
    | succ N ih =>
      intro p1 m1 a oM h held j s2 x3 F cd hLS h3 hF hok2 herr2
      rcases h with ⟨hn, he⟩ | ⟨hM, hrest⟩
      · exact hok2 a p1 m1 he hn j s2 x3 F cd hLS h3 hF
      · have p1s : p1 < sz := z_tklt hz (by rcases hM with z | z <;> rw [z] <;> decide)
        obtain ⟨F, rfl⟩ : ∃ F', F = F' + 1 := ⟨F - 1, by omega⟩
        have hLS0 := hLS
        obtain ⟨R1, c1, mm, m1le, p1z, hh⟩ := hLS
        show s_X4_readSum_9 kp ks 20 x T n r w Q _ (z_hx held) (nI x3) j
        have s2p : s2 ≤ p1 := by
          cases held with
          | none => have := hh.2; omega
          | some q => have := hh.2.2.2.2.2; omega
        refine ⟨fun q => ?_, fun _ => z_calc4 hx R1 (fun _ => ?_) (fun _ z => absurd hM z)⟩
        · have := (nI_leI (a := 400) (by decide) (by omega)).mp q
          omega
        have o45 : z_oc (z_tk B len p1) = 4 ∨ z_oc (z_tk B len p1) = 5 := by
          rcases hM with z | z
          · left; rw [z]; rfl
          · right; rw [z]; rfl
        refine ⟨fun _ => z_stepT hx R1 fun j1 R2 => ⟨fun q => ?_, fun _ => ⟨fun _ => ?_, fun q => ?_⟩⟩, fun q => absurd q (z_m1ne (by omega))⟩
        · have := (nI_eq (b := 2) (by omega) (by decide)).mp q
          omega
        · rcases hrest with ⟨b, p2, m2, hPb, hL⟩ | ⟨t, hPe, he⟩
          · have g := (hP _ _ _ hPb).1 b p2 m2 rfl
            refine hkp (p1 + 1) m1 s2 cd _ j1 _ hPb R2 (by omega) m1le (fun b' q' m' e j3 s3 cd3 R3 d1 d2 d3 => ?_) (fun _ e => by cases e)
            cases e
            refine z_emit4 (op := z_oc (z_tk B len p1)) (wt := 0) hx R3 (by omega) (by omega) (by omega) (fun z => by omega) fun j4 cd4 R4 e1 e2 => ?_
            show w_X4_readSum_9 kp ks 20 x T n r w Q F (z_hx held) (nI x3 + 1) j4
            rw [nI_1]
            have c2b : ∀ k, k < s2 → cd4 k = cd k := fun k hk => by
              have := d2.1
              rw [e1 k (by omega), d1 k hk]
            refine ih p2 m2 (z_mkS (z_tk B len p1) a b) oM hL held j4 (s3 + 1) (x3 + 1) F cd4 ⟨R4, ?_, by omega, by omega, by omega, ?_⟩ (by omega) (by omega) hok2 herr2
            · intro k hk
              rw [c2b k (by cases held with | none => have := hh.1.1; omega | some q => have := hh.2.2.2.1.1; have := hh.2.2.2.2.1.1; omega)]
              exact c1 k hk
            · cases held with
              | none =>
                refine ⟨?_, by have := hh.2; omega⟩
                have := z_kS_op (o := z_oc (z_tk B len p1)) (z_kS_eq hh.1 (fun k k1 k2 => c2b k k2)) (z_kS_eq d2 (fun k k1 k2 => e1 k k2)) (by rw [e2]; omega) (by omega) (by omega)
                rw [show m1 - m + (m2 - m1) = m2 - m by omega] at this
                exact this
              | some q =>
                obtain ⟨k1, k2, k3, k4, k5, k6⟩ := hh
                have := k5.1
                refine ⟨k1, k2, by omega, z_kS_eq k4 (fun k y1 y2 => c2b k (by omega)), ?_, by omega⟩
                have := z_kS_op (o := z_oc (z_tk B len p1)) (z_kS_eq k5 (fun k y1 y2 => c2b k y2)) (z_kS_eq d2 (fun k y1 y2 => e1 k y2)) (by rw [e2]; omega) (by omega) (by omega)
                rw [show m1 - q.2.2.2 + (m2 - m1) = m2 - q.2.2.2 by omega] at this
                exact this
          · refine hkp (p1 + 1) m1 s2 cd _ j1 _ hPe R2 (by omega) m1le (fun _ _ _ e => by cases e) (fun t' e j3 X3 => ?_)
            cases e
            refine z_emitX (z_plc31 hx t) X3 ?_
            show w_X4_readSum_9 kp ks 20 x T n r w Q F (z_hx held) (nI x3 + 1) j3
            rw [nI_1]
            obtain ⟨F, rfl⟩ : ∃ F', F = F' + 1 := ⟨F - 1, by omega⟩
            exact stuck F (x3 + 1) _ j3 t X3 (herr2 t he)
        · have := (nI_eq (b := 3) (by omega) (by decide)).mp q
          omega
  -- a chain of + and -
  have outer : ∀ (N p1 m1 : Nat) (A : z_Sm), z_Lp (z_tk B len) z_isA z_mkS (z_gC (z_tk B len) sz z_isM z_mkS P) N p1 m1 A o → ¬ z_isM (z_tk B len p1) → ∀ (held : Option (Nat × z_Sm × Nat × Nat)) (a : z_Sm) (j : kw_I) (s2 x3 F : Nat) (cd : Nat → Nat), z_ttl held a = A → z_LS i0 B len sz p m s cd0 held a j p1 m1 s2 cd → x3 ≤ p1 → sz - p1 < F → w_X4_readSum_9 kp ks 20 x T n r w Q F (z_hx held) (nI x3) j := by
    intro N
    induction N with
    | zero => intro p1 m1 A h; exact h.elim
    | succ N ih =>
      intro p1 m1 A h hnM held a j s2 x3 F cd hA hLS h3 hF
      obtain ⟨F, rfl⟩ : ∃ F', F = F' + 1 := ⟨F - 1, by omega⟩
      have hLS0 := hLS
      obtain ⟨R1, c1, mm, m1le, p1z, hh⟩ := hLS
      have s2p : s2 ≤ p1 ∧ s < s2 := by
        cases held with
        | none => have := hh.2; have := hh.1.1; omega
        | some q => have := hh.2.2.2.2.2; have := hh.2.2.2.1.1; have := hh.2.2.2.2.1.1; omega
      -- what is held is put behind
      have put : ∀ (p' : Nat) (j : kw_I) (R : kw_I → Prop), z_RS i0 j B len p' m1 s2 cd → (∀ j' s3 cd', z_RS i0 j' B len p' m1 s3 cd' → (∀ k, k < s → cd' k = cd0 k) → z_kS cd' s s3 (m1 - m) A → s3 + p ≤ s + p1 → R j') → ∀ q, held = some q → w_X4_emit 20 (nI q.1) (0 : Int32) T n r j w R := by
        intro p' j R R1 hR q hq
        subst hq
        obtain ⟨k1, k2, k3, k4, k5, k6⟩ := hh
        have kk1 := k4.1
        have kk2 := k5.1
        refine z_emit4 (op := q.1) (wt := 0) hx R1 (by omega) (by omega) (by omega) (fun z => by omega) fun j4 cd4 R4 e1 e2 => hR j4 (s2 + 1) cd4 R4 (fun k hk => by rw [e1 k (by omega)]; exact c1 k hk) ?_ (by omega)
        have := z_kS_op (o := q.1) (z_kS_eq k4 (fun k y1 y2 => e1 k (by omega))) (z_kS_eq k5 (fun k y1 y2 => e1 k y2)) (by rw [e2]; omega) (by omega) (by omega)
        rw [show q.2.2.2 - m + (m1 - q.2.2.2) = m1 - m by omega] at this
        rw [← hA]
        exact this
      show s_X4_readSum_9 kp ks 20 x T n r w Q _ (z_hx held) (nI x3) j
      rcases h with ⟨hn, he⟩ | ⟨hS, hrest⟩
      · have c87 : w_X4_readSum_87 kp ks 20 x T n r w Q (z_hx held) j := by
          cases held with
          | none =>
            refine ⟨fun _ => hok A p1 m1 he j s2 cd R1 c1 ?_ hh.2, fun q => absurd rfl q⟩
            rw [← hA]
            exact hh.1
          | some q =>
            refine ⟨fun z => absurd z (z_m1ne (by have := hh.1; omega)), fun _ => put p1 j _ R1 (fun j' s3 cd' R' u1 u2 u3 => hok A p1 m1 he j' s3 cd' R' u1 u2 u3) q rfl⟩
        exact ⟨fun _ => c87, fun _ => z_calc4 hx R1 (fun z => by rcases z with z | z; exact absurd z hn; exact absurd z hnM) (fun _ _ => ⟨fun q => absurd rfl q, fun _ => c87⟩)⟩
      · have p1s : p1 < sz := z_tklt hz (by rcases hS with z | z <;> rw [z] <;> decide)
        have o23 : z_oc (z_tk B len p1) = 2 ∨ z_oc (z_tk B len p1) = 3 := by
          rcases hS with z | z
          · left; rw [z]; rfl
          · right; rw [z]; rfl
        -- the next term
        have c58 : ∀ (j2 : kw_I) (s3 : Nat) (cd3 : Nat → Nat), z_RS i0 j2 B len (p1 + 1) m1 s3 cd3 → (∀ k, k < s → cd3 k = cd0 k) → z_kS cd3 s s3 (m1 - m) A → s3 + p ≤ s + p1 → w_X4_readSum_58 kp ks 20 x T n r w Q (w_X4_readSum_9 kp ks 20 x T n r w Q F) (nI x3) (nI (z_oc (z_tk B len p1))) j2 := by
          intro j2 s3 cd3 R3 d1 d2 d3
          -- from a part on
          have part : ∀ (a0 : z_Sm) (p0 m0 N0 : Nat) (oM : z_O z_Sm), P (p1 + 1) m1 (.ok (a0, p0, m0)) → z_Lp (z_tk B len) z_isM z_mkS P N0 p0 m0 a0 oM → (∀ b p2 m2, oM = .ok (b, p2, m2) → z_Lp (z_tk B len) z_isA z_mkS (z_gC (z_tk B len) sz z_isM z_mkS P) N p2 m2 (z_mkS (z_tk B len p1) A b) o) → (∀ t, oM = .error t → o = .error t) → w_X4_readSum_58 kp ks 20 x T n r w Q (w_X4_readSum_9 kp ks 20 x T n r w Q F) (nI x3) (nI (z_oc (z_tk B len p1))) j2 := by
            intro a0 p0 m0 N0 oM hPa hL0 hnext herr0
            have g := (hP _ _ _ hPa).1 a0 p0 m0 rfl
            refine hkp (p1 + 1) m1 s3 cd3 _ j2 _ hPa R3 (by omega) m1le (fun a' q' m' e j3 s4 cd4 R4 f1 f2 f3 => ?_) (fun _ e => by cases e)
            cases e
            show w_X4_readSum_9 kp ks 20 x T n r w Q F (nI (z_oc (z_tk B len p1))) (nI x3 + 1) j3
            rw [nI_1]
            have ss := d2.1
            refine inner N0 p0 m0 a0 oM hL0 (some (z_oc (z_tk B len p1), A, s3, m1)) j3 s4 (x3 + 1) F cd4 ⟨R4, fun k hk => by rw [f1 k (by omega)]; exact d1 k hk, by omega, by omega, by omega, o23, mm, (show m1 < m0 by omega), z_kS_eq d2 (fun k y1 y2 => f1 k y2), f2, by omega⟩ (by omega) (by omega) (fun b p2 m2 e hnM2 j' s2' x3' F' cd' L' y1 y2 => ih p2 m2 _ (hnext b p2 m2 e) hnM2 (some (z_oc (z_tk B len p1), A, s3, m1)) b j' s2' x3' F' cd' rfl L' y1 y2) (fun t e i' X' => herr t (herr0 t e) i' X')
          have perr : ∀ t, P (p1 + 1) m1 (.error t) → o = .error t → w_X4_readSum_58 kp ks 20 x T n r w Q (w_X4_readSum_9 kp ks 20 x T n r w Q F) (nI x3) (nI (z_oc (z_tk B len p1))) j2 := by
            intro t hPe he
            refine hkp (p1 + 1) m1 s3 cd3 _ j2 _ hPe R3 (by omega) m1le (fun _ _ _ e => by cases e) (fun t' e j3 X3 => ?_)
            cases e
            show w_X4_readSum_9 kp ks 20 x T n r w Q F (nI (z_oc (z_tk B len p1))) (nI x3 + 1) j3
            rw [nI_1]
            obtain ⟨F, rfl⟩ : ∃ F', F = F' + 1 := ⟨F - 1, by omega⟩
            exact stuck F (x3 + 1) _ j3 t X3 (herr t he)
          rcases hrest with ⟨b, p2, m2, hPM, hL⟩ | ⟨t, hPM, he⟩
          · rcases hPM.1 with ⟨a0, p0, m0, N0, hPa, hL0⟩ | ⟨t, _, e⟩
            · exact part a0 p0 m0 N0 _ hPa hL0 (fun b' p2' m2' e => by cases e; exact hL) (fun t e => by cases e)
            · cases e
          · rcases hPM.1 with ⟨a0, p0, m0, N0, hPa, hL0⟩ | ⟨t', hPe, e⟩
            · exact part a0 p0 m0 N0 _ hPa hL0 (fun b' p2' m2' e => by cases e) (fun t' e => by cases e; exact he)
            · cases e
              exact perr t hPe he
        have c47 : ∀ j1, z_RS i0 j1 B len (p1 + 1) m1 s2 cd → w_X4_readSum_47 kp ks 20 x T n r w Q (w_X4_readSum_9 kp ks 20 x T n r w Q F) (z_hx held) (nI x3) (nI (z_oc (z_tk B len p1))) j1 := by
          intro j1 R2
          cases held with
          | none =>
            refine ⟨fun _ => c58 j1 s2 cd R2 c1 ?_ hh.2, fun q => absurd rfl q⟩
            rw [← hA]
            exact hh.1
          | some q => exact ⟨fun z => absurd z (z_m1ne (by have := hh.1; omega)), fun _ => put (p1 + 1) j1 _ R2 (fun j' s3 cd' R' u1 u2 u3 => c58 j' s3 cd' R' u1 u2 u3) q rfl⟩
        refine ⟨fun q => ?_, fun _ => z_calc4 hx R1 (fun _ => ⟨fun _ => z_stepT hx R1 fun j1 R2 => ⟨fun _ => c47 j1 R2, fun q => ⟨fun q2 => ?_, fun _ => c47 j1 R2⟩⟩, fun q => absurd q (z_m1ne (by omega))⟩) (fun z => absurd hS z)⟩
        · have := (nI_leI (a := 400) (by decide) (by omega)).mp q
          omega
        · rcases o23 with z | z
          · exact absurd (by rw [z]; rfl) q
          · exact absurd (by rw [z]; rfl) q2
  -- the first part
  have first : ∀ (a0 : z_Sm) (p0 m0 N0 : Nat) (oM : z_O z_Sm), P p m (.ok (a0, p0, m0)) → z_Lp (z_tk B len) z_isM z_mkS P N0 p0 m0 a0 oM → (∀ b p2 m2, oM = .ok (b, p2, m2) → ∃ N, z_Lp (z_tk B len) z_isA z_mkS (z_gC (z_tk B len) sz z_isM z_mkS P) N p2 m2 b o) → (∀ t, oM = .error t → o = .error t) → w_X4_readSum kp ks 20 x T n r i w Q := by
    intro a0 p0 m0 N0 oM hPa hL0 hnext herr0
    have g := (hP _ _ _ hPa).1 a0 p0 m0 rfl
    refine hkp p m s cd0 _ i _ hPa hRS hs m50 (fun a' q' m' e j3 s4 cd4 R4 f1 f2 f3 => ⟨sz + 1, ?_⟩) (fun _ e => by cases e)
    cases e
    refine inner N0 p0 m0 a0 oM hL0 none j3 s4 0 (sz + 1) cd4 ⟨R4, f1, by omega, by omega, by omega, f2, f3⟩ (Nat.zero_le _) (by omega) (fun b p2 m2 e hnM2 j' s2' x3' F' cd' L' y1 y2 => ?_) (fun t e i' X' => herr t (herr0 t e) i' X')
    obtain ⟨N, hN⟩ := hnext b p2 m2 e
    exact outer N p2 m2 b hN hnM2 none b j' s2' x3' F' cd' rfl L' y1 y2
  rcases hg.1 with ⟨A, p', m', N, hPM, hL⟩ | ⟨t, hPM, he⟩
  · rcases hPM.1 with ⟨a0, p0, m0, N0, hPa, hL0⟩ | ⟨t, _, e⟩
    · exact first a0 p0 m0 N0 _ hPa hL0 (fun b' p2' m2' e => by cases e; exact ⟨N, hL⟩) (fun t e => by cases e)
    · cases e
  · rcases hPM.1 with ⟨a0, p0, m0, N0, hPa, hL0⟩ | ⟨t', hPe, e⟩
    · exact first a0 p0 m0 N0 _ hPa hL0 (fun b' p2' m2' e => by cases e) (fun t' e => by cases e; exact he)
    · cases e
      refine hkp p m s cd0 _ i _ hPe hRS hs m50 (fun _ _ _ e => by cases e) (fun t' e j3 X3 => ⟨1, ?_⟩)
      cases e
      exact stuck 0 0 _ j3 t X3 (herr t he)
/-- parts and sums, with e brackets left -/
theorem z_rPS (hx : z_cx4 T r B len) (hz : z_szo B len sz) : ∀ e, e ≤ 8 → (z_c4 T n r w i0 B len (g_X4_readPart (2 * e + 1)).1 (nI (8 - e)) (z_gP (z_tk B len) (z_vl B len) sz e) z_kS ∧ z_c4X T n r w i0 B len (g_X4_readPart (2 * e + 1)).1 (nI (8 - e))) ∧ z_c4 T n r w i0 B len (g_X4_readPart (2 * e + 2)).2 (nI (8 - e)) (z_gS (z_tk B len) (z_vl B len) sz e) z_kS ∧ z_c4X T n r w i0 B len (g_X4_readPart (2 * e + 2)).2 (nI (8 - e)) := by
  have h0 := z_tk0 hz
  intro e
  induction e with
  | zero =>
    intro _
    have a : z_c4 T n r w i0 B len (g_X4_readPart 1).1 (nI (8 - 0)) (z_gP (z_tk B len) (z_vl B len) sz 0) z_kS := z_rPart0 hx hz
    have b : z_c4X T n r w i0 B len (g_X4_readPart 1).1 (nI (8 - 0)) := z_rPartX hx
    exact ⟨⟨a, b⟩, z_rSum hx hz a b (z_gP_tot h0 0).2, z_rSumX hx b⟩
  | succ e ih =>
    intro he
    obtain ⟨-, c, d⟩ := ih (by omega)
    have a : z_c4 T n r w i0 B len (g_X4_readPart (2 * (e + 1) + 1)).1 (nI (8 - (e + 1))) (z_gP (z_tk B len) (z_vl B len) sz (e + 1)) z_kS := z_rPartS hx hz he c d (z_gS_tot h0 e).2
    have b : z_c4X T n r w i0 B len (g_X4_readPart (2 * (e + 1) + 1)).1 (nI (8 - (e + 1))) := z_rPartX hx
    exact ⟨⟨a, b⟩, z_rSum hx hz a b (z_gP_tot h0 (e + 1)).2, z_rSumX hx b⟩
end ZSR
