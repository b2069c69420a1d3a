-- THE CLASS READS TESTS
section ZTR
variable {T : kw_T} {n : Nat} {r : kw_R} {i i0 : kw_I} {w : kw_L} {B : Nat → Nat} {len sz : Nat}
theorem z_cmp4 (hx : z_cx4 T r B len) {p m s : Nat} {cd : Nat → Nat} (h : z_RS i0 i B len p m s cd) {Q : Int32 → Prop} (hy : z_isC (z_tk B len p) → Q (nI (z_cc (z_tk B len p)))) (hn : ¬ z_isC (z_tk B len p) → Q (-1)) : w_X4_comparison 20 T n r i w Q := by
  have hB := hx.2.2.2
  have kl := z_kd_lt (len := len) hB (z_plc B len p)
  have t60 := z_tk_sign (B := B) (len := len) (t := p) (c := 160) (by decide) (by decide)
  have t62 := z_tk_sign (B := B) (len := len) (t := p) (c := 162) (by decide) (by decide)
  have t61 := z_tk_sign (B := B) (len := len) (t := p) (c := 161) (by decide) (by decide)
  have is : ∀ k : Nat, k < 259 → (nI (z_kd B len (z_plc B len p)) = nI k ↔ z_kd B len (z_plc B len p) = k) := fun k hk => nI_eq (by omega) (by omega)
  unfold w_X4_comparison
  rw [h.2.1.2.2]
  refine ⟨fun q1 => ⟨fun q2 => ⟨fun q3 => hn ?_, fun q3 => ?_⟩, fun q2 => ?_⟩, fun q1 => ?_⟩
  · rintro (z | z | z)
    · exact q1 ((is 60 (by decide)).mpr (t60.mp z))
    · exact q2 ((is 62 (by decide)).mpr (t62.mp z))
    · exact q3 ((is 61 (by decide)).mpr (t61.mp z))
  · have e := t61.mpr ((is 61 (by decide)).mp q3)
    have := hy (Or.inr (Or.inr e))
    rw [e] at this
    exact this
  · have e := t62.mpr ((is 62 (by decide)).mp q2)
    have := hy (Or.inr (Or.inl e))
    rw [e] at this
    exact this
  · have e := t60.mpr ((is 60 (by decide)).mp q1)
    have := hy (Or.inl e)
    rw [e] at this
    exact this
theorem z_cmpX {t : Nat} (h : z_RX i0 i B len t) {Q : Int32 → Prop} (hn : Q (-1)) : w_X4_comparison 20 T n r i w Q := by
  unfold w_X4_comparison
  rw [h.2.1]
  exact ⟨fun _ => ⟨fun _ => ⟨fun _ => hn, fun q => absurd q (by decide)⟩, fun q => absurd q (by decide)⟩, fun q => absurd q (by decide)⟩
theorem z_pl108X (hx : z_cx4 T r B len) {kp kt : z_k4} {x x2 : Int32} {t : Nat} (h : z_RX i0 i B len t) {Q : kw_I → Prop} (hQ : ∀ i', z_RX i0 i' B len t → Q i') : w_X4_readPlain_108 kp kt 20 x T n r w Q x2 i := ⟨fun _ => hQ i h, fun _ => z_emitX (z_plc31 hx t) h (hQ i h)⟩
theorem z_pl97X (hx : z_cx4 T r B len) {kp kt : z_k4} {x x2 x3 : Int32} {e : Nat} (he : e ≤ 8) (hsX : z_c4X T n r w i0 B len (g_X4_readPart (2 * e + 2)).2 x) {t : Nat} (h : z_RX i0 i B len t) {Q : kw_I → Prop} (hQ : ∀ i', z_RX i0 i' B len t → Q i') : w_X4_readPlain_97 kp kt 20 x T n r w Q x2 x3 i := ⟨2 * e + 2, by omega, hsX t i _ h fun i1 X1 => z_emitX (z_plc31 hx t) X1 (z_pl108X hx X1 hQ)⟩
theorem z_pl71X (hx : z_cx4 T r B len) {kp kt : z_k4} {x x2 : Int32} {e : Nat} (he : e ≤ 8) (hsX : z_c4X T n r w i0 B len (g_X4_readPart (2 * e + 2)).2 x) {t : Nat} (h : z_RX i0 i B len t) {Q : kw_I → Prop} (hQ : ∀ i', z_RX i0 i' B len t → Q i') : w_X4_readPlain_71 kp kt 20 x T n r w Q x2 i := ⟨2 * e + 2, by omega, hsX t i _ h fun i1 X1 => z_cmpX X1 ⟨fun q => absurd rfl q, fun _ => z_stickX (z_plc31 hx t) X1 fun i2 X2 => z_pl97X hx he hsX X2 hQ⟩⟩
theorem z_rPlainX (hx : z_cx4 T r B len) {kp kt : z_k4} {x : Int32} {e : Nat} (he : e ≤ 8) (hsX : z_c4X T n r w i0 B len (g_X4_readPart (2 * e + 2)).2 x) : z_c4X T n r w i0 B len (w_X4_readPlain kp kt) x := by
  intro t i Q h hQ
  refine ⟨1, ?_⟩
  have c36 : w_X4_readPlain_36 kp kt 20 x T n r w Q 0 i := by
    unfold w_X4_readPlain_36
    rw [h.2.1]
    exact ⟨fun _ => z_pl71X hx he hsX h hQ, fun q => absurd q (by decide)⟩
  exact ⟨fun _ => c36, fun _ => z_takeWX h ⟨fun _ => c36, fun q => absurd rfl q⟩⟩
theorem z_rPlain (hx : z_cx4 T r B len) (hz : z_szo B len sz) {kp kt : z_k4} {e : Nat} (he : e ≤ 8) (hs : z_c4 T n r w i0 B len (g_X4_readPart (2 * e + 2)).2 (nI (8 - e)) (z_gS (z_tk B len) (z_vl B len) sz e) z_kS) (hsX : z_c4X T n r w i0 B len (g_X4_readPart (2 * e + 2)).2 (nI (8 - e))) (ht : ∀ e', e = e' + 1 → z_c4 T n r w i0 B len kt (nI (8 - e')) (z_gT (z_tk B len) (z_vl B len) sz e') z_kT) : z_c4 T n r w i0 B len (w_X4_readPlain kp kt) (nI (8 - e)) (z_gQ (z_tk B len) (z_vl B len) sz e) z_kT := by
  have hB := hx.2.2.2
  have hl := hx.2.2.1
  have szl := hz.1
  have h0 := z_tk0 hz
  intro p m s cd o i Q hg hRS hsp m50 hok herr
  rw [z_gQ_iff] at hg
  obtain ⟨k, o', hk1, hk2, hX, hO, hgd⟩ := hg
  -- behind the plain test itself
  have c108 : ∀ (j : kw_I) (S : z_Ts) (q m' s' : Nat) (cd' : Nat → Nat), o' = .ok (S, q, m') → z_RS i0 j B len q m' s' cd' → (∀ k, k < s → cd' k = cd k) → z_kT cd' s s' (m' - m) S → s' + (p + k) ≤ s + q → q ≤ sz → w_X4_readPlain_108 kp kt 20 (nI (8 - e)) T n r w Q (nI (k % 2)) j := by
    intro j S q m' s' cd' ho' R c1 c2 c3 c4
    rcases hO with ⟨t, e1, _⟩ | ⟨S', q', m'', e1, e2⟩
    · rw [e1] at ho'; cases ho'
    · rw [e1] at ho'
      cases ho'
      have ss := c2.1
      refine ⟨fun z => ?_, fun z => ?_⟩
      · have k0 : k % 2 = 0 := (nI_eq (b := 0) (by omega) (by decide)).mp z
        rw [if_neg (by omega)] at e2
        exact hok _ _ _ e2 j s' cd' R c1 c2 (by omega)
      · have k1 : k % 2 = 1 := by
          have : k % 2 ≠ 0 := fun y => z (by rw [y]; rfl)
          omega
        rw [if_pos k1] at e2
        refine z_emit4 (op := 9) (wt := 0) hx R (by omega) (by decide) (by decide) (fun y => by omega) fun j4 cd4 R4 e4 e5 => hok _ _ _ e2 j4 (s' + 1) cd4 R4 (fun k hk => by rw [e4 k (by omega)]; exact c1 k hk) ?_ (by omega)
        exact z_kT_nt (z_kS_eq c2 (fun k y1 y2 => e4 k y2)) (by rw [e5])
  have cerr : ∀ t, o' = .error t → o = .error t := by
    intro t ho'
    rcases hO with ⟨t', e1, e2⟩ | ⟨S', q', m'', e1, e2⟩
    · rw [e1] at ho'
      cases ho'
      exact e2
    · rw [e1] at ho'; cases ho'
  have e108X : ∀ (t : Nat) (j : kw_I) (x2 : Int32), o' = .error t → z_RX i0 j B len t → w_X4_readPlain_108 kp kt 20 (nI (8 - e)) T n r w Q x2 j := fun t j x2 ho' X => z_pl108X hx X (herr t (cerr t ho'))
  have ts := z_tk_sign (B := B) (len := len) (t := p + k) (c := 140) (by decide) (by decide)
  have kl := z_kd_lt (len := len) hB (z_plc B len (p + k))
  have sumtot := z_gS_tot (vl := z_vl B len) h0 e
  -- two sums
  have c71 : ∀ (j : kw_I), z_RS i0 j B len (p + k) m s cd → (z_gCm (z_tk B len) (z_gS (z_tk B len) (z_vl B len) sz e) (p + k) m o' ∨ (∃ t, z_gS (z_tk B len) (z_vl B len) sz e (p + k) m (.error t) ∧ o' = .error t)) → w_X4_readPlain_71 kp kt 20 (nI (8 - e)) T n r w Q (nI (k % 2)) j := by
    intro j R hcm
    refine ⟨2 * e + 2, by omega, ?_⟩
    have hcm : (∃ t, z_gS (z_tk B len) (z_vl B len) sz e (p + k) m (.error t) ∧ o' = .error t) ∨ ∃ a p1 m1, z_gS (z_tk B len) (z_vl B len) sz e (p + k) m (.ok (a, p1, m1)) ∧ ((¬ z_isC (z_tk B len p1) ∧ o' = .error p1) ∨ (z_isC (z_tk B len p1) ∧ ((∃ t, z_gS (z_tk B len) (z_vl B len) sz e (p1 + 1) m1 (.error t) ∧ o' = .error t) ∨ ∃ b p2 m2, z_gS (z_tk B len) (z_vl B len) sz e (p1 + 1) m1 (.ok (b, p2, m2)) ∧ o' = .ok (z_cmpS (z_cc (z_tk B len p1)) a b, p2, m2)))) := by
      rcases hcm with h | h
      · exact h
      · exact Or.inl h
    rcases hcm with ⟨t, hP, ho⟩ | ⟨a, p1, m1, hP, hrest⟩
    · exact hs (p + k) m s cd _ j _ hP R (by omega) m50 (fun _ _ _ h => by cases h) (fun t' h j1 X1 => by
        cases h
        exact z_cmpX X1 ⟨fun q => absurd rfl q, fun _ => z_stickX (z_plc31 hx t) X1 fun i2 X2 => z_pl97X hx he hsX X2 (herr t (cerr t ho))⟩)
    · have g := (sumtot.2 _ _ _ hP).1 a p1 m1 rfl
      refine hs (p + k) m s cd _ j _ hP R (by omega) m50 (fun a' q' m' h j1 s1 cd1 R1 c1 c2 c3 => ?_) (fun _ h => by cases h)
      cases h
      have ss := c2.1
      refine z_cmp4 hx R1 (fun hC => ?_) (fun hC => ?_)
      · have cc : 6 ≤ z_cc (z_tk B len p1) ∧ z_cc (z_tk B len p1) ≤ 8 := by
          rcases hC with z | z | z <;> rw [z] <;> decide
        refine ⟨fun _ => z_stepT hx R1 fun j2 R2 => ⟨2 * e + 2, by omega, ?_⟩, fun q => absurd q (z_m1ne (by omega))⟩
        rcases hrest with ⟨h, _⟩ | ⟨_, ⟨t, hP2, ho⟩ | ⟨b, p2, m2, hP2, ho⟩⟩
        · exact absurd hC h
        · exact hs (p1 + 1) m1 s1 cd1 _ j2 _ hP2 R2 (by omega) (by omega) (fun _ _ _ h => by cases h) (fun t' h j3 X3 => by
            cases h
            exact z_emitX (z_plc31 hx t) X3 (e108X t j3 _ ho X3))
        · have g2 := (sumtot.2 _ _ _ hP2).1 b p2 m2 rfl
          refine hs (p1 + 1) m1 s1 cd1 _ j2 _ hP2 R2 (by omega) (by omega) (fun a' q' m' h j3 s3 cd3 R3 d1 d2 d3 => ?_) (fun _ h => by cases h)
          cases h
          have ss2 := d2.1
          refine z_emit4 (op := z_cc (z_tk B len p1)) (wt := 0) hx R3 (by omega) (by omega) (by omega) (fun y => by omega) fun j4 cd4 R4 e4 e5 => ?_
          refine c108 j4 _ p2 m2 (s3 + 1) cd4 ho R4 (fun k hk => by rw [e4 k (by omega), d1 k (by omega)]; exact c1 k hk) ?_ (by omega) (by omega)
          have := z_kT_cmp (o := z_cc (z_tk B len p1)) (z_kS_eq c2 (fun k y1 y2 => by rw [e4 k (by omega)]; exact d1 k y2)) (z_kS_eq d2 (fun k y1 y2 => e4 k y2)) (by rw [e5]; omega) (by omega) (by omega)
          rw [show m1 - m + (m2 - m1) = m2 - m by omega] at this
          exact this
      · rcases hrest with ⟨_, ho⟩ | ⟨h, _⟩
        · exact ⟨fun q => absurd rfl q, fun _ => z_stickT R1 fun j2 X2 => z_pl97X hx he hsX X2 (herr p1 (cerr p1 ho))⟩
        · exact absurd h hC
  have c36 : ∀ (j : kw_I), z_RS i0 j B len (p + k) m s cd → w_X4_readPlain_36 kp kt 20 (nI (8 - e)) T n r w Q (nI (k % 2)) j := by
    intro j R
    unfold w_X4_readPlain_36
    rw [R.2.1.2.2]
    rcases hX with ⟨tk140, hB2⟩ | ⟨tkn, hC⟩
    · cases e with
      | zero =>
        have psz : p + k < sz := z_tklt hz (by rw [tk140]; decide)
        have h7 : w_X4_readPlain_71 kp kt 20 (nI (8 - 0)) T n r w Q (nI (k % 2)) j := by
          refine c71 j R (Or.inr ⟨p + k, ?_, hB2⟩)
          have hp : z_gP (z_tk B len) (z_vl B len) sz 0 (p + k) m (.error (p + k)) := ⟨Or.inr (Or.inr ⟨by rw [tk140]; decide, fun z => by
            have := z.1
            unfold z_lf at this
            rw [tk140] at this
            omega, rfl⟩), z_gd_er (Nat.le_refl _) (by omega)⟩
          exact ⟨Or.inr ⟨_, ⟨Or.inr ⟨_, hp, rfl⟩, z_gd_er (Nat.le_refl _) (by omega)⟩, rfl⟩, z_gd_er (Nat.le_refl _) (by omega)⟩
        exact ⟨fun _ => h7, fun _ => ⟨fun _ => h7, fun q => absurd (by decide) q⟩⟩
      | succ e =>
        refine ⟨fun q => absurd (by rw [ts.mp tk140]; rfl) q, fun _ => ⟨fun q => ?_, fun _ => ?_⟩⟩
        · have := (nI_leI (a := 8) (by decide) (by omega)).mp q
          omega
        · rw [nI_1, show 8 - (e + 1) + 1 = 8 - e by omega]
          have htt := ht e rfl
          have ttot := z_gT_tot (vl := z_vl B len) h0 e
          refine z_stepT hx R fun j1 R1 => ?_
          rcases hB2 with ⟨t, hP, ho⟩ | ⟨a, p', m', hP, hcl⟩
          · exact htt (p + k + 1) m s cd _ j1 _ hP R1 (by omega) m50 (fun _ _ _ h => by cases h) (fun t' h j2 X2 => by
              cases h
              exact z_takeSX (c := 41) (z_plc31 hx t) X2 (by decide) (fun j3 X3 => e108X t j3 _ ho X3))
          · have g := (ttot.2 _ _ _ hP).1 a p' m' rfl
            refine htt (p + k + 1) m s cd _ j1 _ hP R1 (by omega) m50 (fun a2 q2 m2 h j2 s2 cd2 R2 c1 c2 c3 => ?_) (fun _ h => by cases h)
            cases h
            refine z_takeS4 (c := 41) hx R2 (by decide) (by decide) (fun htk j3 R3 => ?_) (fun htk j3 X3 => ?_)
            · rcases hcl with ⟨_, h⟩ | ⟨h, _⟩
              · have psz : p' < sz := z_tklt hz (by rw [htk]; decide)
                exact c108 j3 a (p' + 1) m' s2 cd2 h R3 c1 c2 (by omega) (by omega)
              · exact absurd htk h
            · rcases hcl with ⟨h, _⟩ | ⟨_, h⟩
              · exact absurd h htk
              · exact e108X p' j3 _ h X3
    · refine ⟨fun _ => c71 j R (Or.inl hC), fun q => absurd (ts.mpr ((nI_eq (b := 40) (by omega) (by decide)).mp q)) tkn⟩
  -- nots
  refine ⟨k + 1, ?_⟩
  have loop : ∀ (d a : Nat) (j : kw_I), a + d = k → z_RS i0 j B len (p + a) m s cd → w_X4_readPlain_4 kp kt 20 (nI (8 - e)) T n r w Q (d + 1) (nI (a % 2)) (nI a) j := by
    intro d
    induction d with
    | zero =>
      intro a j ha R
      have : a = k := by omega
      subst this
      exact ⟨fun _ => c36 j R, fun _ => z_takeW4 (j := 11) hx R (by decide) (fun htk => absurd htk hk2) (fun _ => ⟨fun _ => c36 j R, fun q => absurd rfl q⟩)⟩
    | succ d ih =>
      intro a j ha R
      have t5 := hk1 a (by omega)
      have psz : p + a < sz := z_tklt hz (by rw [t5]; decide)
      refine ⟨fun q => ?_, fun _ => z_takeW4 (j := 11) hx R (by decide) (fun _ j1 R1 => ⟨fun q => absurd q (by decide), fun _ => ?_⟩) (fun htk => absurd t5 htk)⟩
      · have := (nI_leI (a := 400) (by decide) (by omega)).mp q
        omega
      · have nx := ih (a + 1) j1 (by omega) R1
        refine ⟨fun q => ?_, fun q => ?_⟩
        · show w_X4_readPlain_4 kp kt 20 (nI (8 - e)) T n r w Q (d + 1) 0 (nI a + 1) j1
          have a1 : (a + 1) % 2 = 0 := by
            have : a % 2 ≠ 0 := fun y => q (by rw [y]; rfl)
            omega
          rw [a1] at nx
          rw [nI_1]
          exact nx
        · show w_X4_readPlain_4 kp kt 20 (nI (8 - e)) T n r w Q (d + 1) 1 (nI a + 1) j1
          have a1 : (a + 1) % 2 = 1 := by
            have := (nI_eq (b := 0) (by omega) (by decide)).mp q
            omega
          rw [a1] at nx
          rw [nI_1]
          exact nx
  exact loop k 0 i (by omega) hRS
end ZTR
