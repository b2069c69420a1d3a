-- CHAINS OF TESTS, BY THE CLASS
section ZTC
variable {T : kw_T} {n : Nat} {r : kw_R} {i i0 : kw_I} {w : kw_L} {B : Nat → Nat} {len sz : Nat}
/-- what a test's reading has so far: held are what is ahead of the last 'or', where that stands, how many parts were ahead of it -/
def z_LT (i0 : kw_I) (B : Nat → Nat) (len sz p m s : Nat) (cd0 : Nat → Nat) (held : Option (z_Ts × Nat × Nat)) (a : z_Ts) (i : kw_I) (p1 m1 s2 : Nat) (cd : Nat → Nat) : Prop := z_RS i0 i B len p1 m1 s2 cd ∧ (∀ k, k < s → cd k = cd0 k) ∧ m < m1 ∧ m1 ≤ 50 ∧ p1 ≤ sz ∧ s2 + p ≤ s + p1 ∧ match held with
  | none => z_kT cd s s2 (m1 - m) a
  | some q => m < q.2.2 ∧ q.2.2 < m1 ∧ z_kT cd s q.2.1 (q.2.2 - m) q.1 ∧ cd q.2.1 % 16 = 11 ∧ z_kT cd (q.2.1 + 1) s2 (m1 - q.2.2) a
def z_hT (held : Option (z_Ts × Nat × Nat)) : Int32 := match held with
  | none => -1
  | some q => nI q.2.1
def z_tlT (held : Option (z_Ts × Nat × Nat)) (a : z_Ts) : z_Ts := match held with
  | none => a
  | some q => z_orS q.1 a
theorem z_rTestX (hx : z_cx4 T r B len) {kp kt : z_k4} {x : Int32} (hkp : z_c4X T n r w i0 B len kp x) : z_c4X T n r w i0 B len (w_X4_readTest kp kt) x := by
  intro t i Q h hQ
  refine hkp t i _ h fun i1 X1 => ⟨1, ?_⟩
  have c93 : w_X4_readTest_93 kp kt 20 x T n r w Q (-1) i1 := z_skipX hx.1 X1 hQ
  exact ⟨fun q => absurd q (by decide), fun _ => z_takeWX X1 ⟨fun _ => z_isWordX X1 ⟨fun _ => c93, fun q => absurd rfl q⟩, fun q => absurd rfl q⟩⟩
theorem z_rTest (hx : z_cx4 T r B len) (hz : z_szo B len sz) {kp kt : z_k4} {x : Int32} {P : Nat → Nat → z_O z_Ts → Prop} (hkp : z_c4 T n r w i0 B len kp x P z_kT) (hP : ∀ p m o, P p m o → z_gd sz p m o) : z_c4 T n r w i0 B len (w_X4_readTest kp kt) x (z_gTo (z_tk B len) sz P) z_kT := by
  have hB := hx.2.2.2
  have hl := hx.2.2.1
  intro p m s cd0 o i Q hg hRS hs m50 hok herr
  have szl := hz.1
  have stuck : ∀ (F x3 : Nat) (x2 : Int32) (j : kw_I) (t : Nat), z_RX i0 j B len t → (∀ i', z_RX i0 i' B len t → Q i') → w_X4_readTest_9 kp kt 20 x T n r w Q (F + 1) x2 (nI x3) j := by
    intro F x3 x2 j t hX hQ
    have c93 : w_X4_readTest_93 kp kt 20 x T n r w Q x2 j := z_skipX hx.1 hX hQ
    exact ⟨fun _ => c93, fun _ => z_takeWX hX ⟨fun _ => z_isWordX hX ⟨fun _ => c93, fun q => absurd rfl q⟩, fun q => absurd rfl q⟩⟩
  -- a chain of 'and'
  have inner : ∀ (N p1 m1 : Nat) (a : z_Ts) (oM : z_O z_Ts), z_Lp (z_tk B len) (fun c => c = 4) z_mkA P N p1 m1 a oM → ∀ (held : Option (z_Ts × Nat × Nat)) (j : kw_I) (s2 x3 F : Nat) (cd : Nat → Nat), z_LT i0 B len sz p m s cd0 held a j p1 m1 s2 cd → x3 ≤ p1 → sz - p1 < F → (∀ b p2 m2, oM = .ok (b, p2, m2) → ¬ z_tk B len p2 = 4 → ∀ j' s2' x3' F' cd', z_LT i0 B len sz p m s cd0 held b j' p2 m2 s2' cd' → x3' ≤ p2 → sz - p2 < F' → w_X4_readTest_9 kp kt 20 x T n r w Q F' (z_hT held) (nI x3') j') → (∀ t, oM = .error t → ∀ i', z_RX i0 i' B len t → Q i') → w_X4_readTest_9 kp kt 20 x T n r w Q F (z_hT held) (nI x3) j := by
    intro N
    induction N with
    | zero => intro p1 m1 a oM h; exact h.elim
    | succ N ih =>
      intro p1 m1 a oM h held j s2 x3 F cd hLT h3 hF hok2 herr2
      rcases h with ⟨hn, he⟩ | ⟨hM, hrest⟩
      · exact hok2 a p1 m1 he hn j s2 x3 F cd hLT h3 hF
      · have hM : z_tk B len p1 = 4 := hM
        have p1s : p1 < sz := z_tklt hz (by rw [hM]; decide)
        obtain ⟨F, rfl⟩ : ∃ F', F = F' + 1 := ⟨F - 1, by omega⟩
        obtain ⟨R1, c1, mm, m1le, p1z, cnt, hh⟩ := hLT
        have ss2 : s < s2 := by
          cases held with
          | none => exact hh.1
          | some q => have := hh.2.2.1.1; have := hh.2.2.2.2.1; omega
        refine ⟨fun q => ?_, fun _ => z_takeW4 (j := 12) hx R1 (by decide) (fun _ j1 R2 => ⟨fun q => absurd q (by decide), fun _ => ?_⟩) (fun htk => absurd hM htk)⟩
        · have := (nI_leI (a := 400) (by decide) (by omega)).mp q
          omega
        have es2 : j1 20 7 = nI s2 := R2.2.2.2.2.1
        rw [es2]
        refine z_emit4 (op := 10) (wt := 0) hx R2 (by omega) (by decide) (by decide) (fun z => by omega) fun j2 cd2 R3 e1 e2 => ?_
        rcases hrest with ⟨b, p2, m2, hPb, hL⟩ | ⟨t, hPe, he⟩
        · have g := (hP _ _ _ hPb).1 b p2 m2 rfl
          refine hkp (p1 + 1) m1 (s2 + 1) cd2 _ j2 _ hPb R3 (by omega) m1le (fun b' q' m' e j3 s3 cd3 R4 d1 d2 d3 => ?_) (fun _ e => by cases e)
          cases e
          have dd := d2.1
          have op2 : cd3 s2 = 10 := by rw [d1 s2 (by omega), e2]
          refine z_skip4 hx R4 (show s2 < s3 by omega) (Or.inl (by rw [op2])) fun j4 cd4 R5 f1 f2 => ?_
          show w_X4_readTest_9 kp kt 20 x T n r w Q F (z_hT held) (nI x3 + 1) j4
          rw [nI_1]
          have c2b : ∀ k, k < s2 → cd4 k = cd k := fun k hk => by rw [f1 k (by omega), d1 k (by omega), e1 k hk]
          have c3b : ∀ k, s2 + 1 ≤ k → k < s3 → cd4 k = cd3 k := fun k k1 k2 => f1 k (by omega)
          have c4b : cd4 s2 = 16 * s3 + 10 := by rw [f2, op2]
          refine ih p2 m2 (z_mkA (z_tk B len p1) a b) oM hL held j4 s3 (x3 + 1) F cd4 ⟨R5, fun k hk => by rw [c2b k (by omega)]; exact c1 k hk, by omega, by omega, by omega, by omega, ?_⟩ (by omega) (by omega) hok2 herr2
          cases held with
          | none =>
            have := z_kT_an (z_kS_eq hh (fun k k1 k2 => c2b k k2)) (z_kS_eq d2 (fun k k1 k2 => c3b k k1 k2)) c4b
            rw [show m1 - m + (m2 - m1) = m2 - m by omega] at this
            exact this
          | some q =>
            obtain ⟨k2, k3, k4, k5, k6⟩ := hh
            have := k6.1
            refine ⟨k2, by omega, z_kS_eq k4 (fun k y1 y2 => c2b k (by omega)), by rw [c2b _ (by omega)]; exact k5, ?_⟩
            have := z_kT_an (z_kS_eq k6 (fun k y1 y2 => c2b k y2)) (z_kS_eq d2 (fun k y1 y2 => c3b k y1 y2)) c4b
            rw [show m1 - q.2.2 + (m2 - m1) = m2 - q.2.2 by omega] at this
            exact this
        · refine hkp (p1 + 1) m1 (s2 + 1) cd2 _ j2 _ hPe R3 (by omega) m1le (fun _ _ _ e => by cases e) (fun t' e j3 X3 => ?_)
          cases e
          refine z_skipX hx.1 X3 fun j4 X4 => ?_
          show w_X4_readTest_9 kp kt 20 x T n r w Q F (z_hT held) (nI x3 + 1) j4
          rw [nI_1]
          obtain ⟨F, rfl⟩ : ∃ F', F = F' + 1 := ⟨F - 1, by omega⟩
          exact stuck F (x3 + 1) _ j4 t X4 (herr2 t he)
  -- a chain of 'or'
  have outer : ∀ (N p1 m1 : Nat) (A : z_Ts), z_Lp (z_tk B len) (fun c => c = 3) z_mkO (z_gC (z_tk B len) sz (fun c => c = 4) z_mkA P) N p1 m1 A o → ¬ z_tk B len p1 = 4 → ∀ (held : Option (z_Ts × Nat × Nat)) (a : z_Ts) (j : kw_I) (s2 x3 F : Nat) (cd : Nat → Nat), z_tlT held a = A → z_LT i0 B len sz p m s cd0 held a j p1 m1 s2 cd → x3 ≤ p1 → sz - p1 < F → w_X4_readTest_9 kp kt 20 x T n r w Q F (z_hT held) (nI x3) j := by
    intro N
    induction N with
    | zero => intro p1 m1 A h; exact h.elim
    | succ N ih =>
      intro p1 m1 A h hn4 held a j s2 x3 F cd hA hLT h3 hF
      obtain ⟨F, rfl⟩ : ∃ F', F = F' + 1 := ⟨F - 1, by omega⟩
      obtain ⟨R1, c1, mm, m1le, p1z, cnt, hh⟩ := hLT
      have ss2 : s < s2 := by
        cases held with
        | none => exact hh.1
        | some q => have := hh.2.2.1.1; have := hh.2.2.2.2.1; omega
      -- what is held gets its end
      have put : ∀ (p' : Nat) (j : kw_I) (R : kw_I → Prop), z_RS i0 j B len p' m1 s2 cd → (∀ j' cd', z_RS i0 j' B len p' m1 s2 cd' → (∀ k, k < s → cd' k = cd0 k) → z_kT cd' s s2 (m1 - m) A → R j') → w_X4_skipToHere 20 (z_hT held) T n r j w R := by
        intro p' j R R1 hR
        cases held with
        | none =>
          refine z_skipN rfl (hR j cd R1 c1 ?_)
          rw [← hA]
          exact hh
        | some q =>
          obtain ⟨k2, k3, k4, k5, k6⟩ := hh
          have kk1 := k4.1
          have kk2 := k6.1
          refine z_skip4 hx R1 (show q.2.1 < s2 by omega) (Or.inr k5) fun j4 cd4 R4 f1 f2 => hR j4 cd4 R4 (fun k hk => by rw [f1 k (by omega)]; exact c1 k hk) ?_
          have := z_kT_or (z_kS_eq k4 (fun k y1 y2 => f1 k (by omega))) (z_kS_eq k6 (fun k y1 y2 => f1 k (by omega))) (by rw [f2, k5])
          rw [show q.2.2 - m + (m1 - q.2.2) = m1 - m by omega] at this
          rw [← hA]
          exact this
      rcases h with ⟨hn, he⟩ | ⟨hS, hrest⟩
      · have hn : ¬ z_tk B len p1 = 3 := hn
        have c93 : w_X4_readTest_93 kp kt 20 x T n r w Q (z_hT held) j := put p1 j _ R1 (fun j' cd' R' u1 u2 => hok A p1 m1 he j' s2 cd' R' u1 u2 cnt)
        exact ⟨fun _ => c93, fun _ => z_takeW4 (j := 12) hx R1 (by decide) (fun htk => absurd htk hn4) (fun _ => ⟨fun _ => z_isWord4 (j := 13) hx R1 (by decide) (fun htk => absurd htk hn) (fun _ => ⟨fun _ => c93, fun q => absurd rfl q⟩), fun q => absurd rfl q⟩)⟩
      · have hS : z_tk B len p1 = 3 := hS
        have p1s : p1 < sz := z_tklt hz (by rw [hS]; decide)
        refine ⟨fun q => ?_, fun _ => z_takeW4 (j := 12) hx R1 (by decide) (fun htk => absurd htk hn4) (fun _ => ⟨fun _ => z_isWord4 (j := 13) hx R1 (by decide) (fun _ => ⟨fun q => absurd q (by decide), fun _ => z_stepT hx R1 fun j1 R2 => put (p1 + 1) j1 _ R2 fun j2 cd2 R3 d1 d2 => ?_⟩) (fun htk => absurd hS htk), fun q => absurd rfl q⟩)⟩
        · have := (nI_leI (a := 400) (by decide) (by omega)).mp q
          omega
        have es2 : j2 20 7 = nI s2 := R3.2.2.2.2.1
        rw [es2]
        refine z_emit4 (op := 11) (wt := 0) hx R3 (by omega) (by decide) (by decide) (fun z => by omega) fun j3 cd3 R4 e1 e2 => ?_
        have part : ∀ (a0 : z_Ts) (p0 m0 N0 : Nat) (oM : z_O z_Ts), P (p1 + 1) m1 (.ok (a0, p0, m0)) → z_Lp (z_tk B len) (fun c => c = 4) z_mkA P N0 p0 m0 a0 oM → (∀ b p2 m2, oM = .ok (b, p2, m2) → z_Lp (z_tk B len) (fun c => c = 3) z_mkO (z_gC (z_tk B len) sz (fun c => c = 4) z_mkA P) N p2 m2 (z_mkO (z_tk B len p1) A b) o) → (∀ t, oM = .error t → o = .error t) → kp 20 x T n r j3 w (fun i84 => w_X4_readTest_87 kp kt 20 x T n r w Q (w_X4_readTest_9 kp kt 20 x T n r w Q F) (nI s2) (nI x3) i84) := by
          intro a0 p0 m0 N0 oM hPa hL0 hnext herr0
          have g := (hP _ _ _ hPa).1 a0 p0 m0 rfl
          refine hkp (p1 + 1) m1 (s2 + 1) cd3 _ j3 _ hPa R4 (by omega) m1le (fun a' q' m' e j4 s4 cd4 R5 f1 f2 f3 => ?_) (fun _ e => by cases e)
          cases e
          show w_X4_readTest_9 kp kt 20 x T n r w Q F (nI s2) (nI x3 + 1) j4
          rw [nI_1]
          have ff := f2.1
          have c2b : ∀ k, k < s2 → cd4 k = cd2 k := fun k hk => by rw [f1 k (by omega), e1 k hk]
          refine inner N0 p0 m0 a0 oM hL0 (some (A, s2, m1)) j4 s4 (x3 + 1) F cd4 ⟨R5, fun k hk => by rw [c2b k (by omega)]; exact d1 k hk, by omega, by omega, by omega, by omega, mm, (show m1 < m0 by omega), z_kS_eq d2 (fun k y1 y2 => c2b k y2), (by show cd4 s2 % 16 = 11; rw [f1 s2 (by omega), e2]), f2⟩ (by omega) (by omega) (fun b p2 m2 e hnM2 j' s2' x3' F' cd' L' y1 y2 => ih p2 m2 _ (hnext b p2 m2 e) hnM2 (some (A, s2, m1)) b j' s2' x3' F' cd' rfl L' y1 y2) (fun t e i' X' => herr t (herr0 t e) i' X')
        rcases hrest with ⟨b, p2, m2, hPM, hL⟩ | ⟨t, hPM, he⟩
        · rcases hPM.1 with ⟨a0, p0, m0, N0, hPa, hL0⟩ | ⟨t, _, e⟩
          · exact part a0 p0 m0 N0 _ hPa hL0 (fun b' p2' m2' e => by cases e; exact hL) (fun t e => by cases e)
          · cases e
        · rcases hPM.1 with ⟨a0, p0, m0, N0, hPa, hL0⟩ | ⟨t', hPe, e⟩
          · exact part a0 p0 m0 N0 _ hPa hL0 (fun b' p2' m2' e => by cases e) (fun t' e => by cases e; exact he)
          · cases e
            refine hkp (p1 + 1) m1 (s2 + 1) cd3 _ j3 _ hPe R4 (by omega) m1le (fun _ _ _ e => by cases e) (fun t' e j4 X4 => ?_)
            cases e
            show w_X4_readTest_9 kp kt 20 x T n r w Q F (nI s2) (nI x3 + 1) j4
            rw [nI_1]
            obtain ⟨F, rfl⟩ : ∃ F', F = F' + 1 := ⟨F - 1, by omega⟩
            exact stuck F (x3 + 1) _ j4 t X4 (herr t he)
  have first : ∀ (a0 : z_Ts) (p0 m0 N0 : Nat) (oM : z_O z_Ts), P p m (.ok (a0, p0, m0)) → z_Lp (z_tk B len) (fun c => c = 4) z_mkA P N0 p0 m0 a0 oM → (∀ b p2 m2, oM = .ok (b, p2, m2) → ∃ N, z_Lp (z_tk B len) (fun c => c = 3) z_mkO (z_gC (z_tk B len) sz (fun c => c = 4) z_mkA P) N p2 m2 b o) → (∀ t, oM = .error t → o = .error t) → w_X4_readTest kp kt 20 x T n r i w Q := by
    intro a0 p0 m0 N0 oM hPa hL0 hnext herr0
    have g := (hP _ _ _ hPa).1 a0 p0 m0 rfl
    refine hkp p m s cd0 _ i _ hPa hRS hs m50 (fun a' q' m' e j3 s4 cd4 R4 f1 f2 f3 => ⟨sz + 1, ?_⟩) (fun _ e => by cases e)
    cases e
    refine inner N0 p0 m0 a0 oM hL0 none j3 s4 0 (sz + 1) cd4 ⟨R4, f1, by omega, by omega, by omega, f3, f2⟩ (Nat.zero_le _) (by omega) (fun b p2 m2 e hnM2 j' s2' x3' F' cd' L' y1 y2 => ?_) (fun t e i' X' => herr t (herr0 t e) i' X')
    obtain ⟨N, hN⟩ := hnext b p2 m2 e
    exact outer N p2 m2 b hN hnM2 none b j' s2' x3' F' cd' rfl L' y1 y2
  rcases hg.1 with ⟨A, p', m', N, hPM, hL⟩ | ⟨t, hPM, he⟩
  · rcases hPM.1 with ⟨a0, p0, m0, N0, hPa, hL0⟩ | ⟨t, _, e⟩
    · exact first a0 p0 m0 N0 _ hPa hL0 (fun b' p2' m2' e => by cases e; exact ⟨N, hL⟩) (fun t e => by cases e)
    · cases e
  · rcases hPM.1 with ⟨a0, p0, m0, N0, hPa, hL0⟩ | ⟨t', hPe, e⟩
    · exact first a0 p0 m0 N0 _ hPa hL0 (fun b' p2' m2' e => by cases e) (fun t' e => by cases e; exact he)
    · cases e
      refine hkp p m s cd0 _ i _ hPe hRS hs m50 (fun _ _ _ e => by cases e) (fun t' e j3 X3 => ⟨1, ?_⟩)
      cases e
      exact stuck 0 0 _ j3 t X3 (herr t he)
/-- plain tests and tests, with e brackets left -/
theorem z_rPT (hx : z_cx4 T r B len) (hz : z_szo B len sz) : ∀ e, e ≤ 8 → z_c4 T n r w i0 B len (g_X4_readPlain (2 * e + 2)).2 (nI (8 - e)) (z_gT (z_tk B len) (z_vl B len) sz e) z_kT ∧ z_c4X T n r w i0 B len (g_X4_readPlain (2 * e + 2)).2 (nI (8 - e)) := by
  have h0 := z_tk0 hz
  intro e
  induction e with
  | zero =>
    intro _
    obtain ⟨-, c, d⟩ := z_rPS (n := n) (w := w) (i0 := i0) hx hz 0 (by decide)
    have a : z_c4 T n r w i0 B len (g_X4_readPlain 1).1 (nI (8 - 0)) (z_gQ (z_tk B len) (z_vl B len) sz 0) z_kT := z_rPlain (e := 0) hx hz (by decide) c d (fun e' h => by omega)
    have b : z_c4X T n r w i0 B len (g_X4_readPlain 1).1 (nI (8 - 0)) := z_rPlainX (e := 0) hx (by decide) d
    exact ⟨z_rTest hx hz a (z_gQ_tot h0 0).2, z_rTestX hx b⟩
  | succ e ih =>
    intro he
    obtain ⟨p, q⟩ := ih (by omega)
    obtain ⟨-, c, d⟩ := z_rPS (n := n) (w := w) (i0 := i0) hx hz (e + 1) he
    have a : z_c4 T n r w i0 B len (g_X4_readPlain (2 * (e + 1) + 1)).1 (nI (8 - (e + 1))) (z_gQ (z_tk B len) (z_vl B len) sz (e + 1)) z_kT := z_rPlain (e := e + 1) hx hz he c d (fun e' h => by rw [show e' = e by omega]; exact p)
    have b : z_c4X T n r w i0 B len (g_X4_readPlain (2 * (e + 1) + 1)).1 (nI (8 - (e + 1))) := z_rPlainX (e := e + 1) hx he d
    exact ⟨z_rTest hx hz a (z_gQ_tot h0 (e + 1)).2, z_rTestX hx b⟩
end ZTC
