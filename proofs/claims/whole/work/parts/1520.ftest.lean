-- THE REFERENCE READS TESTS, CLAUSES, LAWS
section ZFT
variable {T : kw_T} {n : Nat} {r : kw_R} {i i0 : kw_I} {w : kw_L} {B : Nat → Nat} {len sz : Nat}
theorem z_fPlainX (hx : z_cxf T r i0 B len sz) {kb kl kt : z_k4} {x : Int32} : z_f4X T n r w i0 B len (w_X10_readPlain kb kl kt) x := fun t i Q h hQ => ⟨2, ⟨fun q => absurd q (by decide), fun _ => z_takeFX hx h ⟨fun _ => z_fineX hx h (z_f2 hQ), fun q => absurd rfl q⟩⟩⟩
theorem z_f127 (hx : z_cxf T r i0 B len sz) {kb kl kt : z_k4} {e : Nat} (he : e ≤ 8) {p m : Nat} {o : z_O z_Sm} (hg : z_gS (z_tk B len) (z_vl B len) sz e p m o) (h : z_FS i0 i p m) (hp : p ≤ sz) (hm : m ≤ 50) {Q : kw_I → Prop} (hok : ∀ a q m', o = .ok (a, q, m') → ∀ i', z_FS i0 i' q m' → Q i') (herr : ∀ t, o = .error t → ∀ i', z_FX i0 i' B len t → Q i') : w_X10_readPlain_127 kb kl kt 84 (nI (8 - e)) T n r w Q i := ⟨3 * e + 3, by omega, z_fPS hx e he p m o i _ hg h hp hm hok herr⟩
theorem z_f127X (hx : z_cxf T r i0 B len sz) {kb kl kt : z_k4} {x : Int32} {t : Nat} (h : z_FX i0 i B len t) {Q : kw_I → Prop} (hQ : Q i) : w_X10_readPlain_127 kb kl kt 84 x T n r w Q i := ⟨0 + 3, by decide, z_fSX hx 0 t i _ h hQ⟩
theorem z_fPlain (hx : z_cxf T r i0 B len sz) {kb kl kt : z_k4} {e : Nat} (he : e ≤ 8) (hkt : ∀ e', e = e' + 1 → z_f4 T n r w i0 B len sz kt (nI (8 - e')) (z_gTo (z_tk B len) sz (z_gQ (z_tk B len) (z_vl B len) sz e'))) : z_f4 T n r w i0 B len sz (w_X10_readPlain kb kl kt) (nI (8 - e)) (z_gQ (z_tk B len) (z_vl B len) sz e) := by
  intro p0 m o0 i Q hg h hp hm hok herr
  have hz := hx.2.2.2.1
  have h0 := z_tk0 hz
  rw [z_gQ_iff] at hg
  obtain ⟨k, o, hk1, hk2, hX, hO, hgd⟩ := hg
  have ok2 : ∀ a q m', o = .ok (a, q, m') → ∀ i', z_FS i0 i' q m' → Q i' := by
    intro a q m' e1 i' F
    rcases hO with ⟨t, e2, _⟩ | ⟨s, q', m'', e2, e3⟩
    · rw [e2] at e1; cases e1
    · rw [e2] at e1; cases e1
      exact hok _ _ _ e3 i' F
  have err2 : ∀ t, o = .error t → ∀ i', z_FX i0 i' B len t → Q i' := by
    intro t e1 i' X
    rcases hO with ⟨t', e2, e3⟩ | ⟨s, q', m'', e2, _⟩
    · rw [e2] at e1; cases e1
      exact herr _ e3 i' X
    · rw [e2] at e1; cases e1
  have body : ∀ j, z_FS i0 j (p0 + k) m → p0 + k ≤ sz → ∀ N, w_X10_readPlain_2 kb kl kt 84 (nI (8 - e)) T n r w Q (N + 1) 0 j := by
    intro j F hpk N
    generalize p0 + k = p at *
    refine ⟨fun _ => z_fineS F (z_t2 ?_), fun q => absurd rfl q⟩
    obtain ⟨c1, c2, -⟩ := z_fcode hx F hpk
    have tl := z_tk_lt (len := len) hx.2.2.1 p
    refine ⟨c1, ?_⟩
    show (_ → _) ∧ (_ → _)
    rw [c2]
    have ts : nI (z_tk B len p) = (100 : Int32) + 40 ↔ z_tk B len p = 140 := nI_eq (b := 140) (by omega) (by decide)
    refine ⟨fun q => ⟨3 * e + 3, by omega, ?_⟩, fun q => ?_⟩
    · have g1 : z_tk B len p ≠ 140 := fun z => q (ts.mpr z)
      have hC : z_gCm (z_tk B len) (z_gS (z_tk B len) (z_vl B len) sz e) p m o := by
        rcases hX with ⟨z, _⟩ | ⟨_, z⟩
        · exact absurd z g1
        · exact z
      rcases hC with ⟨t, hP, ho⟩ | ⟨a, p1, m1, hP, hc⟩
      · refine z_fPS hx e he p m _ j _ hP F hpk hm (fun _ _ _ z => by cases z) (fun t' z i1 X1 => ?_)
        cases z
        exact z_takeFX hx X1 (z_f2 (z_takeFX hx X1 (z_f2 (z_mustFX hx X1 (z_f127X hx X1 (err2 t ho i1 X1))))))
      · have g := ((z_gS_tot h0 e).2 _ _ _ hP).1 a p1 m1 rfl
        refine z_fPS hx e he p m _ j _ hP F hpk hm (fun a' q' m' z i1 F1 => ?_) (fun _ z => by cases z)
        cases z
        have go : z_isC (z_tk B len p1) → ∀ i2, z_FS i0 i2 (p1 + 1) m1 → w_X10_readPlain_127 kb kl kt 84 (nI (8 - e)) T n r w Q i2 := by
          intro hi i2 F2
          have lt1 : p1 < sz := z_tklt hz (by rcases hi with z | z | z <;> omega)
          rcases hc with ⟨z, _⟩ | ⟨_, ⟨t, hP2, ho⟩ | ⟨b, p2, m2, hP2, ho⟩⟩
          · exact absurd hi z
          · refine z_f127 hx he hP2 F2 (by omega) (by omega) (fun _ _ _ z => by cases z) (fun t' z i3 X3 => ?_)
            cases z
            exact err2 t ho i3 X3
          · refine z_f127 hx he hP2 F2 (by omega) (by omega) (fun _ _ _ z i3 F3 => ?_) (fun _ z => by cases z)
            cases z
            exact ok2 _ _ _ ho i3 F3
        refine z_takeF (c := 160) hx F1 (by omega) (by decide) (fun z i2 F2 => z_t2 (go (Or.inl z) i2 F2)) (fun n1 => z_f2 (z_takeF (c := 162) hx F1 (by omega) (by decide) (fun z i2 F2 => z_t2 (go (Or.inr (Or.inl z)) i2 F2)) (fun n2 => z_f2 (z_mustF (c := 161) hx F1 (by omega) (by decide) (fun z i2 F2 => go (Or.inr (Or.inr z)) i2 F2) (fun n3 i2 X2 => z_f127X hx X2 (err2 p1 ?_ i2 X2))))))
        rcases hc with ⟨_, z⟩ | ⟨z, _⟩
        · exact z
        · rcases z with z | z | z
          · exact absurd z n1
          · exact absurd z n2
          · exact absurd z n3
    · have g1 := ts.mp q
      cases e with
      | zero =>
        refine ⟨fun q2 => absurd rfl q2, fun _ => z_faultS hx F hpk fun i' X => z_fineX hx X (z_f2 (err2 p ?_ i' X))⟩
        rcases hX with ⟨_, z⟩ | ⟨z, _⟩
        · exact z
        · exact absurd g1 z
      | succ e =>
        refine ⟨fun _ => z_fineS F (z_t2 fun i1 e1 => ?_), fun q2 => absurd ((nI_eq (b := 8) (by omega) (by decide)).mp q2) (by omega)⟩
        have F1 : z_FS i0 i1 (p + 1) m := by rw [e1]; exact z_fstep F
        have hlt : p < sz := z_tklt hz (by omega)
        have hgB : z_gB (z_tk B len) 141 (z_gTo (z_tk B len) sz (z_gQ (z_tk B len) (z_vl B len) sz e)) p m o := by
          rcases hX with ⟨_, z⟩ | ⟨z, _⟩
          · exact z
          · exact absurd g1 z
        rw [nI_1, show 8 - (e + 1) + 1 = 8 - e by omega]
        rcases hgB with ⟨t, hP, ho⟩ | ⟨a, p', m', hP, hcl⟩
        · refine hkt e rfl (p + 1) m _ i1 _ hP F1 (by omega) hm (fun _ _ _ z => by cases z) (fun t' ht' i2 X2 => ?_)
          cases ht'
          exact z_mustFX hx X2 (err2 t ho i2 X2)
        · have g := ((z_gT_tot h0 e).2 _ _ _ hP).1 a p' m' rfl
          refine hkt e rfl (p + 1) m _ i1 _ hP F1 (by omega) hm (fun a2 q2 m2 z i2 F2 => ?_) (fun _ z => by cases z)
          cases z
          refine z_mustF (c := 141) hx F2 (by omega) (by decide) (fun ht i3 F3 => ?_) (fun ht i3 X3 => ?_)
          · rcases hcl with ⟨_, z⟩ | ⟨z, _⟩
            · exact ok2 _ _ _ z i3 F3
            · exact absurd ht z
          · rcases hcl with ⟨z, _⟩ | ⟨_, z⟩
            · exact absurd z ht
            · exact err2 _ z i3 X3
  have nots : ∀ (d c : Nat) (j : kw_I), c + d = k → z_FS i0 j (p0 + c) m → p0 + c ≤ sz → w_X10_readPlain_2 kb kl kt 84 (nI (8 - e)) T n r w Q (d + 2) 1 j := by
    intro d
    induction d with
    | zero =>
      intro c j hc F hpc
      obtain rfl : c = k := by omega
      exact ⟨fun q => absurd q (by decide), fun _ => z_takeF (c := 5) hx F hpc (by decide) (fun z => absurd z hk2) (fun _ => body j F hpc 0)⟩
    | succ d ih =>
      intro c j hc F hpc
      have t5 := hk1 c (by omega)
      have lt1 : p0 + c < sz := z_tklt hz (by omega)
      exact ⟨fun q => absurd q (by decide), fun _ => z_takeF (c := 5) hx F hpc (by decide) (fun _ i2 F2 => ih (c + 1) i2 (by omega) F2 (by omega)) (fun z => absurd t5 z)⟩
  exact ⟨k + 2, nots k 0 i (by omega) h hp⟩
theorem z_fBoth (hx : z_cxf T r i0 B len sz) {kb kl kt : z_k4} {x : Int32} {P : Nat → Nat → z_O z_Ts → Prop} (hkp : z_f4 T n r w i0 B len sz kl x P) (hP : ∀ p m o, P p m o → z_gd sz p m o) : z_f4 T n r w i0 B len sz (w_X10_readBoth kb kl kt) x (z_gC (z_tk B len) sz (fun c => c = 4) z_mkA P) := by
  have h0 := z_tk0 hx.2.2.2.1
  refine z_fchain (S := fun c => c = 4) (W := fun Q N j => w_X10_readBoth_5 kb kl kt 84 x T n r w Q N j) hkp hP (fun p hp z => by have := h0 p hp; omega) (fun Q N j p m F hp hn hy => ?_) (fun Q N j t X hQ => z_takeFX hx X (z_f' hQ))
  exact z_takeF (c := 4) hx F hp (by decide) (fun e i' F' => z_t2' (hy e i' F')) (fun e1 => z_f' (hn e1))
theorem z_fTest (hx : z_cxf T r i0 B len sz) {kb kl kt : z_k4} {x : Int32} {P : Nat → Nat → z_O z_Ts → Prop} (hkp : z_f4 T n r w i0 B len sz kb x P) (hP : ∀ p m o, P p m o → z_gd sz p m o) : z_f4 T n r w i0 B len sz (w_X10_readTest kb kl kt) x (z_gC (z_tk B len) sz (fun c => c = 3) z_mkO P) := by
  have h0 := z_tk0 hx.2.2.2.1
  refine z_fchain (S := fun c => c = 3) (W := fun Q N j => w_X10_readTest_5 kb kl kt 84 x T n r w Q N j) hkp hP (fun p hp z => by have := h0 p hp; omega) (fun Q N j p m F hp hn hy => ?_) (fun Q N j t X hQ => z_takeFX hx X (z_f' hQ))
  exact z_takeF (c := 3) hx F hp (by decide) (fun e i' F' => z_t2' (hy e i' F')) (fun e1 => z_f' (hn e1))
theorem z_fPT (hx : z_cxf T r i0 B len sz) : ∀ e, e ≤ 8 → z_f4 T n r w i0 B len sz (g_X10_readBoth (3 * e + 3)).2.2 (nI (8 - e)) (z_gT (z_tk B len) (z_vl B len) sz e) := by
  have h0 := z_tk0 hx.2.2.2.1
  intro e
  induction e with
  | zero =>
    intro _
    exact z_fTest hx (z_fBoth hx (z_fPlain hx (e := 0) (by decide) (fun e' z => by omega)) (z_gQ_tot h0 0).2) (fun p m o z => z.2)
  | succ e ih =>
    intro he
    exact z_fTest hx (z_fBoth hx (z_fPlain hx (e := e + 1) he (fun e' z => by
      obtain rfl : e = e' := by omega
      exact ih (by omega))) (z_gQ_tot h0 (e + 1)).2) (fun p m o z => z.2)
theorem z_f17X (hx : z_cxf T r i0 B len sz) {t : Nat} (h : z_FX i0 i B len t) {Q : kw_I → Prop} (hQ : Q i) : w_X10_readClause_17 84 T n r w Q i := z_takeFX hx h (z_f' hQ)
theorem z_fClause (hx : z_cxf T r i0 B len sz) {p m : Nat} {o : z_O z_Sm} (hg : z_gCl (z_tk B len) (z_vl B len) sz p m o) (h : z_FS i0 i p m) (hp : p ≤ sz) (hm : m ≤ 50) {Q : kw_I → Prop} (hok : ∀ a q m', o = .ok (a, q, m') → ∀ i', z_FS i0 i' q m' → Q i') (herr : ∀ t, o = .error t → ∀ i', z_FX i0 i' B len t → Q i') : w_X10_readClause 84 T n r i w Q := by
  have hz := hx.2.2.2.1
  have h0 := z_tk0 hz
  refine z_mustF (c := 1) hx h hp (by decide) (fun e1 i1 F1 => ?_) (fun e1 i1 X1 => ?_)
  · have lt1 : p < sz := z_tklt hz (by omega)
    refine z_fineS F1 (z_t2' ⟨3 * 8 + 3, by decide, ?_⟩)
    rcases hg.1 with ⟨z, _⟩ | ⟨_, ⟨t, hP, ho⟩ | ⟨s, p1, m1, hP, hc⟩⟩
    · exact absurd e1 z
    · refine z_fPS hx 8 (by decide) (p + 1) m _ i1 _ hP F1 (by omega) hm (fun _ _ _ z => by cases z) (fun t' z i2 X2 => ?_)
      cases z
      exact z_f17X hx X2 (herr t ho i2 X2)
    · have g := ((z_gS_tot h0 8).2 _ _ _ hP).1 s p1 m1 rfl
      refine z_fPS hx 8 (by decide) (p + 1) m _ i1 _ hP F1 (by omega) hm (fun _ _ _ z i2 F2 => ?_) (fun _ z => by cases z)
      cases z
      refine z_takeF (c := 2) hx F2 (by omega) (by decide) (fun e2 i3 F3 => z_t2' ⟨3 * 8 + 3, by decide, ?_⟩) (fun e2 => z_f' ?_)
      · have lt2 : p1 < sz := z_tklt hz (by omega)
        rcases hc with ⟨z, _⟩ | ⟨_, ⟨t, hP2, ho⟩ | ⟨b, p2, m2, hP2, ho⟩⟩
        · exact absurd e2 z
        · refine z_fPT hx 8 (by decide) (p1 + 1) m1 _ i3 _ hP2 F3 (by omega) (by omega) (fun _ _ _ z => by cases z) (fun t' z i4 X4 => ?_)
          cases z
          exact herr t ho i4 X4
        · refine z_fPT hx 8 (by decide) (p1 + 1) m1 _ i3 _ hP2 F3 (by omega) (by omega) (fun _ _ _ z i4 F4 => ?_) (fun _ z => by cases z)
          cases z
          exact hok _ _ _ ho i4 F4
      · rcases hc with ⟨_, z⟩ | ⟨z, _⟩
        · exact hok _ _ _ z i2 F2
        · exact absurd z e2
  · refine z_fineX hx X1 (z_f' (z_f17X hx X1 (herr p ?_ i1 X1)))
    rcases hg.1 with ⟨_, z⟩ | ⟨z, _⟩
    · exact z
    · exact absurd z e1
/-- how reading a law ends -/
theorem z_f95S {p m : Nat} (h : z_FS i0 i p m) {Q : Int32 → kw_I → Prop} (hQ : ∀ i', (∀ b, b ≠ 84 → i' b = i0 b) → (∀ f, f ≠ 10 → f ≠ 15 → f ≠ 16 → f ≠ 17 → i' 84 f = i0 84 f) → i' 84 10 = -1 → Q 1 i') : w_X10_reads_95 84 T n r w Q i := by
  intro i1 e1
  rw [h.2.2.2] at e1
  have f17 : i1 84 17 = -1 := by rw [e1, kw_st_row, if_neg (by decide)]; exact h.2.2.2
  exact ⟨fun q => absurd f17 q, fun _ => ⟨z_b1, hQ i1 (fun b hb => by rw [e1, kw_st_offF hb]; exact h.1.1 b hb) (fun f f1 f2 f3 f4 => by rw [e1, kw_st_row, if_neg f1]; exact h.1.2 f f2 f3 f4) (by rw [e1, kw_st_same])⟩⟩
theorem z_f95X (hx : z_cxf T r i0 B len sz) {t : Nat} (h : z_FX i0 i B len t) {Q : Int32 → kw_I → Prop} (hQ : ∀ i', (∀ b, b ≠ 84 → i' b = i0 b) → (∀ f, f ≠ 10 → f ≠ 15 → f ≠ 16 → f ≠ 17 → i' 84 f = i0 84 f) → i' 84 10 = nI (z_plc B len t) → Q 0 i') : w_X10_reads_95 84 T n r w Q i := by
  intro i1 e1
  rw [h.2] at e1
  have f17 : i1 84 17 = nI (z_plc B len t) := by rw [e1, kw_st_row, if_neg (by decide)]; exact h.2
  exact ⟨fun _ => ⟨z_b0, hQ i1 (fun b hb => by rw [e1, kw_st_offF hb]; exact h.1.1 b hb) (fun f f1 f2 f3 f4 => by rw [e1, kw_st_row, if_neg f1]; exact h.1.2 f f2 f3 f4) (by rw [e1, kw_st_same])⟩, fun q => absurd (f17.symm.trans q) (z_m1ne (z_fp31 hx t))⟩
theorem z_fLaw (hx : z_cxf T r i0 B len sz) (h14 : i0 84 14 = nI sz) {o : Except Nat (List z_Sm)} {Q : Int32 → kw_I → Prop} (hok : ∀ L, o = .ok L → ∀ i', (∀ b, b ≠ 84 → i' b = i0 b) → (∀ f, f ≠ 10 → f ≠ 15 → f ≠ 16 → f ≠ 17 → i' 84 f = i0 84 f) → i' 84 10 = -1 → Q 1 i') (herr : ∀ t, o = .error t → ∀ i', (∀ b, b ≠ 84 → i' b = i0 b) → (∀ f, f ≠ 10 → f ≠ 15 → f ≠ 16 → f ≠ 17 → i' 84 f = i0 84 f) → i' 84 10 = nI (z_plc B len t) → Q 0 i') : ∀ (c p m : Nat) (l : List z_Sm) (j : kw_I) (K : kw_I → Prop), (∀ j', w_X10_reads_34 84 T n r w Q (c + 2) (nI (12 - c)) j' → K j') → c ≤ 11 → z_gL (z_tk B len) (z_vl B len) sz c p m l o → z_FS i0 j p m → p ≤ sz → m ≤ 50 → w_X10_readClause 84 T n r j w K := by
  have hz := hx.2.2.2.1
  have h0 := z_tk0 hz
  have szl := hz.1
  have hl := hx.2.1
  have stuck : ∀ (N : Nat) (x : Int32) (t : Nat) (j : kw_I), o = .error t → z_FX i0 j B len t → w_X10_reads_34 84 T n r w Q (N + 1) x j := fun N x t j ho X => z_takeFX hx X (z_f' (z_fineX hx X (z_f' (z_f95X hx X (herr t ho)))))
  have ends : ∀ (N : Nat) (x : Int32) (p m : Nat) (j : kw_I), z_FS i0 j p m → p ≤ sz → z_tk B len p ≠ 159 → ((p < sz ∧ o = .error p) ∨ (p = sz ∧ ∃ L, o = .ok L)) → w_X10_reads_34 84 T n r w Q (N + 1) x j := by
    intro N x p m j F hp hne hc
    refine z_takeF (c := 159) hx F hp (by decide) (fun z => absurd z hne) (fun _ => z_f' (z_fineS F (z_t2' ?_)))
    rw [F.2.1, F.1.2 14 (by decide) (by decide) (by decide), h14]
    refine ⟨fun q => ?_, fun q => ?_⟩
    · have := (nI_leI (by omega) (by omega)).mp q
      rcases hc with ⟨z, _⟩ | ⟨_, L, z⟩
      · omega
      · exact z_f95S F (hok L z)
    · rcases hc with ⟨_, z⟩ | ⟨z, _⟩
      · exact z_faultS hx F hp fun i2 X2 => z_f95X hx X2 (herr p z)
      · exact absurd (nI_le (by omega) (by omega)) q
  intro c
  induction c with
  | zero =>
    intro p m l j K hK _ hg F hp hm
    rcases hg with ⟨t, hP, ho⟩ | ⟨s, p', m', hP, hc⟩
    · refine z_fClause hx hP F hp hm (fun _ _ _ z => by cases z) (fun t' z i1 X1 => ?_)
      cases z
      exact hK _ (stuck _ _ t i1 ho X1)
    · have g := ((z_gCl_tot h0).2 _ _ _ hP).1 s p' m' rfl
      refine z_fClause hx hP F hp hm (fun _ _ _ z i1 F1 => ?_) (fun _ z => by cases z)
      cases z
      refine hK _ ?_
      rcases hc with ⟨e1, e2, ho⟩ | ⟨e1, e2, ho⟩ | ⟨e2, ho⟩
      · refine z_takeF (c := 159) hx F1 (by omega) (by decide) (fun _ i2 F2 => z_t2' ⟨fun q => absurd rfl q, fun _ => ?_⟩) (fun z => absurd e1 z)
        exact z_faultS hx F2 (by omega) fun i3 X3 => z_fineX hx X3 (z_f' (stuck 0 _ _ i3 ho X3))
      · exact ends _ _ p' m' i1 F1 (by omega) e1 (Or.inl ⟨e2, ho⟩)
      · exact ends _ _ p' m' i1 F1 (by omega) (by rw [h0 p' (by omega)]; decide) (Or.inr ⟨e2, _, ho⟩)
  | succ c ih =>
    intro p m l j K hK hc11 hg F hp hm
    rcases hg with ⟨t, hP, ho⟩ | ⟨s, p', m', hP, hc⟩
    · refine z_fClause hx hP F hp hm (fun _ _ _ z => by cases z) (fun t' z i1 X1 => ?_)
      cases z
      exact hK _ (stuck _ _ t i1 ho X1)
    · have g := ((z_gCl_tot h0).2 _ _ _ hP).1 s p' m' rfl
      refine z_fClause hx hP F hp hm (fun _ _ _ z i1 F1 => ?_) (fun _ z => by cases z)
      cases z
      refine hK _ ?_
      rcases hc with ⟨e1, e2, hL⟩ | ⟨e1, e2, ho⟩ | ⟨e2, ho⟩
      · refine z_takeF (c := 159) hx F1 (by omega) (by decide) (fun _ i2 F2 => z_t2' ⟨fun _ => ?_, fun q => absurd ((nI_eq (b := 12) (by omega) (by decide)).mp q) (by omega)⟩) (fun z => absurd e1 z)
        have := ih (p' + 1) m' _ i2 _ (fun _ z => z) (by omega) hL F2 (by omega) (by omega)
        refine z_fineS F2 (z_t2' ?_)
        unfold w_X10_reads_67
        rw [nI_1, show 12 - (c + 1) + 1 = 12 - c by omega]
        exact this
      · exact ends _ _ p' m' i1 F1 (by omega) e1 (Or.inl ⟨e2, ho⟩)
      · exact ends _ _ p' m' i1 F1 (by omega) (by rw [h0 p' (by omega)]; decide) (Or.inr ⟨e2, _, ho⟩)
/-- the reference reads a law -/
theorem z_fReads (hS : z_S T r) (hl : len ≤ 400) (hB : ∀ k, B k < 256) (hw : z_wd (i 89)) (h90 : ∀ k, k < 400 → i 90 k = z_tb (B k)) (hz : z_szo B len sz) (h9 : i 84 9 = nI len) {o : Except Nat (List z_Sm)} (hg : z_gL (z_tk B len) (z_vl B len) sz 11 0 0 [] o) {Q : Int32 → kw_I → Prop}
    (hok : ∀ L, o = .ok L → ∀ i', (∀ b, b ≠ 84 → b ≠ 92 → b ≠ 93 → b ≠ 94 → i' b = i b) → (∀ f, f ≠ 9 → f ≠ 10 → f ≠ 14 → f ≠ 15 → f ≠ 16 → f ≠ 17 → i' 84 f = i 84 f) → i' 84 9 = 0 → i' 84 10 = -1 → i' 84 14 = nI sz → (∀ u, u < sz + 1 → z_rw3 i' B len u) → Q 1 i')
    (herr : ∀ t, o = .error t → ∀ i', (∀ b, b ≠ 84 → b ≠ 92 → b ≠ 93 → b ≠ 94 → i' b = i b) → (∀ f, f ≠ 9 → f ≠ 10 → f ≠ 14 → f ≠ 15 → f ≠ 16 → f ≠ 17 → i' 84 f = i 84 f) → i' 84 9 = 0 → i' 84 10 = nI (z_plc B len t) → Q 0 i') : w_X10_reads 84 T n r i w Q := by
  unfold w_X10_reads
  rw [h9]
  refine z_splits hS hl hB hw h90 hz fun i5 s5 i10 e10 i15 e15 i20 e20 i25 e25 => ?_
  have fr : ∀ b, b ≠ 84 → i10 b = i5 b := fun b hb => by rw [e10, kw_st_offF hb]
  have fr84 : ∀ f, f ≠ 9 → i10 84 f = i5 84 f := fun f hf => by rw [e10, kw_st_row, if_neg hf]
  have rows : ∀ u, u < sz + 1 → z_rw3 i10 B len u := fun u hu => by
    obtain ⟨a1, a2, a3⟩ := s5.2.2.2 u hu
    exact ⟨by rw [fr 92 (by decide)]; exact a1, by rw [fr 93 (by decide)]; exact a2, by rw [fr 94 (by decide)]; exact a3⟩
  have hx : z_cxf T r i10 B len sz := ⟨hS, hl, hB, hz, rows⟩
  have h14 : i10 84 14 = nI sz := by rw [fr84 14 (by decide)]; exact s5.2.2.1
  have F0 : z_FS i10 i25 0 0 := by
    refine ⟨?_, by rw [e25, kw_st_row, if_neg (by decide), e20, kw_st_row, if_neg (by decide), e15, kw_st_same]; rfl, by rw [e25, kw_st_row, if_neg (by decide), e20, kw_st_same]; rfl, by rw [e25, kw_st_same]⟩
    rw [e25, e20, e15]
    exact z_FB_st (by decide) (z_FB_st (by decide) (z_FB_st (by decide) ⟨fun _ _ => rfl, fun _ _ _ _ => rfl⟩))
  have out : ∀ i', (∀ b, b ≠ 84 → i' b = i10 b) → (∀ f, f ≠ 10 → f ≠ 15 → f ≠ 16 → f ≠ 17 → i' 84 f = i10 84 f) → (∀ b, b ≠ 84 → b ≠ 92 → b ≠ 93 → b ≠ 94 → i' b = i b) ∧ (∀ f, f ≠ 9 → f ≠ 10 → f ≠ 14 → f ≠ 15 → f ≠ 16 → f ≠ 17 → i' 84 f = i 84 f) ∧ i' 84 9 = 0 ∧ i' 84 14 = nI sz ∧ ∀ u, u < sz + 1 → z_rw3 i' B len u := by
    intro i' o1 o2
    refine ⟨fun b b1 b2 b3 b4 => by rw [o1 b b1, fr b b1]; exact s5.1 b b1 b2 b3 b4, fun f f1 f2 f3 f4 f5 f6 => by rw [o2 f f2 f4 f5 f6, fr84 f f1]; exact s5.2.1 f f3, by rw [o2 9 (by decide) (by decide) (by decide) (by decide), e10, kw_st_same], by rw [o2 14 (by decide) (by decide) (by decide) (by decide)]; exact h14, fun u hu => ?_⟩
    obtain ⟨a1, a2, a3⟩ := rows u hu
    exact ⟨by rw [o1 92 (by decide)]; exact a1, by rw [o1 93 (by decide)]; exact a2, by rw [o1 94 (by decide)]; exact a3⟩
  have main := z_fLaw (n := n) (w := w) hx h14 (o := o) (Q := Q) (fun L ho i' o1 o2 o3 => by
    obtain ⟨a1, a2, a3, a4, a5⟩ := out i' o1 o2
    exact hok L ho i' a1 a2 a3 o3 a4 a5) (fun t ho i' o1 o2 o3 => by
    obtain ⟨a1, a2, a3, a4, a5⟩ := out i' o1 o2
    exact herr t ho i' a1 a2 a3 o3) 11 0 0 [] i25 _ (fun j' z => (⟨13, z⟩ : ∃ N, w_X10_reads_34 84 T n r w Q N ((1 : Int32)) j')) (by decide) hg F0 (Nat.zero_le _) (by decide)
  exact main
end ZFT
