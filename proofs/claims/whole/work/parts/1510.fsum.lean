-- THE REFERENCE READS SUMS
def z_cxf (T : kw_T) (r : kw_R) (i0 : kw_I) (B : Nat → Nat) (len sz : Nat) : Prop := z_S T r ∧ len ≤ 400 ∧ (∀ k, B k < 256) ∧ z_szo B len sz ∧ ∀ u, u < sz + 1 → z_rw3 i0 B len u
def z_FB (i0 i : kw_I) : Prop := (∀ b, b ≠ 84 → i b = i0 b) ∧ ∀ f, f ≠ 15 → f ≠ 16 → f ≠ 17 → i 84 f = i0 84 f
def z_FS (i0 i : kw_I) (p m : Nat) : Prop := z_FB i0 i ∧ i 84 15 = nI p ∧ i 84 16 = nI m ∧ i 84 17 = -1
def z_FX (i0 i : kw_I) (B : Nat → Nat) (len t : Nat) : Prop := z_FB i0 i ∧ i 84 17 = nI (z_plc B len t)
def z_f4 {A : Type} (T : kw_T) (n : Nat) (r : kw_R) (w : kw_L) (i0 : kw_I) (B : Nat → Nat) (len sz : Nat) (k : z_k4) (x : Int32) (P : Nat → Nat → z_O A → Prop) : Prop :=
  ∀ (p m : Nat) (o : z_O A) (i : kw_I) (Q : kw_I → Prop), P p m o → z_FS i0 i p m → p ≤ sz → m ≤ 50 → (∀ a q m', o = .ok (a, q, m') → ∀ i', z_FS i0 i' q m' → Q i') → (∀ t, o = .error t → ∀ i', z_FX i0 i' B len t → Q i') → k 84 x T n r i w Q
def z_f4X (T : kw_T) (n : Nat) (r : kw_R) (w : kw_L) (i0 : kw_I) (B : Nat → Nat) (len : Nat) (k : z_k4) (x : Int32) : Prop := ∀ (t : Nat) (i : kw_I) (Q : kw_I → Prop), z_FX i0 i B len t → Q i → k 84 x T n r i w Q
section ZFR
variable {T : kw_T} {n : Nat} {r : kw_R} {i i0 : kw_I} {w : kw_L} {B : Nat → Nat} {len sz : Nat}
theorem z_FB_st {f : Nat} {v : Int32} (hf : f = 15 ∨ f = 16 ∨ f = 17) (h : z_FB i0 i) : z_FB i0 (kw_st i 84 f v) := by
  refine ⟨fun b hb => ?_, fun g g1 g2 g3 => ?_⟩
  · rw [kw_st_offF hb]; exact h.1 b hb
  · rw [kw_st_row, if_neg (by omega)]; exact h.2 g g1 g2 g3
theorem z_fp31 (hx : z_cxf T r i0 B len sz) (t : Nat) : z_plc B len t < 2 ^ 31 := by
  have := z_plc_le (B := B) (len := len) t
  have := hx.2.1
  omega
theorem z_fineS {p m : Nat} (h : z_FS i0 i p m) {Q : Int32 → Prop} (hQ : Q 1) : w_X10_fine 84 T n r i w Q := ⟨fun q => absurd h.2.2.2 q, fun _ => hQ⟩
theorem z_fineX (hx : z_cxf T r i0 B len sz) {t : Nat} (h : z_FX i0 i B len t) {Q : Int32 → Prop} (hQ : Q 0) : w_X10_fine 84 T n r i w Q := ⟨fun _ => hQ, fun q => absurd (h.2.symm.trans q) (z_m1ne (z_fp31 hx t))⟩
theorem z_faultS (hx : z_cxf T r i0 B len sz) {p m : Nat} (h : z_FS i0 i p m) (hp : p ≤ sz) {Q : kw_I → Prop} (hQ : ∀ i', z_FX i0 i' B len p → Q i') : w_X10_faults 84 T n r i w Q := by
  obtain ⟨hS, hl, hB, hz, hr⟩ := hx
  have szl := hz.1
  refine z_fineS h (z_t2' ?_)
  rw [z_r84_13 hS, h.2.1, nI_clamp (by omega), h.1.1 94 (by decide), (hr p (by omega)).2.2]
  refine ⟨z_kin (z_T94 hS) (by omega) (by decide), fun i1 e1 => hQ i1 ⟨by rw [e1]; exact z_FB_st (by decide) h.1, by rw [e1, kw_st_same]⟩⟩
theorem z_faultX (hx : z_cxf T r i0 B len sz) {t : Nat} (h : z_FX i0 i B len t) {Q : kw_I → Prop} (hQ : Q i) : w_X10_faults 84 T n r i w Q := z_fineX hx h (z_f' hQ)
theorem z_fstep {p m : Nat} (h : z_FS i0 i p m) : z_FS i0 (kw_st i 84 15 (i 84 15 + 1)) (p + 1) m := by
  rw [h.2.1, nI_1]
  exact ⟨z_FB_st (by decide) h.1, by rw [kw_st_same], by rw [kw_st_row, if_neg (by decide)]; exact h.2.2.1, by rw [kw_st_row, if_neg (by decide)]; exact h.2.2.2⟩
theorem z_fcode (hx : z_cxf T r i0 B len sz) {p m : Nat} (h : z_FS i0 i p m) (hp : p ≤ sz) : kw_in T 1 (r 84 11) (i 84 15) ∧ i (r 84 11) (i 84 15).toNatClampNeg = nI (z_tk B len p) ∧ kw_in T 1 (r 84 12) (i 84 15) ∧ i (r 84 12) (i 84 15).toNatClampNeg = nI (z_vl B len p) := by
  obtain ⟨hS, hl, hB, hz, hr⟩ := hx
  have szl := hz.1
  rw [z_r84_11 hS, z_r84_12 hS, h.2.1, nI_clamp (by omega), h.1.1 92 (by decide), h.1.1 93 (by decide)]
  exact ⟨z_kin (z_T92 hS) (by omega) (by decide), (hr p (by omega)).1, z_kin (z_T93 hS) (by omega) (by decide), (hr p (by omega)).2.1⟩
theorem z_takeF (hx : z_cxf T r i0 B len sz) {p m : Nat} (h : z_FS i0 i p m) (hp : p ≤ sz) {c : Nat} (hc : c < 1000) {Q : Int32 → kw_I → Prop} (h1 : z_tk B len p = c → ∀ i', z_FS i0 i' (p + 1) m → Q 1 i') (h0 : z_tk B len p ≠ c → Q 0 i) : w_X10_takes0 84 (nI c) T n r i w Q := by
  obtain ⟨c1, c2, -⟩ := z_fcode hx h hp
  have tl := z_tk_lt (len := len) hx.2.2.1 p
  have c25 : ∀ s0 : Int32, (s0 = 1 ∧ z_tk B len p = c) ∨ (s0 = 0 ∧ z_tk B len p ≠ c) → w_X10_takes0_25 84 (nI c) T n r w Q s0 i := by
    rintro s0 (⟨rfl, e⟩ | ⟨rfl, e⟩)
    · exact ⟨fun q => absurd q (by decide), fun _ i1 e1 => ⟨z_b1, h1 e i1 (by rw [e1]; exact z_fstep h)⟩⟩
    · exact ⟨fun _ => ⟨z_b0, h0 e⟩, fun q => absurd rfl q⟩
  refine z_fineS h (z_t2' ⟨c1, ?_⟩)
  rw [c2]
  exact ⟨fun q => c25 0 (Or.inr ⟨rfl, fun z => q (by rw [z])⟩), fun q => c25 1 (Or.inl ⟨rfl, (nI_eq (by omega) (by omega)).mp q⟩)⟩
theorem z_takeFX (hx : z_cxf T r i0 B len sz) {t : Nat} (h : z_FX i0 i B len t) {c : Int32} {Q : Int32 → kw_I → Prop} (h0 : Q 0 i) : w_X10_takes0 84 c T n r i w Q := z_fineX hx h (z_f' ⟨fun _ => ⟨z_b0, h0⟩, fun q => absurd rfl q⟩)
theorem z_mustF (hx : z_cxf T r i0 B len sz) {p m : Nat} (h : z_FS i0 i p m) (hp : p ≤ sz) {c : Nat} (hc : c < 1000) {Q : kw_I → Prop} (h1 : z_tk B len p = c → ∀ i', z_FS i0 i' (p + 1) m → Q i') (h0 : z_tk B len p ≠ c → ∀ i', z_FX i0 i' B len p → Q i') : w_X10_must 84 (nI c) T n r i w Q := z_takeF hx h hp hc (fun e i' hi => z_t2 (h1 e i' hi)) (fun e => z_f2 (z_faultS hx h hp (h0 e)))
theorem z_mustFX (hx : z_cxf T r i0 B len sz) {t : Nat} (h : z_FX i0 i B len t) {c : Int32} {Q : kw_I → Prop} (h0 : Q i) : w_X10_must 84 c T n r i w Q := z_takeFX hx h (z_f2 (z_faultX hx h h0))
theorem z_leafF (hx : z_cxf T r i0 B len sz) {p m : Nat} (h : z_FS i0 i p m) (hp : p ≤ sz) (hm : m ≤ 50) {Q : kw_I → Prop} (h1 : m < 50 → ∀ i', z_FS i0 i' (p + 1) (m + 1) → Q i') (h0 : m = 50 → ∀ i', z_FX i0 i' B len p → Q i') : w_X10_leaf 84 T n r i w Q := by
  unfold w_X10_leaf
  rw [h.2.2.1]
  refine ⟨fun q i1 e1 => ?_, fun q => z_faultS hx h hp fun i2 X2 i3 e3 => ?_⟩
  · have hlt : m < 50 := by
      have : m ≠ 50 := fun z => q (by rw [z]; rfl)
      omega
    rw [h.2.2.1, nI_1] at e1
    have F1 : z_FS i0 i1 p (m + 1) := by
      rw [e1]
      exact ⟨z_FB_st (by decide) h.1, by rw [kw_st_row, if_neg (by decide)]; exact h.2.1, by rw [kw_st_same], by rw [kw_st_row, if_neg (by decide)]; exact h.2.2.2⟩
    exact z_fineS F1 (z_t2' fun i4 e4 => h1 hlt i4 (by rw [e4]; exact z_fstep F1))
  · have e50 : m = 50 := (nI_eq (b := 50) (by omega) (by decide)).mp q
    have X3 : z_FX i0 i3 B len p := by
      rw [e3]
      exact ⟨z_FB_st (by decide) X2.1, by rw [kw_st_row, if_neg (by decide)]; exact X2.2⟩
    exact z_fineX hx X3 (z_f' (h0 e50 i3 X3))
theorem z_fPartX (hx : z_cxf T r i0 B len sz) {kp ks kt : z_k4} {x : Int32} : z_f4X T n r w i0 B len (w_X10_readPart kp ks kt) x := fun _ _ _ h hQ => z_fineX hx h (z_f2 hQ)
theorem z_fPart (hx : z_cxf T r i0 B len sz) {kp ks kt : z_k4} {e : Nat} (he : e ≤ 8) (hks : ∀ e', e = e' + 1 → z_f4 T n r w i0 B len sz ks (nI (8 - e')) (z_gSo (z_tk B len) sz (z_gP (z_tk B len) (z_vl B len) sz e'))) (htot : ∀ e' p m o, z_gSo (z_tk B len) sz (z_gP (z_tk B len) (z_vl B len) sz e') p m o → z_gd sz p m o) : z_f4 T n r w i0 B len sz (w_X10_readPart kp ks kt) (nI (8 - e)) (z_gP (z_tk B len) (z_vl B len) sz e) := by
  intro p m o i Q hg h hp hm hok herr
  obtain ⟨c1, c2, c3, c4⟩ := z_fcode hx h hp
  have tl := z_tk_lt (len := len) hx.2.2.1 p
  have hz := hx.2.2.2.1
  have vle : z_vl B len p ≤ 10000300 := by
    unfold z_vl
    split
    · exact z_nv_le hx.2.2.1 _ _
    · omega
  -- what the grammar says of a leaf
  have leaf1 : z_tk B len p ≠ 191 → z_lf (z_tk B len) (z_vl B len) p → m < 50 → ∃ a, o = .ok (a, p + 1, m + 1) := by
    intro g1 g2 g3
    cases e with
    | zero =>
      rcases hg.1 with ⟨q, _⟩ | ⟨_, _, _, q⟩ | ⟨_, q, _⟩
      · exact absurd q g1
      · exact ⟨_, q⟩
      · exact absurd ⟨g2, g3⟩ q
    | succ e =>
      rcases hg.1 with ⟨q, _⟩ | ⟨_, _, _, q⟩ | ⟨_, q, _⟩
      · exact absurd q g1
      · exact ⟨_, q⟩
      · exact absurd ⟨g2, g3⟩ q
  have leaf0 : z_tk B len p ≠ 191 → ¬ (z_lf (z_tk B len) (z_vl B len) p ∧ m < 50) → o = .error p := by
    intro g1 g2
    cases e with
    | zero =>
      rcases hg.1 with ⟨q, _⟩ | ⟨_, q1, q2, q⟩ | ⟨_, _, q⟩
      · exact absurd q g1
      · exact absurd ⟨q1, q2⟩ g2
      · exact q
    | succ e =>
      rcases hg.1 with ⟨q, _⟩ | ⟨_, q1, q2, q⟩ | ⟨_, _, q⟩
      · exact absurd q g1
      · exact absurd ⟨q1, q2⟩ g2
      · exact q
  have c107 : z_tk B len p ≠ 191 → z_lf (z_tk B len) (z_vl B len) p → w_X10_readPart_107 kp ks kt 84 (nI (8 - e)) T n r w Q i := fun g1 g2 => z_leafF hx h hp hm (fun g3 i' F => by
    obtain ⟨a, ea⟩ := leaf1 g1 g2 g3
    exact hok a _ _ ea i' F) (fun g3 i' X => herr p (leaf0 g1 (fun z => by omega)) i' X)
  have c114 : z_tk B len p ≠ 191 → ¬ z_lf (z_tk B len) (z_vl B len) p → w_X10_readPart_114 kp ks kt 84 (nI (8 - e)) T n r w Q i := fun g1 g2 => z_faultS hx h hp (fun i' X => herr p (leaf0 g1 (fun z => g2 z.1)) i' X)
  have c95 : z_tk B len p ≠ 191 → ¬ (z_tk B len p = 50 ∧ z_vl B len p ≤ 1000) → w_X10_readPart_95 kp ks kt 84 (nI (8 - e)) T n r w Q (nI (z_tk B len p)) i := by
    intro g1 g2
    refine ⟨fun q => c114 g1 (fun z => ?_), fun q => ⟨fun q2 => c114 g1 (fun z => ?_), fun q2 => c107 g1 (Or.inr ⟨?_, ?_⟩)⟩⟩
    · have := (nI_ltI (b := 6) (by omega) (by decide)).mp q
      rcases z with z | z
      · exact g2 z
      · omega
    · have := (nI_ltI (a := 14) (by decide) (by omega)).mp q2
      rcases z with z | z
      · exact g2 z
      · omega
    · rcases Nat.lt_or_ge (z_tk B len p) 6 with y | y
      · exact absurd (nI_lt (b := 6) y (by decide)) q
      · exact y
    · rcases Nat.lt_or_ge 14 (z_tk B len p) with y | y
      · exact absurd (nI_lt (a := 14) y (by omega)) q2
      · exact y
  refine z_fineS h (z_t2 ⟨c1, ?_⟩)
  show (_ → _) ∧ (_ → _)
  rw [c2, c4]
  have ts : nI (z_tk B len p) = (100 : Int32) + 91 ↔ z_tk B len p = 191 := nI_eq (b := 191) (by omega) (by decide)
  refine ⟨fun q => ?_, fun q => ?_⟩
  · have g1 : z_tk B len p ≠ 191 := fun z => q (ts.mpr z)
    refine ⟨fun q2 => c95 g1 (fun z => q2 (by rw [z.1]; rfl)), fun q2 => ⟨c3, fun q3 => c107 g1 (Or.inl ⟨(nI_eq (b := 50) (by omega) (by decide)).mp q2, (nI_leI (b := 1000) (by omega) (by decide)).mp q3⟩), fun q3 => c95 g1 (fun z => q3 (nI_le (b := 1000) z.2 (by decide)))⟩⟩
  · have g1 := ts.mp q
    cases e with
    | zero =>
      refine ⟨fun q2 => absurd rfl q2, fun _ => z_faultS hx h hp fun i' X => z_fineX hx X (z_f2 (herr p ?_ i' X))⟩
      rcases hg.1 with ⟨_, q⟩ | ⟨q, _⟩ | ⟨q, _⟩
      · exact q
      · exact absurd g1 q
      · exact absurd g1 q
    | succ e =>
      refine ⟨fun _ => z_fineS h (z_t2 fun i1 e1 => ?_), fun q2 => absurd ((nI_eq (b := 8) (by omega) (by decide)).mp q2) (by omega)⟩
      have F1 : z_FS i0 i1 (p + 1) m := by rw [e1]; exact z_fstep h
      have hlt : p < sz := z_tklt hz (by omega)
      have hgB : z_gB (z_tk B len) 193 (z_gSo (z_tk B len) sz (z_gP (z_tk B len) (z_vl B len) sz e)) p m o := by
        rcases hg.1 with ⟨_, q⟩ | ⟨q, _⟩ | ⟨q, _⟩
        · exact q
        · exact absurd g1 q
        · exact absurd g1 q
      rw [nI_1, show 8 - (e + 1) + 1 = 8 - e by omega]
      rcases hgB with ⟨t, hP, ho⟩ | ⟨a, p', m', hP, hcl⟩
      · refine hks e rfl (p + 1) m _ i1 _ hP F1 (by omega) hm (fun _ _ _ z => by cases z) (fun t' ht' i2 X2 => ?_)
        cases ht'
        exact z_mustFX hx X2 (herr t ho i2 X2)
      · have g := (htot e _ _ _ hP).1 a p' m' rfl
        refine hks e rfl (p + 1) m _ i1 _ hP F1 (by omega) hm (fun a2 q2 m2 z i2 F2 => ?_) (fun _ z => by cases z)
        cases z
        refine z_mustF (c := 193) hx F2 (by omega) (by decide) (fun ht i3 F3 => ?_) (fun ht i3 X3 => ?_)
        · rcases hcl with ⟨_, z⟩ | ⟨z, _⟩
          · exact hok _ _ _ z i3 F3
          · exact absurd ht z
        · rcases hcl with ⟨z, _⟩ | ⟨_, z⟩
          · exact absurd z ht
          · exact herr _ z i3 X3
/-- chains -/
theorem z_fchain {A : Type} {S : Nat → Prop} {mk : Nat → A → A → A} {P : Nat → Nat → z_O A → Prop} {kp : z_k4} {x : Int32} (hkp : z_f4 T n r w i0 B len sz kp x P) (hP : ∀ p m o, P p m o → z_gd sz p m o) {W : (kw_I → Prop) → Nat → kw_I → Prop} (hS0 : ∀ p, sz ≤ p → ¬ S (z_tk B len p))
    (hW : ∀ Q N j p m, z_FS i0 j p m → p ≤ sz → (¬ S (z_tk B len p) → Q j) → (S (z_tk B len p) → ∀ j', z_FS i0 j' (p + 1) m → kp 84 x T n r j' w (W Q N)) → W Q (N + 1) j) (hWX : ∀ (Q : kw_I → Prop) N j t, z_FX i0 j B len t → Q j → W Q (N + 1) j) : z_f4 T n r w i0 B len sz (fun a x' T' n' r' i' w' Q => kp a x' T' n' r' i' w' (fun i2 => ∃ N, W Q N i2)) x (z_gC (z_tk B len) sz S mk P) := by
  intro p m o i Q hg h hp hm hok herr
  have loop : ∀ (N p m : Nat) (a : A) (j : kw_I), z_Lp (z_tk B len) S mk P N p m a o → z_FS i0 j p m → p ≤ sz → m ≤ 50 → W Q (N + 1) j := by
    intro N
    induction N with
    | zero => intro p m a j hL; exact hL.elim
    | succ N ih =>
      intro p m a j hL hj hp hm
      refine hW Q (N + 1) j p m hj hp (fun hn => ?_) (fun hy j' hj' => ?_)
      · rcases hL with ⟨_, e⟩ | ⟨z, _⟩
        · exact hok _ _ _ e j hj
        · exact absurd z hn
      · have hlt : p < sz := by
          rcases Nat.lt_or_ge p sz with q | q
          · exact q
          · exact absurd hy (hS0 p q)
        rcases hL with ⟨z, _⟩ | ⟨_, ⟨b, p', m', hb, hL'⟩ | ⟨t, hb, ho⟩⟩
        · exact absurd hy z
        · have g := (hP _ _ _ hb).1 b p' m' rfl
          refine hkp (p + 1) m _ j' _ hb hj' (by omega) hm (fun a2 q2 m2 z i2 F2 => ?_) (fun _ z => by cases z)
          cases z
          exact ih p' m' _ i2 hL' F2 (by omega) (by omega)
        · refine hkp (p + 1) m _ j' _ hb hj' (by omega) hm (fun _ _ _ z => by cases z) (fun t' z i2 X2 => ?_)
          cases z
          exact hWX Q N i2 t X2 (herr t ho i2 X2)
  rcases hg.1 with ⟨a, p', m', N, hb, hL⟩ | ⟨t, hb, ho⟩
  · have g := (hP _ _ _ hb).1 a p' m' rfl
    refine hkp p m _ i _ hb h hp hm (fun a2 q2 m2 z i2 F2 => ?_) (fun _ z => by cases z)
    cases z
    exact ⟨N + 1, loop N p' m' a i2 hL F2 (by omega) (by omega)⟩
  · refine hkp p m _ i _ hb h hp hm (fun _ _ _ z => by cases z) (fun t' z i2 X2 => ?_)
    cases z
    exact ⟨1, hWX Q 0 i2 t X2 (herr t ho i2 X2)⟩
theorem z_fTermX (hx : z_cxf T r i0 B len sz) {kp ks kt : z_k4} {x : Int32} (hkp : z_f4X T n r w i0 B len kp x) : z_f4X T n r w i0 B len (w_X10_readTerm kp ks kt) x := fun t i Q h hQ => hkp t i _ h ⟨1, z_takeFX hx h (z_f2 (z_takeFX hx h (z_f' hQ)))⟩
theorem z_fSumX (hx : z_cxf T r i0 B len sz) {kp ks kt : z_k4} {x : Int32} (hkt : z_f4X T n r w i0 B len kt x) : z_f4X T n r w i0 B len (w_X10_readSum kp ks kt) x := fun t i Q h hQ => hkt t i _ h ⟨1, z_takeFX hx h (z_f2 (z_takeFX hx h (z_f' hQ)))⟩
theorem z_fTerm (hx : z_cxf T r i0 B len sz) {kp ks kt : z_k4} {x : Int32} {P : Nat → Nat → z_O z_Sm → Prop} (hkp : z_f4 T n r w i0 B len sz kp x P) (hP : ∀ p m o, P p m o → z_gd sz p m o) : z_f4 T n r w i0 B len sz (w_X10_readTerm kp ks kt) x (z_gC (z_tk B len) sz z_isM z_mkS P) := by
  have h0 := z_tk0 hx.2.2.2.1
  refine z_fchain (W := fun Q N j => w_X10_readTerm_5 kp ks kt 84 x T n r w Q N j) hkp hP (fun p hp z => by rw [h0 p hp] at z; rcases z with z | z <;> omega) (fun Q N j p m F hp hn hy => ?_) (fun Q N j t X hQ => z_takeFX hx X (z_f2 (z_takeFX hx X (z_f' hQ))))
  refine z_takeF (c := 142) hx F hp (by decide) (fun e i' F' => z_t2 (hy (Or.inl e) i' F')) (fun e1 => z_f2 (z_takeF (c := 147) hx F hp (by decide) (fun e i' F' => z_t2' (hy (Or.inr e) i' F')) (fun e2 => z_f' (hn ?_))))
  rintro (z | z)
  · exact e1 z
  · exact e2 z
theorem z_fSum (hx : z_cxf T r i0 B len sz) {kp ks kt : z_k4} {x : Int32} {P : Nat → Nat → z_O z_Sm → Prop} (hkp : z_f4 T n r w i0 B len sz kt x P) (hP : ∀ p m o, P p m o → z_gd sz p m o) : z_f4 T n r w i0 B len sz (w_X10_readSum kp ks kt) x (z_gC (z_tk B len) sz z_isA z_mkS P) := by
  have h0 := z_tk0 hx.2.2.2.1
  refine z_fchain (W := fun Q N j => w_X10_readSum_5 kp ks kt 84 x T n r w Q N j) hkp hP (fun p hp z => by rw [h0 p hp] at z; rcases z with z | z <;> omega) (fun Q N j p m F hp hn hy => ?_) (fun Q N j t X hQ => z_takeFX hx X (z_f2 (z_takeFX hx X (z_f' hQ))))
  refine z_takeF (c := 143) hx F hp (by decide) (fun e i' F' => z_t2 (hy (Or.inl e) i' F')) (fun e1 => z_f2 (z_takeF (c := 145) hx F hp (by decide) (fun e i' F' => z_t2' (hy (Or.inr e) i' F')) (fun e2 => z_f' (hn ?_))))
  rintro (z | z)
  · exact e1 z
  · exact e2 z
theorem z_fPS (hx : z_cxf T r i0 B len sz) : ∀ e, e ≤ 8 → z_f4 T n r w i0 B len sz (g_X10_readPart (3 * e + 3)).2.1 (nI (8 - e)) (z_gS (z_tk B len) (z_vl B len) sz e) := by
  have h0 := z_tk0 hx.2.2.2.1
  intro e
  induction e with
  | zero =>
    intro _
    exact z_fSum hx (z_fTerm hx (z_fPart hx (e := 0) (by decide) (fun e' z => by omega) (fun e' => (z_gS_tot h0 e').2)) (z_gP_tot h0 0).2) (fun p m o z => z.2)
  | succ e ih =>
    intro he
    exact z_fSum hx (z_fTerm hx (z_fPart hx (e := e + 1) he (fun e' z => by
      obtain rfl : e = e' := by omega
      exact ih (by omega)) (fun e' => (z_gS_tot h0 e').2)) (z_gP_tot h0 (e + 1)).2) (fun p m o z => z.2)
theorem z_fSX (hx : z_cxf T r i0 B len sz) {x : Int32} (d : Nat) : z_f4X T n r w i0 B len (g_X10_readPart (d + 3)).2.1 x := z_fSumX hx (z_fTermX hx (z_fPartX hx))
end ZFR
