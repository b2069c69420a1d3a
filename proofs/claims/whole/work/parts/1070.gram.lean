-- THE READING OF TOKENS
abbrev z_O (A : Type) := Except Nat (A × Nat × Nat)
def z_gd {A : Type} (sz p m : Nat) (o : z_O A) : Prop := (∀ s q m', o = .ok (s, q, m') → p < q ∧ q ≤ sz ∧ m < m' ∧ m' ≤ 50) ∧ (∀ t, o = .error t → p ≤ t ∧ t ≤ sz)
section ZGD
variable {A : Type} {sz p m : Nat}
theorem z_gd_ok {s : A} {q m' : Nat} (h1 : p < q) (h2 : q ≤ sz) (h3 : m < m') (h4 : m' ≤ 50) : z_gd sz p m (.ok (s, q, m')) := by
  refine ⟨fun s q m' e => ?_, fun t e => by cases e⟩
  cases e
  exact ⟨h1, h2, h3, h4⟩
theorem z_gd_er {t : Nat} (h1 : p ≤ t) (h2 : t ≤ sz) : z_gd sz p m (.error t : z_O A) := by
  refine ⟨fun s q m' e => (by cases e), fun t e => ?_⟩
  cases e
  exact ⟨h1, h2⟩
end ZGD
/-- parts with signs between them, taken together from the left -/
def z_Lp {A : Type} (tk : Nat → Nat) (S : Nat → Prop) (mk : Nat → A → A → A) (P : Nat → Nat → z_O A → Prop) : Nat → Nat → Nat → A → z_O A → Prop
  | 0, _, _, _, _ => False
  | N + 1, p, m, a, o => (¬ S (tk p) ∧ o = .ok (a, p, m)) ∨ (S (tk p) ∧ ((∃ b p' m', P (p + 1) m (.ok (b, p', m')) ∧ z_Lp tk S mk P N p' m' (mk (tk p) a b) o) ∨ ∃ t, P (p + 1) m (.error t) ∧ o = .error t))
def z_gC {A : Type} (tk : Nat → Nat) (sz : Nat) (S : Nat → Prop) (mk : Nat → A → A → A) (P : Nat → Nat → z_O A → Prop) (p m : Nat) (o : z_O A) : Prop := ((∃ a p' m' N, P p m (.ok (a, p', m')) ∧ z_Lp tk S mk P N p' m' a o) ∨ ∃ t, P p m (.error t) ∧ o = .error t) ∧ z_gd sz p m o
/-- a relation that has an outcome, with good numbers -/
def z_tot {A : Type} (sz : Nat) (P : Nat → Nat → z_O A → Prop) : Prop := (∀ p m, p ≤ sz → m ≤ 50 → ∃ o, P p m o) ∧ ∀ p m o, P p m o → z_gd sz p m o
theorem z_gC_tot {A : Type} {tk : Nat → Nat} {sz : Nat} {S : Nat → Prop} {mk : Nat → A → A → A} {P : Nat → Nat → z_O A → Prop} (hP : z_tot sz P) (h0 : ∀ p, sz ≤ p → ¬ S (tk p)) : z_tot sz (z_gC tk sz S mk P) := by
  refine ⟨fun p m hp hm => ?_, fun p m o h => h.2⟩
  have loop : ∀ (N p m : Nat) (a : A), sz - p < N → p ≤ sz → m ≤ 50 → ∃ o, z_Lp tk S mk P N p m a o ∧ (∀ s q m', o = .ok (s, q, m') → p ≤ q ∧ q ≤ sz ∧ m ≤ m' ∧ m' ≤ 50) ∧ (∀ t, o = .error t → p ≤ t ∧ t ≤ sz) := by
    intro N
    induction N with
    | zero => intro p m a h; omega
    | succ N ih =>
      intro p m a hN hp hm
      by_cases hS : S (tk p)
      · have hlt : p < sz := by
          rcases Nat.lt_or_ge p sz with q | q
          · exact q
          · exact absurd hS (h0 p q)
        obtain ⟨o, ho⟩ := hP.1 (p + 1) m (by omega) hm
        have hg := hP.2 _ _ _ ho
        cases o with
        | error t =>
          have := hg.2 t rfl
          exact ⟨.error t, Or.inr ⟨hS, Or.inr ⟨t, ho, rfl⟩⟩, fun s q m' e => (by cases e), fun t' e => by cases e; omega⟩
        | ok x =>
          obtain ⟨b, p', m'⟩ := x
          have g := hg.1 b p' m' rfl
          obtain ⟨o, h1, h2, h3⟩ := ih p' m' (mk (tk p) a b) (by omega) (by omega) (by omega)
          exact ⟨o, Or.inr ⟨hS, Or.inl ⟨b, p', m', ho, h1⟩⟩, fun s q m'' e => by have := h2 s q m'' e; omega, fun t e => by have := h3 t e; omega⟩
      · exact ⟨.ok (a, p, m), Or.inl ⟨hS, rfl⟩, fun s q m' e => by cases e; omega, fun t e => by cases e⟩
  obtain ⟨o, ho⟩ := hP.1 p m hp hm
  have hg := hP.2 _ _ _ ho
  cases o with
  | error t => exact ⟨.error t, Or.inr ⟨t, ho, rfl⟩, z_gd_er (hg.2 t rfl).1 (hg.2 t rfl).2⟩
  | ok x =>
    obtain ⟨a, p', m'⟩ := x
    have g := hg.1 a p' m' rfl
    obtain ⟨o, h1, h2, h3⟩ := loop (sz - p' + 1) p' m' a (by omega) (by omega) (by omega)
    refine ⟨o, Or.inl ⟨a, p', m', _, ho, h1⟩, fun s q m'' e => ?_, fun t e => ?_⟩
    · have := h2 s q m'' e
      omega
    · have := h3 t e
      omega
/-- what is read in brackets -/
def z_gB {A : Type} (tk : Nat → Nat) (cl : Nat) (P : Nat → Nat → z_O A → Prop) (p m : Nat) (o : z_O A) : Prop := (∃ t, P (p + 1) m (.error t) ∧ o = .error t) ∨ ∃ s p' m', P (p + 1) m (.ok (s, p', m')) ∧ ((tk p' = cl ∧ o = .ok (s, p' + 1, m')) ∨ (tk p' ≠ cl ∧ o = .error p'))
def z_lf (tk vl : Nat → Nat) (p : Nat) : Prop := (tk p = 50 ∧ vl p ≤ 1000) ∨ (6 ≤ tk p ∧ tk p ≤ 14)
def z_lfS (tk vl : Nat → Nat) (p : Nat) : z_Sm := fun ask => if tk p = 50 then some (nI (vl p)).toInt64 else some (ask (tk p - 6)).toInt64
def z_oc (c : Nat) : Nat := if c = 143 then 2 else if c = 145 then 3 else if c = 142 then 4 else 5
def z_mkS (c : Nat) (a b : z_Sm) : z_Sm := z_opS (z_oc c) a b
def z_isM (c : Nat) : Prop := c = 142 ∨ c = 147
def z_isA (c : Nat) : Prop := c = 143 ∨ c = 145
def z_gSo (tk : Nat → Nat) (sz : Nat) (P : Nat → Nat → z_O z_Sm → Prop) : Nat → Nat → z_O z_Sm → Prop := z_gC tk sz z_isA z_mkS (z_gC tk sz z_isM z_mkS P)
/-- a part, with e brackets left -/
def z_gP (tk vl : Nat → Nat) (sz : Nat) : Nat → Nat → Nat → z_O z_Sm → Prop
  | 0, p, m, o => ((tk p = 191 ∧ o = .error p) ∨ (tk p ≠ 191 ∧ z_lf tk vl p ∧ m < 50 ∧ o = .ok (z_lfS tk vl p, p + 1, m + 1)) ∨ (tk p ≠ 191 ∧ ¬ (z_lf tk vl p ∧ m < 50) ∧ o = .error p)) ∧ z_gd sz p m o
  | e + 1, p, m, o => ((tk p = 191 ∧ z_gB tk 193 (z_gSo tk sz (z_gP tk vl sz e)) p m o) ∨ (tk p ≠ 191 ∧ z_lf tk vl p ∧ m < 50 ∧ o = .ok (z_lfS tk vl p, p + 1, m + 1)) ∨ (tk p ≠ 191 ∧ ¬ (z_lf tk vl p ∧ m < 50) ∧ o = .error p)) ∧ z_gd sz p m o
def z_gS (tk vl : Nat → Nat) (sz e : Nat) : Nat → Nat → z_O z_Sm → Prop := z_gSo tk sz (z_gP tk vl sz e)
def z_cc (c : Nat) : Nat := if c = 160 then 6 else if c = 162 then 7 else 8
def z_isC (c : Nat) : Prop := c = 160 ∨ c = 162 ∨ c = 161
/-- two sums compared -/
def z_gCm (tk : Nat → Nat) (P : Nat → Nat → z_O z_Sm → Prop) (p m : Nat) (o : z_O z_Ts) : Prop := (∃ t, P p m (.error t) ∧ o = .error t) ∨ ∃ a p1 m1, P p m (.ok (a, p1, m1)) ∧ ((¬ z_isC (tk p1) ∧ o = .error p1) ∨ (z_isC (tk p1) ∧ ((∃ t, P (p1 + 1) m1 (.error t) ∧ o = .error t) ∨ ∃ b p2 m2, P (p1 + 1) m1 (.ok (b, p2, m2)) ∧ o = .ok (z_cmpS (z_cc (tk p1)) a b, p2, m2))))
def z_mkA (_ : Nat) (a b : z_Ts) : z_Ts := z_anS a b
def z_mkO (_ : Nat) (a b : z_Ts) : z_Ts := z_orS a b
def z_gTo (tk : Nat → Nat) (sz : Nat) (P : Nat → Nat → z_O z_Ts → Prop) : Nat → Nat → z_O z_Ts → Prop := z_gC tk sz (fun c => c = 3) z_mkO (z_gC tk sz (fun c => c = 4) z_mkA P)
/-- a test that is no chain, behind its nots, with e brackets left -/
def z_gQ (tk vl : Nat → Nat) (sz : Nat) : Nat → Nat → Nat → z_O z_Ts → Prop
  | 0, p, m, o => ∃ k o', (∀ j, j < k → tk (p + j) = 5) ∧ tk (p + k) ≠ 5 ∧ ((tk (p + k) = 140 ∧ o' = .error (p + k)) ∨ (tk (p + k) ≠ 140 ∧ z_gCm tk (z_gS tk vl sz 0) (p + k) m o')) ∧ ((∃ t, o' = .error t ∧ o = .error t) ∨ ∃ s q m', o' = .ok (s, q, m') ∧ o = .ok (if k % 2 = 1 then z_ntS s else s, q, m')) ∧ z_gd sz p m o
  | e + 1, p, m, o => ∃ k o', (∀ j, j < k → tk (p + j) = 5) ∧ tk (p + k) ≠ 5 ∧ ((tk (p + k) = 140 ∧ z_gB tk 141 (z_gTo tk sz (z_gQ tk vl sz e)) (p + k) m o') ∨ (tk (p + k) ≠ 140 ∧ z_gCm tk (z_gS tk vl sz (e + 1)) (p + k) m o')) ∧ ((∃ t, o' = .error t ∧ o = .error t) ∨ ∃ s q m', o' = .ok (s, q, m') ∧ o = .ok (if k % 2 = 1 then z_ntS s else s, q, m')) ∧ z_gd sz p m o
def z_gT (tk vl : Nat → Nat) (sz e : Nat) : Nat → Nat → z_O z_Ts → Prop := z_gTo tk sz (z_gQ tk vl sz e)
def z_gCl (tk vl : Nat → Nat) (sz p m : Nat) (o : z_O z_Sm) : Prop := ((tk p ≠ 1 ∧ o = .error p) ∨ (tk p = 1 ∧ ((∃ t, z_gS tk vl sz 8 (p + 1) m (.error t) ∧ o = .error t) ∨ ∃ s p1 m1, z_gS tk vl sz 8 (p + 1) m (.ok (s, p1, m1)) ∧ ((tk p1 ≠ 2 ∧ o = .ok (s, p1, m1)) ∨ (tk p1 = 2 ∧ ((∃ t, z_gT tk vl sz 8 (p1 + 1) m1 (.error t) ∧ o = .error t) ∨ ∃ t p2 m2, z_gT tk vl sz 8 (p1 + 1) m1 (.ok (t, p2, m2)) ∧ o = .ok (z_clS s t, p2, m2))))))) ∧ z_gd sz p m o
/-- clauses, with c more behind this one -/
def z_gL (tk vl : Nat → Nat) (sz : Nat) : Nat → Nat → Nat → List z_Sm → Except Nat (List z_Sm) → Prop
  | 0, p, m, l, o => (∃ t, z_gCl tk vl sz p m (.error t) ∧ o = .error t) ∨ ∃ s p' m', z_gCl tk vl sz p m (.ok (s, p', m')) ∧ ((tk p' = 159 ∧ p' < sz ∧ o = .error (p' + 1)) ∨ (tk p' ≠ 159 ∧ p' < sz ∧ o = .error p') ∨ (p' = sz ∧ o = .ok (l ++ [s])))
  | c + 1, p, m, l, o => (∃ t, z_gCl tk vl sz p m (.error t) ∧ o = .error t) ∨ ∃ s p' m', z_gCl tk vl sz p m (.ok (s, p', m')) ∧ ((tk p' = 159 ∧ p' < sz ∧ z_gL tk vl sz c (p' + 1) m' (l ++ [s]) o) ∨ (tk p' ≠ 159 ∧ p' < sz ∧ o = .error p') ∨ (p' = sz ∧ o = .ok (l ++ [s])))
section ZGT
variable {tk vl : Nat → Nat} {sz : Nat}
theorem z_gB_tot {A : Type} {cl : Nat} {P : Nat → Nat → z_O A → Prop} (hP : z_tot sz P) (hz : ∀ p, sz ≤ p → tk p = 0) (hc : cl ≠ 0) {p m : Nat} (hp : p < sz) (hm : m ≤ 50) : ∃ o, z_gB tk cl P p m o ∧ z_gd sz p m o := by
  obtain ⟨o, ho⟩ := hP.1 (p + 1) m (by omega) hm
  have hg := hP.2 _ _ _ ho
  cases o with
  | error t =>
    have := hg.2 t rfl
    exact ⟨_, Or.inl ⟨t, ho, rfl⟩, z_gd_er (by omega) (by omega)⟩
  | ok x =>
    obtain ⟨s, p', m'⟩ := x
    have g := hg.1 s p' m' rfl
    by_cases h : tk p' = cl
    · have : p' < sz := by
        rcases Nat.lt_or_ge p' sz with q | q
        · exact q
        · rw [hz p' q] at h
          exact absurd h.symm hc
      exact ⟨_, Or.inr ⟨s, p', m', ho, Or.inl ⟨h, rfl⟩⟩, z_gd_ok (by omega) (by omega) (by omega) (by omega)⟩
    · exact ⟨_, Or.inr ⟨s, p', m', ho, Or.inr ⟨h, rfl⟩⟩, z_gd_er (by omega) (by omega)⟩
theorem z_gSo_tot {P : Nat → Nat → z_O z_Sm → Prop} (hP : z_tot sz P) (hz : ∀ p, sz ≤ p → tk p = 0) : z_tot sz (z_gSo tk sz P) :=
  z_gC_tot (z_gC_tot hP (fun p hp h => by rw [hz p hp] at h; rcases h with h | h <;> omega)) (fun p hp h => by rw [hz p hp] at h; rcases h with h | h <;> omega)
theorem z_gP_tot (hz : ∀ p, sz ≤ p → tk p = 0) : ∀ e, z_tot sz (z_gP tk vl sz e) := by
  have rest : ∀ p m, p ≤ sz → m ≤ 50 → tk p ≠ 191 → ∃ o, ((tk p ≠ 191 ∧ z_lf tk vl p ∧ m < 50 ∧ o = .ok (z_lfS tk vl p, p + 1, m + 1)) ∨ (tk p ≠ 191 ∧ ¬ (z_lf tk vl p ∧ m < 50) ∧ o = .error p)) ∧ z_gd sz p m o := by
    intro p m hp hm h
    by_cases hl : z_lf tk vl p ∧ m < 50
    · have : p < sz := by
        rcases Nat.lt_or_ge p sz with q | q
        · exact q
        · have := hl.1
          unfold z_lf at this
          rw [hz p q] at this
          omega
      exact ⟨_, Or.inl ⟨h, hl.1, hl.2, rfl⟩, z_gd_ok (by omega) (by omega) (by omega) (by omega)⟩
    · exact ⟨_, Or.inr ⟨h, hl, rfl⟩, z_gd_er (by omega) hp⟩
  intro e
  induction e with
  | zero =>
    refine ⟨fun p m hp hm => ?_, fun p m o h => h.2⟩
    by_cases h : tk p = 191
    · exact ⟨_, Or.inl ⟨h, rfl⟩, z_gd_er (by omega) hp⟩
    · obtain ⟨o, h1, h2⟩ := rest p m hp hm h
      exact ⟨o, Or.inr h1, h2⟩
  | succ e ih =>
    refine ⟨fun p m hp hm => ?_, fun p m o h => h.2⟩
    by_cases h : tk p = 191
    · have : p < sz := by
        rcases Nat.lt_or_ge p sz with q | q
        · exact q
        · rw [hz p q] at h
          omega
      obtain ⟨o, h1, h2⟩ := z_gB_tot (cl := 193) (z_gSo_tot ih hz) hz (by decide) this hm
      exact ⟨o, Or.inl ⟨h, h1⟩, h2⟩
    · obtain ⟨o, h1, h2⟩ := rest p m hp hm h
      exact ⟨o, Or.inr h1, h2⟩
theorem z_gS_tot (hz : ∀ p, sz ≤ p → tk p = 0) (e : Nat) : z_tot sz (z_gS tk vl sz e) := z_gSo_tot (z_gP_tot hz e) hz
theorem z_gCm_tot {P : Nat → Nat → z_O z_Sm → Prop} (hP : z_tot sz P) (hz : ∀ p, sz ≤ p → tk p = 0) {p m : Nat} (hp : p ≤ sz) (hm : m ≤ 50) : ∃ o, z_gCm tk P p m o ∧ z_gd sz p m o := by
  obtain ⟨o, ho⟩ := hP.1 p m hp hm
  have hg := hP.2 _ _ _ ho
  cases o with
  | error t =>
    have := hg.2 t rfl
    exact ⟨_, Or.inl ⟨t, ho, rfl⟩, z_gd_er (by omega) (by omega)⟩
  | ok x =>
    obtain ⟨a, p1, m1⟩ := x
    have g := hg.1 a p1 m1 rfl
    by_cases h : z_isC (tk p1)
    · have : p1 < sz := by
        rcases Nat.lt_or_ge p1 sz with q | q
        · exact q
        · rw [hz p1 q] at h
          rcases h with h | h | h <;> omega
      obtain ⟨o, ho2⟩ := hP.1 (p1 + 1) m1 (by omega) (by omega)
      have hg := hP.2 _ _ _ ho2
      cases o with
      | error t =>
        have := hg.2 t rfl
        exact ⟨_, Or.inr ⟨a, p1, m1, ho, Or.inr ⟨h, Or.inl ⟨t, ho2, rfl⟩⟩⟩, z_gd_er (by omega) (by omega)⟩
      | ok x =>
        obtain ⟨b, p2, m2⟩ := x
        have g2 := hg.1 b p2 m2 rfl
        exact ⟨_, Or.inr ⟨a, p1, m1, ho, Or.inr ⟨h, Or.inr ⟨b, p2, m2, ho2, rfl⟩⟩⟩, z_gd_ok (by omega) (by omega) (by omega) (by omega)⟩
    · exact ⟨_, Or.inr ⟨a, p1, m1, ho, Or.inl ⟨h, rfl⟩⟩, z_gd_er (by omega) (by omega)⟩
theorem z_nots (hz : ∀ p, sz ≤ p → tk p = 0) : ∀ (d p : Nat), sz - p ≤ d → p ≤ sz → ∃ k, (∀ j, j < k → tk (p + j) = 5) ∧ tk (p + k) ≠ 5 ∧ p + k ≤ sz := by
  intro d
  induction d with
  | zero => exact fun p h1 h2 => ⟨0, fun j hj => by omega, by rw [hz _ (by omega)]; decide, h2⟩
  | succ d ih =>
    intro p h1 h2
    by_cases h : tk p = 5
    · have : p < sz := by
        rcases Nat.lt_or_ge p sz with q | q
        · exact q
        · rw [hz p q] at h
          omega
      obtain ⟨k, h3, h4, h5⟩ := ih (p + 1) (by omega) (by omega)
      refine ⟨k + 1, fun j hj => ?_, by rw [show p + (k + 1) = p + 1 + k by omega]; exact h4, by omega⟩
      rcases Nat.eq_zero_or_pos j with q | q
      · rw [q]
        exact h
      · have := h3 (j - 1) (by omega)
        rw [show p + j = p + 1 + (j - 1) by omega]
        exact this
    · exact ⟨0, fun j hj => by omega, h, h2⟩
theorem z_gTo_tot {P : Nat → Nat → z_O z_Ts → Prop} (hP : z_tot sz P) (hz : ∀ p, sz ≤ p → tk p = 0) : z_tot sz (z_gTo tk sz P) :=
  z_gC_tot (z_gC_tot hP (fun p hp h => by rw [hz p hp] at h; cases h)) (fun p hp h => by rw [hz p hp] at h; cases h)
theorem z_gQ_tot (hz : ∀ p, sz ≤ p → tk p = 0) : ∀ e, z_tot sz (z_gQ tk vl sz e) := by
  have fin : ∀ (p m k : Nat) (o' : z_O z_Ts), z_gd sz (p + k) m o' → ∃ o, ((∃ t, o' = .error t ∧ o = .error t) ∨ ∃ s q m', o' = .ok (s, q, m') ∧ o = .ok (if k % 2 = 1 then z_ntS s else s, q, m')) ∧ z_gd sz p m o := by
    intro p m k o' h
    cases o' with
    | error t =>
      have := h.2 t rfl
      exact ⟨_, Or.inl ⟨t, rfl, rfl⟩, z_gd_er (by omega) (by omega)⟩
    | ok x =>
      obtain ⟨s, q, m'⟩ := x
      have := h.1 s q m' rfl
      exact ⟨_, Or.inr ⟨s, q, m', rfl, rfl⟩, z_gd_ok (by omega) (by omega) (by omega) (by omega)⟩
  intro e
  induction e with
  | zero =>
    refine ⟨fun p m hp hm => ?_, fun p m o h => ?_⟩
    · obtain ⟨k, h1, h2, h3⟩ := z_nots hz (sz - p) p (Nat.le_refl _) hp
      by_cases h : tk (p + k) = 140
      · obtain ⟨o, a, b⟩ := fin p m k (.error (p + k)) (z_gd_er (Nat.le_refl _) h3)
        exact ⟨o, k, _, h1, h2, Or.inl ⟨h, rfl⟩, a, b⟩
      · obtain ⟨o', g1, g2⟩ := z_gCm_tot (z_gS_tot (vl := vl) hz 0) hz h3 hm
        obtain ⟨o, a, b⟩ := fin p m k o' g2
        exact ⟨o, k, _, h1, h2, Or.inr ⟨h, g1⟩, a, b⟩
    · obtain ⟨k, o', -, -, -, -, h⟩ := h
      exact h
  | succ e ih =>
    refine ⟨fun p m hp hm => ?_, fun p m o h => ?_⟩
    · obtain ⟨k, h1, h2, h3⟩ := z_nots hz (sz - p) p (Nat.le_refl _) hp
      by_cases h : tk (p + k) = 140
      · have : p + k < sz := by
          rcases Nat.lt_or_ge (p + k) sz with q | q
          · exact q
          · rw [hz _ q] at h
            omega
        obtain ⟨o', g1, g2⟩ := z_gB_tot (cl := 141) (z_gTo_tot ih hz) hz (by decide) this hm
        obtain ⟨o, a, b⟩ := fin p m k o' g2
        exact ⟨o, k, _, h1, h2, Or.inl ⟨h, g1⟩, a, b⟩
      · obtain ⟨o', g1, g2⟩ := z_gCm_tot (z_gS_tot (vl := vl) hz (e + 1)) hz h3 hm
        obtain ⟨o, a, b⟩ := fin p m k o' g2
        exact ⟨o, k, _, h1, h2, Or.inr ⟨h, g1⟩, a, b⟩
    · obtain ⟨k, o', -, -, -, -, h⟩ := h
      exact h
theorem z_gT_tot (hz : ∀ p, sz ≤ p → tk p = 0) (e : Nat) : z_tot sz (z_gT tk vl sz e) := z_gTo_tot (z_gQ_tot hz e) hz
theorem z_gCl_tot (hz : ∀ p, sz ≤ p → tk p = 0) : z_tot sz (z_gCl tk vl sz) := by
  refine ⟨fun p m hp hm => ?_, fun p m o h => h.2⟩
  by_cases h : tk p = 1
  · have hlt : p < sz := by
      rcases Nat.lt_or_ge p sz with q | q
      · exact q
      · rw [hz p q] at h
        omega
    obtain ⟨o, ho⟩ := (z_gS_tot (vl := vl) hz 8).1 (p + 1) m (by omega) hm
    have hg := (z_gS_tot hz 8).2 _ _ _ ho
    cases o with
    | error t =>
      have := hg.2 t rfl
      exact ⟨_, Or.inr ⟨h, Or.inl ⟨t, ho, rfl⟩⟩, z_gd_er (by omega) (by omega)⟩
    | ok x =>
      obtain ⟨s, p1, m1⟩ := x
      have g := hg.1 s p1 m1 rfl
      by_cases h2 : tk p1 = 2
      · have : p1 < sz := by
          rcases Nat.lt_or_ge p1 sz with q | q
          · exact q
          · rw [hz p1 q] at h2
            omega
        obtain ⟨o, ho2⟩ := (z_gT_tot (vl := vl) hz 8).1 (p1 + 1) m1 (by omega) (by omega)
        have hg := (z_gT_tot hz 8).2 _ _ _ ho2
        cases o with
        | error t =>
          have := hg.2 t rfl
          exact ⟨_, Or.inr ⟨h, Or.inr ⟨s, p1, m1, ho, Or.inr ⟨h2, Or.inl ⟨t, ho2, rfl⟩⟩⟩⟩, z_gd_er (by omega) (by omega)⟩
        | ok x =>
          obtain ⟨t, p2, m2⟩ := x
          have g2 := hg.1 t p2 m2 rfl
          exact ⟨_, Or.inr ⟨h, Or.inr ⟨s, p1, m1, ho, Or.inr ⟨h2, Or.inr ⟨t, p2, m2, ho2, rfl⟩⟩⟩⟩, z_gd_ok (by omega) (by omega) (by omega) (by omega)⟩
      · exact ⟨_, Or.inr ⟨h, Or.inr ⟨s, p1, m1, ho, Or.inl ⟨h2, rfl⟩⟩⟩, z_gd_ok (by omega) (by omega) (by omega) (by omega)⟩
  · exact ⟨_, Or.inl ⟨h, rfl⟩, z_gd_er (by omega) hp⟩
theorem z_gL_tot (hz : ∀ p, sz ≤ p → tk p = 0) : ∀ (c p m : Nat) (l : List z_Sm), p ≤ sz → m ≤ 50 → ∃ o, z_gL tk vl sz c p m l o := by
  intro c
  induction c with
  | zero =>
    intro p m l hp hm
    obtain ⟨o, ho⟩ := (z_gCl_tot (vl := vl) hz).1 p m hp hm
    have hg := (z_gCl_tot hz).2 _ _ _ ho
    cases o with
    | error t => exact ⟨_, Or.inl ⟨t, ho, rfl⟩⟩
    | ok x =>
      obtain ⟨s, p', m'⟩ := x
      have g := hg.1 s p' m' rfl
      rcases Nat.lt_or_ge p' sz with q | q
      · by_cases h : tk p' = 159
        · exact ⟨_, Or.inr ⟨s, p', m', ho, Or.inl ⟨h, q, rfl⟩⟩⟩
        · exact ⟨_, Or.inr ⟨s, p', m', ho, Or.inr (Or.inl ⟨h, q, rfl⟩)⟩⟩
      · exact ⟨_, Or.inr ⟨s, p', m', ho, Or.inr (Or.inr ⟨by omega, rfl⟩)⟩⟩
  | succ c ih =>
    intro p m l hp hm
    obtain ⟨o, ho⟩ := (z_gCl_tot (vl := vl) hz).1 p m hp hm
    have hg := (z_gCl_tot hz).2 _ _ _ ho
    cases o with
    | error t => exact ⟨_, Or.inl ⟨t, ho, rfl⟩⟩
    | ok x =>
      obtain ⟨s, p', m'⟩ := x
      have g := hg.1 s p' m' rfl
      rcases Nat.lt_or_ge p' sz with q | q
      · by_cases h : tk p' = 159
        · obtain ⟨o, h2⟩ := ih (p' + 1) m' (l ++ [s]) (by omega) (by omega)
          exact ⟨o, Or.inr ⟨s, p', m', ho, Or.inl ⟨h, q, h2⟩⟩⟩
        · exact ⟨_, Or.inr ⟨s, p', m', ho, Or.inr (Or.inl ⟨h, q, rfl⟩)⟩⟩
      · exact ⟨_, Or.inr ⟨s, p', m', ho, Or.inr (Or.inr ⟨by omega, rfl⟩)⟩⟩
end ZGT
