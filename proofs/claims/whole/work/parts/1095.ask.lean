-- LAWS ASK FOR NINE NUMBERS ONLY
def z_a9 {B : Type} (s : (Nat → Int32) → Option B) : Prop := ∀ ask ask' : Nat → Int32, (∀ k, k < 9 → ask k = ask' k) → s ask = s ask'
section ZA9
variable {tk vl : Nat → Nat} {sz : Nat}
theorem z_gC_ind {A : Type} {S : Nat → Prop} {mk : Nat → A → A → A} {P : Nat → Nat → z_O A → Prop} {D : A → Prop} (hmk : ∀ c a b, D a → D b → D (mk c a b)) (hP : ∀ p m s q m', P p m (.ok (s, q, m')) → D s) {p m : Nat} {s : A} {q m' : Nat} (h : z_gC tk sz S mk P p m (.ok (s, q, m'))) : D s := by
  obtain ⟨h, -⟩ := h
  rcases h with ⟨a, p1, m1, N, h1, h2⟩ | ⟨t, -, h⟩
  rotate_left
  · cases h
  have ha := hP _ _ _ _ _ h1
  clear h1
  revert a p1 m1
  induction N with
  | zero => intro a p1 m1 h; exact h.elim
  | succ N ih =>
    intro a p1 m1 h2 ha
    rcases h2 with ⟨_, h⟩ | ⟨_, ⟨b, p2, m2, h3, h4⟩ | ⟨t, _, h⟩⟩
    · cases h
      exact ha
    · exact ih _ _ _ h4 (hmk _ _ _ ha (hP _ _ _ _ _ h3))
    · cases h
theorem z_a9_mkS (c : Nat) (a b : z_Sm) (ha : z_a9 a) (hb : z_a9 b) : z_a9 (z_mkS c a b) := by
  intro ask ask' h
  unfold z_mkS z_opS
  rw [ha ask ask' h, hb ask ask' h]
theorem z_a9_mkA (c : Nat) (a b : z_Ts) (ha : z_a9 a) (hb : z_a9 b) : z_a9 (z_mkA c a b) := by
  intro ask ask' h
  unfold z_mkA z_anS
  rw [ha ask ask' h, hb ask ask' h]
theorem z_a9_mkO (c : Nat) (a b : z_Ts) (ha : z_a9 a) (hb : z_a9 b) : z_a9 (z_mkO c a b) := by
  intro ask ask' h
  unfold z_mkO z_orS
  rw [ha ask ask' h, hb ask ask' h]
theorem z_a9_lf {p : Nat} (hl : z_lf tk vl p) : z_a9 (z_lfS tk vl p) := by
  intro ask ask' h
  unfold z_lfS
  by_cases c : tk p = 50
  · rw [if_pos c, if_pos c]
  · have : 6 ≤ tk p ∧ tk p ≤ 14 := by
      rcases hl with q | q
      · exact absurd q.1 c
      · exact q
    rw [if_neg c, if_neg c, h (tk p - 6) (by omega)]
theorem z_a9_gP : ∀ (e p m : Nat) (s : z_Sm) (q m' : Nat), z_gP tk vl sz e p m (.ok (s, q, m')) → z_a9 s := by
  intro e
  induction e with
  | zero =>
    intro p m s q m' h
    rcases h.1 with ⟨_, h⟩ | ⟨_, hl, _, h⟩ | ⟨_, _, h⟩
    · cases h
    · cases h
      exact z_a9_lf hl
    · cases h
  | succ e ih =>
    intro p m s q m' h
    rcases h.1 with ⟨_, ⟨t, _, h⟩ | ⟨s', p', m'', h1, ⟨_, h3⟩ | ⟨_, h⟩⟩⟩ | ⟨_, hl, _, h⟩ | ⟨_, _, h⟩
    · cases h
    · cases h3
      unfold z_gSo at h1
      exact z_gC_ind z_a9_mkS (fun p m s q m' h => z_gC_ind z_a9_mkS ih h) h1
    · cases h
    · cases h
      exact z_a9_lf hl
    · cases h
theorem z_a9_gS {e p m : Nat} {s : z_Sm} {q m' : Nat} (h : z_gS tk vl sz e p m (.ok (s, q, m'))) : z_a9 s := by
  unfold z_gS z_gSo at h
  exact z_gC_ind z_a9_mkS (fun p m s q m' h => z_gC_ind z_a9_mkS (z_a9_gP e) h) h
theorem z_a9_gX {e p m : Nat} {s : z_Ts} {q m' : Nat} (hQ : ∀ e', e = e' + 1 → ∀ p m s q m', z_gQ tk vl sz e' p m (.ok (s, q, m')) → z_a9 s) (h : z_gX tk vl sz e p m (.ok (s, q, m'))) : z_a9 s := by
  rcases h with ⟨_, h⟩ | ⟨_, h⟩
  · cases e with
    | zero => cases h
    | succ e =>
      rcases h with ⟨t, _, h⟩ | ⟨s', p', m'', h1, ⟨_, h3⟩ | ⟨_, h⟩⟩
      · cases h
      · cases h3
        unfold z_gTo at h1
        exact z_gC_ind z_a9_mkO (fun p m s q m' h => z_gC_ind z_a9_mkA (hQ e rfl) h) h1
      · cases h
  · rcases h with ⟨t, _, h⟩ | ⟨a, p1, m1, h1, ⟨_, h⟩ | ⟨_, ⟨t, _, h⟩ | ⟨b, p2, m2, h2, h⟩⟩⟩
    · cases h
    · cases h
    · cases h
    · cases h
      intro ask ask' h
      unfold z_cmpS
      rw [z_a9_gS h1 ask ask' h, z_a9_gS h2 ask ask' h]
theorem z_a9_gQ : ∀ (e p m : Nat) (s : z_Ts) (q m' : Nat), z_gQ tk vl sz e p m (.ok (s, q, m')) → z_a9 s := by
  intro e
  induction e with
  | zero =>
    intro p m s q m' h
    rw [z_gQ_iff] at h
    obtain ⟨k, o', _, _, h3, ⟨t, _, h⟩ | ⟨s', q', m'', rfl, h4⟩, _⟩ := h
    · cases h
    · cases h4
      have h5 := z_a9_gX (fun e' h => by omega) h3
      intro ask ask' h
      by_cases c : k % 2 = 1
      · rw [if_pos c]
        unfold z_ntS
        rw [h5 ask ask' h]
      · rw [if_neg c]
        exact h5 ask ask' h
  | succ e ih =>
    intro p m s q m' h
    rw [z_gQ_iff] at h
    obtain ⟨k, o', _, _, h3, ⟨t, _, h⟩ | ⟨s', q', m'', rfl, h4⟩, _⟩ := h
    · cases h
    · cases h4
      have h5 := z_a9_gX (fun e' h => by rw [show e' = e by omega]; exact ih) h3
      intro ask ask' h
      by_cases c : k % 2 = 1
      · rw [if_pos c]
        unfold z_ntS
        rw [h5 ask ask' h]
      · rw [if_neg c]
        exact h5 ask ask' h
theorem z_a9_gCl {p m : Nat} {s : z_Sm} {q m' : Nat} (h : z_gCl tk vl sz p m (.ok (s, q, m'))) : z_a9 s := by
  rcases h.1 with ⟨_, h⟩ | ⟨_, ⟨t, _, h⟩ | ⟨s', p1, m1, h1, ⟨_, h⟩ | ⟨_, ⟨t, _, h⟩ | ⟨t, p2, m2, h2, h⟩⟩⟩⟩
  · cases h
  · cases h
  · cases h
    exact z_a9_gS h1
  · cases h
  · cases h
    unfold z_gT z_gTo at h2
    have ht : z_a9 t := z_gC_ind z_a9_mkO (fun p m s q m' h => z_gC_ind z_a9_mkA (z_a9_gQ 8) h) h2
    intro ask ask' h
    unfold z_clS
    rw [z_a9_gS h1 ask ask' h, ht ask ask' h]
theorem z_a9_gL : ∀ (c p m : Nat) (l L : List z_Sm), z_gL tk vl sz c p m l (.ok L) → (∀ s ∈ l, z_a9 s) → ∀ s ∈ L, z_a9 s := by
  have ap : ∀ (l : List z_Sm) (s : z_Sm), (∀ s ∈ l, z_a9 s) → z_a9 s → ∀ x ∈ l ++ [s], z_a9 x := by
    intro l s h1 h2 x hx
    rcases List.mem_append.mp hx with h | h
    · exact h1 x h
    · rw [List.mem_singleton.mp h]
      exact h2
  intro c
  induction c with
  | zero =>
    intro p m l L h hl
    rcases h with ⟨t, _, h⟩ | ⟨s, p', m', h1, ⟨_, _, h⟩ | ⟨_, _, h⟩ | ⟨_, h⟩⟩
    · cases h
    · cases h
    · cases h
    · cases h
      exact ap l s hl (z_a9_gCl h1)
  | succ c ih =>
    intro p m l L h hl
    rcases h with ⟨t, _, h⟩ | ⟨s, p', m', h1, ⟨_, _, h⟩ | ⟨_, _, h⟩ | ⟨_, h⟩⟩
    · cases h
    · exact ih _ _ _ _ h (ap l s hl (z_a9_gCl h1))
    · cases h
    · cases h
      exact ap l s hl (z_a9_gCl h1)
end ZA9
theorem z_evL_a9 {ask ask' : Nat → Int32} (h : ∀ k, k < 9 → ask k = ask' k) : ∀ (L : List z_Sm) (d : Int64), (∀ s ∈ L, z_a9 s) → z_evL ask L d = z_evL ask' L d
  | [], _, _ => rfl
  | s :: L, d, hL => by
    show z_evL ask L _ = z_evL ask' L _
    rw [hL s (List.mem_cons_self ..) ask ask' h]
    exact z_evL_a9 h L _ (fun x hx => hL x (List.mem_cons_of_mem _ hx))
theorem z_toks_a9 {K : Nat → Int32} {j : Nat} {L : List z_Sm} (h : z_toks K j L) : ∀ s ∈ L, z_a9 s := by
  obtain ⟨sz, tk, vl, -, -, -, -, -, h⟩ := h
  exact z_a9_gL _ _ _ _ _ h (fun s hs => by cases hs)
-- WHAT IS WOVEN, AS A FUNCTION
/-- wool, who sees what, tastes, the year, wishes, what is fixed -/
abbrev z_E := (Nat → Nat) × (Nat → Nat → Bool) × (Nat → Int32) × Int32 × ((Nat → Int32) → Int64 → Int64) × (Nat → Nat → Option Int32)
noncomputable def z_nr (W : Nat) (z : Int) : Nat := Classical.epsilon (z_Nr W z)
theorem z_nr_eq {W : Nat} {z : Int} {c : Nat} (h : z_Nr W z c) : z_nr W z = c := z_Nr_one (Classical.epsilon_spec ⟨c, h⟩) h
noncomputable def z_cv (E : z_E) (v c : Nat) (was left above : Int32) : Int32 := match E.2.2.2.2.2 v c with
  | some x => x
  | none => nI (z_nr (E.1 v) (E.2.2.2.2.1 (z_ask v c was left above (E.2.2.1 v) E.2.2.2.1) (if was = -1 then (E.2.2.1 v).toInt64 else was.toInt64)).toInt)
/-- what a village sees in a cell -/
def z_was (E : z_E) (v : Nat) (f : Nat → Int32) (c : Nat) : Int32 := if E.2.1 v c = true then f c else -1
/-- g is woven by v, who sees f -/
def z_isW (E : z_E) (v : Nat) (f g : Nat → Int32) (m : Nat) : Prop := ∀ c, c < m → g c = z_cv E v c (z_was E v f c) (z_left g c) (z_above g c)
theorem z_left_eq {g g' : Nat → Int32} {c : Nat} (h : ∀ d, d < c → g d = g' d) : z_left g c = z_left g' c := by
  unfold z_left
  by_cases q : c % 6 = 0
  · rw [if_pos q, if_pos q]
  · rw [if_neg q, if_neg q, h (c - 1) (by omega)]
theorem z_above_eq {g g' : Nat → Int32} {c : Nat} (h : ∀ d, d < c → g d = g' d) : z_above g c = z_above g' c := by
  unfold z_above
  by_cases q : c < 6
  · rw [if_pos q, if_pos q]
  · rw [if_neg q, if_neg q, h (c - 6) (by omega)]
theorem z_was_eq {E : z_E} {v : Nat} {f f' : Nat → Int32} {c : Nat} (h : f c = f' c) : z_was E v f c = z_was E v f' c := by
  unfold z_was
  rw [h]
theorem z_isW_one {E : z_E} {v : Nat} {f f' g g' : Nat → Int32} {m : Nat} (h : z_isW E v f g m) (h' : z_isW E v f' g' m) (hf : ∀ c, c < m → f c = f' c) : ∀ c, c < m → g c = g' c := by
  intro c
  induction c using Nat.strongRecOn with
  | ind c ih =>
    intro hc
    rw [h c hc, h' c hc, z_left_eq (fun d hd => ih d hd (by omega)), z_above_eq (fun d hd => ih d hd (by omega)), z_was_eq (hf c hc)]
noncomputable def z_wvN (E : z_E) (v : Nat) (f : Nat → Int32) : Nat → Nat → Int32
  | 0 => fun _ => 0
  | n + 1 => fun c => if c = n then z_cv E v n (z_was E v f n) (z_left (z_wvN E v f n) n) (z_above (z_wvN E v f n) n) else z_wvN E v f n c
noncomputable def z_wv (E : z_E) (v : Nat) (f : Nat → Int32) : Nat → Int32 := z_wvN E v f 36
theorem z_isW_wvN (E : z_E) (v : Nat) (f : Nat → Int32) : ∀ n, z_isW E v f (z_wvN E v f n) n := by
  intro n
  induction n with
  | zero => exact fun c hc => absurd hc (Nat.not_lt_zero c)
  | succ n ih =>
    intro c hc
    have e : ∀ d, d < c → z_wvN E v f (n + 1) d = z_wvN E v f n d := fun d hd => if_neg (by omega)
    rw [z_left_eq e, z_above_eq e]
    rcases Nat.lt_or_ge c n with q | q
    · exact (if_neg (by omega)).trans (ih c q)
    · have : c = n := by omega
      subst this
      exact if_pos rfl
theorem z_isW_wv (E : z_E) (v : Nat) (f : Nat → Int32) : z_isW E v f (z_wv E v f) 36 := z_isW_wvN E v f 36
theorem z_wv_of {E : z_E} {v : Nat} {f g : Nat → Int32} (h : z_isW E v f g 36) : ∀ c, c < 36 → g c = z_wv E v f c := z_isW_one h (z_isW_wv E v f) (fun _ _ => rfl)
theorem z_wv_eq {E : z_E} {v : Nat} {f f' : Nat → Int32} (h : ∀ c, c < 36 → f c = f' c) : ∀ c, c < 36 → z_wv E v f c = z_wv E v f' c := z_isW_one (z_isW_wv E v f) (z_isW_wv E v f') h
/-- behind m villages from k on -/
noncomputable def z_go (E : z_E) (k : Nat) (f : Nat → Int32) : Nat → Nat → Int32
  | 0 => f
  | m + 1 => z_wv E (k + m) (z_go E k f m)
theorem z_go_eq {E : z_E} {k : Nat} {f f' : Nat → Int32} (h : ∀ c, c < 36 → f c = f' c) : ∀ m c, c < 36 → z_go E k f m c = z_go E k f' m c
  | 0 => h
  | m + 1 => z_wv_eq (z_go_eq h m)
/-- the same environment for the villages from k to e weaves the same -/
theorem z_wv_env {E E' : z_E} {v : Nat} {f : Nat → Int32} (h : ∀ c a b d, c < 36 → z_cv E v c (if E.2.1 v c = true then a else -1) b d = z_cv E' v c (if E'.2.1 v c = true then a else -1) b d) : ∀ c, c < 36 → z_wv E v f c = z_wv E' v f c := by
  refine z_wv_of (fun c hc => ?_)
  rw [z_isW_wv E v f c hc]
  exact h c (f c) _ _ hc
theorem z_cv_row {E : z_E} {v c : Nat} {was left above x : Int32} (hf : E.2.2.2.2.2 v c = none) (h : z_cell (E.1 v) E.2.2.2.2.1 v c was left above (E.2.2.1 v) E.2.2.2.1 x) : x = z_cv E v c was left above := by
  obtain ⟨col, rfl, hN⟩ := h
  unfold z_cv
  rw [hf]
  show nI col = nI _
  rw [z_nr_eq hN]
