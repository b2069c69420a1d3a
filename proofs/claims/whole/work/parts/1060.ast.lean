-- WHAT LAWS SAY: a sum, a test, a clause by what they come to
abbrev z_Sm := (Nat → Int32) → Option Int64
abbrev z_Ts := (Nat → Int32) → Option Bool
def z_bl (b : Bool) : Int64 := if b then 1 else 0
def z_opS (o : Nat) (a b : z_Sm) : z_Sm := fun ask => match a ask, b ask with
    | some x, some y => z_comb o x y
    | _, _ => none
def z_cmpS (o : Nat) (a b : z_Sm) : z_Ts := fun ask => match a ask, b ask with
    | some x, some y => some (z_val o x y == 1)
    | _, _ => none
def z_ntS (a : z_Ts) : z_Ts := fun ask => match a ask with
    | some v => some (!v)
    | none => none
def z_anS (a b : z_Ts) : z_Ts := fun ask => match a ask with
    | some true => b ask
    | some false => some false
    | none => none
def z_orS (a b : z_Ts) : z_Ts := fun ask => match a ask with
    | some true => some true
    | some false => b ask
    | none => none
/-- a clause with a test -/
def z_clS (s : z_Sm) (t : z_Ts) : z_Sm := fun ask => match s ask with
  | none => none
  | some v => if t ask = some true then some v else none
/-- what the last of some clauses that holds tells -/
def z_evL (ask : Nat → Int32) : List z_Sm → Int64 → Int64
  | [], d => d
  | q :: l, d => z_evL ask l (match q ask with
    | some v => v
    | none => d)

theorem z_run_fuel {cd : Nat → Nat} {ask : Nat → Int32} {e : Nat} : ∀ (N M p : Nat) (stk : List Int64), e - p < N → e - p < M → z_run cd ask e N p stk = z_run cd ask e M p stk := by
  intro N
  induction N with
  | zero => intro M p stk h; omega
  | succ N ih =>
    intro M p stk h1 h2
    obtain ⟨M, rfl⟩ : ∃ k, M = k + 1 := ⟨M - 1, by omega⟩
    unfold z_run
    by_cases he : e ≤ p
    · rw [if_pos he, if_pos he]
    · rw [if_neg he, if_neg he]
      have s1 : ∀ stk, z_run cd ask e N (p + 1) stk = z_run cd ask e M (p + 1) stk := fun stk => ih M (p + 1) stk (by omega) (by omega)
      have s2 : ∀ stk, z_run cd ask e N (max p (cd p / 16 - 1) + 1) stk = z_run cd ask e M (max p (cd p / 16 - 1) + 1) stk := fun stk => ih M _ stk (by omega) (by omega)
      simp only [s1, s2]
/-- the run with just enough fuel -/
def z_R (cd : Nat → Nat) (ask : Nat → Int32) (e p : Nat) (stk : List Int64) : Option (List Int64) := z_run cd ask e (e - p + 1) p stk
theorem z_R_end {cd : Nat → Nat} {ask : Nat → Int32} {e p : Nat} {stk : List Int64} (h : e ≤ p) : z_R cd ask e p stk = some stk := z_run_end h
section ZRR
variable {cd : Nat → Nat} {ask : Nat → Int32} {e p : Nat} {stk : List Int64}
theorem z_R_step (h : p < e) : z_R cd ask e p stk = if cd p % 16 = 0 ∨ cd p % 16 = 1 then (if stk.length < 50 then z_R cd ask e (p + 1) ((if cd p % 16 = 0 then (nI (cd p / 16)).toInt64 else (ask (cd p / 16)).toInt64) :: stk) else none)
      else match stk with
        | [] => none
        | x :: q => if cd p % 16 = 9 then z_R cd ask e (p + 1) ((1 - x) :: q)
          else if cd p % 16 = 10 ∨ cd p % 16 = 11 then (if x = (if cd p % 16 = 11 then 1 else 0) then z_R cd ask e (max p (cd p / 16 - 1) + 1) (x :: q) else z_R cd ask e (p + 1) q)
          else match q with
            | [] => none
            | y :: q2 => match z_comb (cd p % 16) y x with
              | none => none
              | some v => z_R cd ask e (p + 1) (v :: q2) := by
  have s1 : ∀ stk, z_run cd ask e (e - p) (p + 1) stk = z_R cd ask e (p + 1) stk := fun stk => z_run_fuel _ _ _ _ (by omega) (by omega)
  have s2 : ∀ stk, z_run cd ask e (e - p) (max p (cd p / 16 - 1) + 1) stk = z_R cd ask e (max p (cd p / 16 - 1) + 1) stk := fun stk => z_run_fuel _ _ _ _ (by omega) (by omega)
  conv => lhs; unfold z_R z_run
  rw [if_neg (by omega)]
  simp only [s1, s2]
  rfl
end ZRR
theorem z_comb_cmp {o : Nat} (h6 : 6 ≤ o) (h8 : o ≤ 8) (x y : Int64) : z_comb o x y = some (z_bl (z_val o x y == 1)) := by
  have hv : z_val o x y = 1 ∨ z_val o x y = 0 := by
    unfold z_val
    rw [if_neg (by omega), if_neg (by omega), if_neg (by omega), if_neg (by omega)]
    by_cases o6 : o = 6
    · rw [if_pos o6]
      by_cases c : x < y
      · rw [if_pos c]; exact Or.inl rfl
      · rw [if_neg c]; exact Or.inr rfl
    · rw [if_neg o6]
      by_cases o7 : o = 7
      · rw [if_pos o7]
        by_cases c : y < x
        · rw [if_pos c]; exact Or.inl rfl
        · rw [if_neg c]; exact Or.inr rfl
      · rw [if_neg o7]
        by_cases c : x = y
        · rw [if_pos c]; exact Or.inl rfl
        · rw [if_neg c]; exact Or.inr rfl
  unfold z_comb
  rw [if_neg (by omega)]
  rcases hv with e | e <;> rw [e] <;> decide
/-- the code from p to q comes to s -/
def z_kS (cd : Nat → Nat) (p q lv : Nat) (s : z_Sm) : Prop := p < q ∧ 0 < lv ∧ ∀ cd' : Nat → Nat, (∀ k, p ≤ k → k < q → cd' k = cd k) → ∀ (ask : Nat → Int32) (e : Nat) (stk : List Int64), q ≤ e → stk.length + lv ≤ 50 → z_R cd' ask e p stk = match s ask with
    | none => none
    | some v => z_R cd' ask e q (v :: stk)
def z_oT (t : z_Ts) : z_Sm := fun ask => match t ask with
    | none => none
    | some b => some (z_bl b)
def z_kT (cd : Nat → Nat) (p q lv : Nat) (t : z_Ts) : Prop := z_kS cd p q lv (z_oT t)
section ZKS
variable {cd cd2 : Nat → Nat} {p q m e lv l1 l2 o : Nat} {s a b : z_Sm} {t t1 t2 : z_Ts}
theorem z_kS_eq (h : z_kS cd p q lv s) (hc : ∀ k, p ≤ k → k < q → cd2 k = cd k) : z_kS cd2 p q lv s :=
  ⟨h.1, h.2.1, fun cd' h' => h.2.2 cd' (fun k k1 k2 => (h' k k1 k2).trans (hc k k1 k2))⟩
theorem z_kS_num {x : Nat} (h : cd p = 16 * x) : z_kS cd p (p + 1) 1 (fun _ => some (nI x).toInt64) := by
  refine ⟨by omega, by omega, fun cd' hc ask e stk he hl => ?_⟩
  rw [z_R_step (by omega), hc p (Nat.le_refl _) (by omega), h, if_pos (Or.inl (by omega)), if_pos (by omega), if_pos (by omega), show 16 * x / 16 = x by omega]
theorem z_kS_ask {x : Nat} (h : cd p = 16 * x + 1) : z_kS cd p (p + 1) 1 (fun ask => some (ask x).toInt64) := by
  refine ⟨by omega, by omega, fun cd' hc ask e stk he hl => ?_⟩
  rw [z_R_step (by omega), hc p (Nat.le_refl _) (by omega), h, if_pos (Or.inr (by omega)), if_pos (by omega), if_neg (by omega), show (16 * x + 1) / 16 = x by omega]
theorem z_kS_op (h1 : z_kS cd p m l1 a) (h2 : z_kS cd m e l2 b) (h4 : cd e = o) (h5 : 2 ≤ o) (h6 : o ≤ 8) : z_kS cd p (e + 1) (l1 + l2) (z_opS o a b) := by
  obtain ⟨u1, v1, h1⟩ := h1
  obtain ⟨u2, v2, h2⟩ := h2
  refine ⟨by omega, by omega, fun cd' hc ask E stk he hl => ?_⟩
  rw [h1 cd' (fun k k1 k2 => hc k k1 (by omega)) ask E stk (by omega) (by omega)]
  unfold z_opS
  cases ea : a ask with
  | none => rfl
  | some x =>
    show z_R cd' ask E m (x :: stk) = _
    rw [h2 cd' (fun k k1 k2 => hc k (by omega) (by omega)) ask E _ (by omega) (by show stk.length + 1 + _ ≤ 50; omega)]
    cases eb : b ask with
    | none => rfl
    | some y =>
      show z_R cd' ask E e (y :: x :: stk) = _
      rw [z_R_step (by omega), hc e (by omega) (by omega), h4, if_neg (by omega)]
      have m1 : o % 16 = o := by omega
      show (if o % 16 = 9 then _ else if o % 16 = 10 ∨ o % 16 = 11 then _ else match z_comb (o % 16) x y with
            | none => none
            | some v => z_R cd' ask E (e + 1) (v :: stk)) = _
      rw [m1, if_neg (by omega), if_neg (by omega)]
theorem z_kT_cmp (h1 : z_kS cd p m l1 a) (h2 : z_kS cd m e l2 b) (h4 : cd e = o) (h5 : 6 ≤ o) (h6 : o ≤ 8) : z_kT cd p (e + 1) (l1 + l2) (z_cmpS o a b) := by
  have h := z_kS_op h1 h2 h4 (by omega) h6
  have e1 : z_opS o a b = z_oT (z_cmpS o a b) := by
    funext ask
    unfold z_opS z_oT z_cmpS
    cases a ask with
    | none => rfl
    | some x =>
      cases b ask with
      | none => rfl
      | some y => exact z_comb_cmp h5 h6 x y
  rw [e1] at h
  exact h
theorem z_kT_nt (h1 : z_kT cd p e lv t) (h3 : cd e = 9) : z_kT cd p (e + 1) lv (z_ntS t) := by
  obtain ⟨u1, v1, h1⟩ := h1
  refine ⟨by omega, v1, fun cd' hc ask E stk he hl => ?_⟩
  rw [h1 cd' (fun k k1 k2 => hc k k1 (by omega)) ask E stk (by omega) hl]
  unfold z_oT z_ntS
  cases t ask with
  | none => rfl
  | some x =>
    show z_R cd' ask E e (z_bl x :: stk) = _
    rw [z_R_step (by omega), hc e (by omega) (by omega), h3, if_neg (by decide)]
    show z_R cd' ask E (e + 1) ((1 - z_bl x) :: stk) = z_R cd' ask E (e + 1) (z_bl (!x) :: stk)
    cases x <;> rfl
theorem z_kT_an (h1 : z_kT cd p m l1 t1) (h2 : z_kT cd (m + 1) q l2 t2) (h3 : cd m = 16 * q + 10) : z_kT cd p q (l1 + l2) (z_anS t1 t2) := by
  obtain ⟨u1, v1, h1⟩ := h1
  obtain ⟨u2, v2, h2⟩ := h2
  refine ⟨by omega, by omega, fun cd' hc ask E stk he hl => ?_⟩
  rw [h1 cd' (fun k k1 k2 => hc k k1 (by omega)) ask E stk (by omega) (by omega)]
  unfold z_oT z_anS
  cases t1 ask with
  | none => rfl
  | some x =>
    show z_R cd' ask E m (z_bl x :: stk) = _
    rw [z_R_step (by omega), hc m (by omega) (by omega), h3, if_neg (by omega)]
    have m1 : (16 * q + 10) % 16 = 10 := by omega
    have m2 : (16 * q + 10) / 16 = q := by omega
    show (if (16 * q + 10) % 16 = 9 then _ else if (16 * q + 10) % 16 = 10 ∨ (16 * q + 10) % 16 = 11 then (if z_bl x = (if (16 * q + 10) % 16 = 11 then 1 else 0) then z_R cd' ask E (max m ((16 * q + 10) / 16 - 1) + 1) (z_bl x :: stk) else z_R cd' ask E (m + 1) stk) else _) = _
    rw [m1, m2, if_neg (by omega), if_pos (Or.inl rfl)]
    cases x with
    | false => rw [if_pos (show z_bl false = (if (10 : Nat) = 11 then (1 : Int64) else 0) from rfl), show max m (q - 1) + 1 = q by omega]
    | true =>
      rw [if_neg (show ¬ z_bl true = (if (10 : Nat) = 11 then (1 : Int64) else 0) by decide), h2 cd' (fun k k1 k2 => hc k (by omega) k2) ask E stk he (by omega)]
      rfl
theorem z_kT_or (h1 : z_kT cd p m l1 t1) (h2 : z_kT cd (m + 1) q l2 t2) (h3 : cd m = 16 * q + 11) : z_kT cd p q (l1 + l2) (z_orS t1 t2) := by
  obtain ⟨u1, v1, h1⟩ := h1
  obtain ⟨u2, v2, h2⟩ := h2
  refine ⟨by omega, by omega, fun cd' hc ask E stk he hl => ?_⟩
  rw [h1 cd' (fun k k1 k2 => hc k k1 (by omega)) ask E stk (by omega) (by omega)]
  unfold z_oT z_orS
  cases t1 ask with
  | none => rfl
  | some x =>
    show z_R cd' ask E m (z_bl x :: stk) = _
    rw [z_R_step (by omega), hc m (by omega) (by omega), h3, if_neg (by omega)]
    have m1 : (16 * q + 11) % 16 = 11 := by omega
    have m2 : (16 * q + 11) / 16 = q := by omega
    show (if (16 * q + 11) % 16 = 9 then _ else if (16 * q + 11) % 16 = 10 ∨ (16 * q + 11) % 16 = 11 then (if z_bl x = (if (16 * q + 11) % 16 = 11 then 1 else 0) then z_R cd' ask E (max m ((16 * q + 11) / 16 - 1) + 1) (z_bl x :: stk) else z_R cd' ask E (m + 1) stk) else _) = _
    rw [m1, m2, if_neg (by omega), if_pos (Or.inr rfl), if_pos rfl]
    cases x with
    | true => rw [if_pos (by rfl), show max m (q - 1) + 1 = q by omega]
    | false =>
      rw [if_neg (by decide), h2 cd' (fun k k1 k2 => hc k (by omega) k2) ask E stk he (by omega)]
      rfl
end ZKS
/-- the code of a clause -/
def z_kC (cd : Nat → Nat) (p q : Nat) (c : z_Sm) : Prop := p ≤ q ∧ ∀ cd' : Nat → Nat, (∀ k, p ≤ k → k < q → cd' k = cd k) → ∀ ask, z_end (z_R cd' ask q p []) = c ask
theorem z_kC_eq {cd cd2 : Nat → Nat} {p q : Nat} {c : z_Sm} (h : z_kC cd p q c) (hc : ∀ k, p ≤ k → k < q → cd2 k = cd k) : z_kC cd2 p q c :=
  ⟨h.1, fun cd' h' => h.2 cd' (fun k k1 k2 => (h' k k1 k2).trans (hc k k1 k2))⟩
theorem z_kC_S {cd : Nat → Nat} {p q lv : Nat} {s : z_Sm} (h : z_kS cd p q lv s) (hl : lv ≤ 50) : z_kC cd p q s := by
  refine ⟨by have := h.1; omega, fun cd' hc ask => ?_⟩
  rw [h.2.2 cd' hc ask q [] (Nat.le_refl _) (by show 0 + _ ≤ 50; omega)]
  cases s ask with
  | none => rfl
  | some v =>
    show z_end (z_R cd' ask q q [v]) = some v
    rw [z_R_end (Nat.le_refl _)]
    rfl
theorem z_kC_T {cd : Nat → Nat} {p m q l1 l2 : Nat} {s : z_Sm} {t : z_Ts} (h1 : z_kS cd p m l1 s) (h2 : z_kT cd m q l2 t) (hl : l1 + l2 ≤ 50) : z_kC cd p q (z_clS s t) := by
  obtain ⟨u1, v1, h1⟩ := h1
  obtain ⟨u2, v2, h2⟩ := h2
  refine ⟨by omega, fun cd' hc ask => ?_⟩
  rw [h1 cd' (fun k k1 k2 => hc k k1 (by omega)) ask q [] (by omega) (by show 0 + _ ≤ 50; omega)]
  unfold z_clS
  cases s ask with
  | none => rfl
  | some v =>
    show z_end (z_R cd' ask q m [v]) = if t ask = some true then some v else none
    rw [h2 cd' (fun k k1 k2 => hc k (by omega) k2) ask q [v] (Nat.le_refl _) (by show 1 + _ ≤ 50; omega)]
    unfold z_oT
    cases t ask with
    | none => rfl
    | some b =>
      show z_end (z_R cd' ask q q [z_bl b, v]) = _
      rw [z_R_end (Nat.le_refl _)]
      cases b <;> rfl
/-- the code of some clauses, from the k-th on -/
def z_kL (cd st : Nat → Nat) (l : List z_Sm) : Prop := ∀ k, (h : k < l.length) → z_kC cd (st k) (st (k + 1)) l[k]
theorem z_evC_L {cd st : Nat → Nat} {ask : Nat → Int32} {d : Int64} : ∀ (l : List z_Sm), z_kL cd st l → z_evC cd st ask d l.length = z_evL ask l d := by
  have gen : ∀ (l : List z_Sm) (k : Nat), (∀ j, (h : j < l.length) → z_kC cd (st (k + j)) (st (k + j + 1)) l[j]) → z_evC cd st ask d (k + l.length) = z_evL ask l (z_evC cd st ask d k) := by
    intro l
    induction l with
    | nil => intro k _; rfl
    | cons q l ih =>
      intro k h
      show z_evC cd st ask d (k + (l.length + 1)) = z_evL ask l (match q ask with
      | some v => v
      | none => z_evC cd st ask d k)
      rw [show k + (l.length + 1) = (k + 1) + l.length by omega, ih (k + 1) (fun j hj => by
        have := h (j + 1) (by show j + 1 < l.length + 1; omega)
        rw [show k + (j + 1) = k + 1 + j by omega] at this
        exact this)]
      show z_evL ask l (match z_clause cd st ask k with | some v => v | none => z_evC cd st ask d k) = _
      have e : z_clause cd st ask k = q ask := (h 0 (by show 0 < l.length + 1; omega)).2 cd (fun _ _ _ => rfl) ask
      rw [e]
  intro l h
  have := gen l 0 (fun j hj => by rw [Nat.zero_add]; exact h j hj)
  rw [Nat.zero_add] at this
  exact this
