-- THE CLASS'S EVALUATION OF A LAW'S CODE
def z_val (o : Nat) (a b : Int64) : Int64 := if o = 2 then a + b else if o = 3 then a - b else if o = 4 then a * b else if o = 5 then a / b else if o = 6 then (if a < b then 1 else 0) else if o = 7 then (if b < a then 1 else 0) else (if a = b then 1 else 0)
/-- what comes of two numbers; none: broken -/
def z_comb (o : Nat) (a b : Int64) : Option Int64 := if o = 5 ∧ b = 0 then none else if (1000000000 : Int64) < z_val o a b ∨ z_val o a b < (-1000000000 : Int64) then none else some (z_val o a b)
/-- the code cd from at on, up to e, over a stack -/
def z_run (cd : Nat → Nat) (ask : Nat → Int32) (e : Nat) : Nat → Nat → List Int64 → Option (List Int64)
  | 0, _, _ => none
  | N + 1, p, stk => if e ≤ p then some stk else
      if cd p % 16 = 0 ∨ cd p % 16 = 1 then (if stk.length < 50 then z_run cd ask e N (p + 1) ((if cd p % 16 = 0 then (nI (cd p / 16)).toInt64 else (ask (cd p / 16)).toInt64) :: stk) else none)
      else match stk with
        | [] => none
        | x :: q => if cd p % 16 = 9 then z_run cd ask e N (p + 1) ((1 - x) :: q)
          else if cd p % 16 = 10 ∨ cd p % 16 = 11 then (if x = (if cd p % 16 = 11 then 1 else 0) then z_run cd ask e N (max p (cd p / 16 - 1) + 1) (x :: q) else z_run cd ask e N (p + 1) q)
          else match q with
            | [] => none
            | y :: q2 => match z_comb (cd p % 16) y x with
              | none => none
              | some v => z_run cd ask e N (p + 1) (v :: q2)
/-- what a clause tells: none if it does not hold -/
def z_end (s : Option (List Int64)) : Option Int64 := match s with
  | some [v] => some v
  | some [t, v] => if t = 1 then some v else none
  | _ => none
def z_clause (cd : Nat → Nat) (st : Nat → Nat) (ask : Nat → Int32) (k : Nat) : Option Int64 := z_end (z_run cd ask (st (k + 1)) (st (k + 1) - st k + 1) (st k) [])
/-- what the last clause of k that holds tells -/
def z_evC (cd : Nat → Nat) (st : Nat → Nat) (ask : Nat → Int32) (d : Int64) : Nat → Int64
  | 0 => d
  | k + 1 => match z_clause cd st ask k with
    | some v => v
    | none => z_evC cd st ask d k
/-- the stack as it lies in cell 28, the first below -/
def z_sk (w : kw_L) : List Int64 → Prop
  | [] => True
  | x :: q => w 28 q.length = x ∧ z_sk w q
theorem z_sk_up {w : kw_L} {k : Nat} {v : Int64} : ∀ {stk : List Int64}, z_sk w stk → stk.length ≤ k → z_sk (kw_st w 28 k v) stk
  | [], _, _ => trivial
  | x :: q, h, hk => by
    have hk2 : q.length + 1 ≤ k := hk
    refine ⟨?_, z_sk_up h.2 (by omega)⟩
    rw [kw_st_row, if_neg (by omega)]
    exact h.1
/-- a law's code, as numbers: operation and what it is done with -/
def z_code (co : Nat → Int32) (m : Nat) (cd : Nat → Nat) : Prop := ∀ p, p < m → co p = nI (cd p) ∧ cd p < 16384 ∧ (cd p % 16 = 1 → cd p / 16 < 9)
/-- only this cell of longs is another -/
def z_wo (a : Nat) (w w' : kw_L) : Prop := ∀ b, b ≠ a → w' b = w b
theorem z_wo_st {a k : Nat} {w w' : kw_L} {v : Int64} (h : z_wo a w w') : z_wo a w (kw_st w' a k v) := fun b hb => by rw [kw_st_offF hb]; exact h b hb
section ZEV
variable {T : kw_T} {n : Nat} {r : kw_R} {i : kw_I} {w : kw_L} {Q : Int32 → kw_L → Prop}
theorem z_combine (hS : z_S T r) {o t : Nat} (ho : o < 16) (ht : t + 2 ≤ 50) (hs : ∀ v, z_comb o (w 28 t) (w 28 (t + 1)) = some v → Q 1 (kw_st w 28 t v)) (hn : ∀ w', z_wo 28 w w' → z_comb o (w 28 t) (w 28 (t + 1)) = none → Q 0 w') : w_X2_combine 24 (nI o) (nI (t + 2)) T n r i w Q := by
  unfold w_X2_combine
  rw [z_r24_3 hS]
  have e2 : nI (t + 2) - (2 : Int32) = nI t := by show nI (t + 2) - nI 2 = nI t; rw [pk_sub (by omega)]; rfl
  have e1 : nI (t + 2) - (1 : Int32) = nI (t + 1) := by show nI (t + 2) - nI 1 = nI (t + 1); rw [pk_sub (by omega)]; rfl
  have k2 : kw_in T 4 28 (nI t) := z_kin (z_T28 hS) (by omega) (by decide)
  have k1 : kw_in T 4 28 (nI (t + 1)) := z_kin (z_T28 hS) (by omega) (by decide)
  rw [e2, e1, nI_clamp (by omega), nI_clamp (by omega)]
  have last : ∀ v, v = z_val o (w 28 t) (w 28 (t + 1)) → ¬ (o = 5 ∧ w 28 (t + 1) = 0) → w_X2_combine_156 24 (nI o) (nI (t + 2)) T n r i Q v w := by
    intro v hv h5
    unfold w_X2_combine_156
    rw [z_r24_3 hS, e2, nI_clamp (by omega)]
    refine ⟨k2, fun w1 hw1 => ⟨fun h => ?_, fun h => ⟨fun h2 => ?_, fun h2 => ?_⟩⟩⟩
    · rw [z_cgt] at h
      refine hn w1 (by rw [hw1]; exact z_wo_st (fun b _ => rfl)) ?_
      unfold z_comb
      rw [if_neg h5, ← hv, if_pos (Or.inl h)]
    · rw [z_clt] at h2
      refine hn w1 (by rw [hw1]; exact z_wo_st (fun b _ => rfl)) ?_
      unfold z_comb
      rw [if_neg h5, ← hv, if_pos (Or.inr h2)]
    · rw [z_cgt] at h
      rw [z_clt] at h2
      rw [hw1]
      refine hs v ?_
      unfold z_comb
      rw [if_neg h5, ← hv, if_neg (fun c => c.elim h h2)]
  have oeq : ∀ k : Nat, k < 16 → (nI o = nI k ↔ o = k) := fun k hk => nI_eq (by omega) (by omega)
  have mid : ¬ (o = 5 ∧ w 28 (t + 1) = 0) → w_X2_combine_33 24 (nI o) (nI (t + 2)) T n r i Q (w 28 t) (w 28 (t + 1)) w := by
    intro h5
    unfold w_X2_combine_33 w_X2_combine_120 w_X2_combine_137 w_X2_combine_154
    have hto : (nI o).toInt = (o : Int) := nI_toInt (by omega)
    refine ⟨fun h => last _ ?_ h5, fun h => last _ ?_ h5, fun h => last _ ?_ h5, fun h => ⟨fun c => h5 ⟨(oeq 5 (by decide)).mp h, c⟩, last _ ?_ h5⟩, fun h => ⟨fun c => last _ ?_ h5, fun c => last _ ?_ h5⟩, fun h => ⟨fun c => last _ ?_ h5, fun c => last _ ?_ h5⟩, fun h => ⟨fun c => last _ ?_ h5, fun c => last _ ?_ h5⟩⟩
    · rw [(oeq 2 (by decide)).mp h]; rfl
    · rw [(oeq 3 (by decide)).mp h]; rfl
    · rw [(oeq 4 (by decide)).mp h]; rfl
    · rw [(oeq 5 (by decide)).mp h]; rfl
    · rw [(oeq 6 (by decide)).mp h]
      rw [z_cge] at c
      show (0 : Int64) = if w 28 t < w 28 (t + 1) then 1 else 0
      rw [if_neg (Int64.not_lt.mpr c)]
    · rw [(oeq 6 (by decide)).mp h]
      rw [z_cge, Int64.not_le] at c
      show (1 : Int64) = if w 28 t < w 28 (t + 1) then 1 else 0
      rw [if_pos c]
    · rw [(oeq 7 (by decide)).mp h]
      rw [z_cle] at c
      show (0 : Int64) = if w 28 (t + 1) < w 28 t then 1 else 0
      rw [if_neg (Int64.not_lt.mpr c)]
    · rw [(oeq 7 (by decide)).mp h]
      rw [z_cle, Int64.not_le] at c
      show (1 : Int64) = if w 28 (t + 1) < w 28 t then 1 else 0
      rw [if_pos c]
    · rw [z_ceq] at c
      unfold z_val
      rw [if_neg (by omega), if_neg (by omega), if_neg (by omega), if_neg (by omega), if_neg (by omega), if_neg (by omega), if_neg c]
    · rw [z_ceq] at c
      unfold z_val
      rw [if_neg (by omega), if_neg (by omega), if_neg (by omega), if_neg (by omega), if_neg (by omega), if_neg (by omega), if_pos c]
  refine ⟨k2, k1, fun h => mid (fun c => h ((oeq 5 (by decide)).mpr c.1)), fun h => ⟨fun c => ?_, fun c => ?_⟩⟩
  · rw [z_ceq] at c
    exact mid (fun q => c q.2)
  · rw [z_ceq] at c
    refine hn w (fun b _ => rfl) ?_
    unfold z_comb
    rw [if_pos ⟨(oeq 5 (by decide)).mp h, c⟩]
theorem z_m1 (t : Nat) : nI (t + 1) - (1 : Int32) = nI t := by
  show nI (t + 1) - nI 1 = nI t
  rw [pk_sub (by omega)]
  rfl
theorem z_m1' (t : Nat) : nI (t + 1) + (-1 : Int32) = nI t := pk_m1 t
theorem z_and15 {c : Nat} (h : c < 16384) : nI c &&& (15 : Int32) = nI (c % 16) := pk_andN (by omega) 4 (by decide)
theorem z_shr4 {c : Nat} (h : c < 16384) : nI c >>> ((4 : Int32) &&& 31) = nI (c / 16) := pk_shrN (by omega) _ 4 (by decide)
theorem z_run_end {cd : Nat → Nat} {ask : Nat → Int32} {e N p : Nat} {stk : List Int64} (h : e ≤ p) : z_run cd ask e (N + 1) p stk = some stk := by
  unfold z_run
  rw [if_pos h]
set_option maxHeartbeats 4000000 in
theorem z_holds_loop (hS : z_S T r) {la m e : Nat} {cd : Nat → Nat} {x1 : Int32} (hla : r 24 7 = la) (hTl : T la = (0, 1)) (hTc : T (r la 2) = (1, m)) (hm : m ≤ 400) (he : e ≤ m) (hc : z_code (i (r la 2)) m cd) :
    ∀ (N p : Nat) (stk : List Int64) (w1 : kw_L), p ≤ 2000 → stk.length ≤ 50 → z_wo 28 w w1 → z_sk w1 stk → e - p + 1 ≤ N → (∀ w' v, z_wo 28 w w' → z_end (z_run cd (i 29) e N p stk) = some v → w' 28 0 = v → Q 1 w') → (∀ w', z_wo 28 w w' → z_end (z_run cd (i 29) e N p stk) = none → Q 0 w') → w_X2_holds_25 24 x1 T n r i Q N (nI e) (nI stk.length) (nI p) w1 := by
  intro N
  induction N with
  | zero => intro p stk w1 _ _ _ _ hN; omega
  | succ N ih =>
    intro p stk w1 hp hst hwo hsk hN hs1 hs0
    show s_X2_holds_25 24 x1 T n r i Q (w_X2_holds_25 24 x1 T n r i Q N) (nI e) (nI stk.length) (nI p) w1
    unfold s_X2_holds_25
    rw [hla, z_r24_3 hS]
    have leq : ∀ k : Nat, k < 100 → (nI stk.length = nI k ↔ stk.length = k) := fun k hk => nI_eq (by omega) (by omega)
    refine ⟨fun h => ?_, fun h => ?_⟩
    · have hep : e ≤ p := (nI_leI (by omega) (by omega)).mp h
      rw [z_run_end hep] at hs1 hs0
      refine ⟨fun h1 => ?_, fun h1 => ⟨fun h2 => ?_, fun h2 => ?_⟩⟩
      · have hl := (leq 1 (by decide)).mp h1
        match stk, hl, hsk, hs1 with
        | [v], _, hsk, hs1 => exact hs1 w1 v hwo rfl hsk.1
      · refine hs0 w1 hwo ?_
        have n1 : stk.length ≠ 1 := fun c => h1 ((leq 1 (by decide)).mpr c)
        have n2 : stk.length ≠ 2 := fun c => h2 ((leq 2 (by decide)).mpr c)
        match stk, n1, n2 with
        | [], _, _ => rfl
        | [v], n1, _ => exact absurd rfl n1
        | [t, v], _, n2 => exact absurd rfl n2
        | _ :: _ :: _ :: _, _, _ => rfl
      · have hl := (leq 2 (by decide)).mp h2
        refine ⟨z_kin (k := 1) (z_T28 hS) (by decide) (by decide), ?_⟩
        match stk, hl, hsk, hs1, hs0 with
        | [t, v], _, hsk, hs1, hs0 =>
          have et : w1 28 ((1 : Int32)).toNatClampNeg = t := hsk.1
          rw [et]
          refine ⟨fun c => hs0 w1 hwo ?_, fun c => hs1 w1 v hwo ?_ hsk.2.1⟩
          · rw [z_ceq] at c
            show (if t = 1 then some v else none) = none
            rw [if_neg c]
          · rw [z_ceq] at c
            show (if t = 1 then some v else none) = some v
            rw [if_pos c]
    · have hpe : p < e := by
        rcases Nat.lt_or_ge p e with q | q
        · exact q
        · exact absurd ((nI_leI (by omega) (by omega)).mpr q) h
      obtain ⟨hco, hlt, hw9⟩ := hc p (by omega)
      have hin : kw_in T 1 (r la 2) (nI p) := z_kin hTc (by omega) (by omega)
      rw [nI_clamp (by omega), hco, z_and15 hlt, z_shr4 hlt]
      generalize ho : cd p % 16 = o at *
      generalize hw : cd p / 16 = q at *
      have ho16 : o < 16 := by omega
      have hq : q < 1024 := by omega
      have oeq : ∀ k : Nat, k < 16 → (nI o = nI k ↔ o = k) := fun k hk => nI_eq (by omega) (by omega)
      have go : ∀ (p' : Nat) (stk' : List Int64) (w2 : kw_L), p < p' → p' ≤ 2000 → stk'.length ≤ 50 → z_wo 28 w w2 → z_sk w2 stk' → z_run cd (i 29) e (N + 1) p stk = z_run cd (i 29) e N p' stk' → w_X2_holds_25 24 x1 T n r i Q N (nI e) (nI stk'.length) (nI p') w2 := by
        intro p' stk' w2 h1 h2 h3 h4 h5 h6
        rw [h6] at hs1 hs0
        exact ih p' stk' w2 h2 h3 h4 h5 (by omega) hs1 hs0
      have bad : z_run cd (i 29) e (N + 1) p stk = none → ∀ w', z_wo 28 w w' → Q 0 w' := fun h w' hw' => hs0 w' hw' (by rw [h]; rfl)
      have push : o = 0 ∨ o = 1 → w_X2_holds_71 24 x1 T n r i Q (w_X2_holds_25 24 x1 T n r i Q N) (nI e) (nI stk.length) (nI p) (nI o) (nI q) w1 := by
        intro h01
        unfold w_X2_holds_71
        rw [z_r24_3 hS, z_r24_4 hS]
        refine ⟨fun h50 => ?_, fun h50 => ?_⟩
        · have hl : stk.length < 50 := (nI_ltI (by omega) (by decide)).mp h50
          have fin : ∀ v : Int64, v = (if o = 0 then (nI q).toInt64 else (i 29 q).toInt64) → w_X2_holds_103 24 x1 T n r i Q (w_X2_holds_25 24 x1 T n r i Q N) (nI e) (nI stk.length) (nI p) 28 (nI stk.length) v w1 := by
            intro v hv
            refine ⟨z_kin (z_T28 hS) hl (by decide), fun w2 hw2 => ?_⟩
            show w_X2_holds_25 24 x1 T n r i Q N (nI e) (nI stk.length + 1) (nI p + 1) w2
            rw [nI_1, nI_1]
            rw [nI_clamp (by omega)] at hw2
            refine go (p + 1) (v :: stk) w2 (by omega) (by omega) (by show stk.length + 1 ≤ 50; omega) (by rw [hw2]; exact z_wo_st hwo) ⟨by rw [hw2]; exact kw_st_same, by rw [hw2]; exact z_sk_up hsk (Nat.le_refl _)⟩ ?_
            conv => lhs; unfold z_run
            rw [if_neg (by omega), ho, hw, if_pos h01, if_pos hl, ← hv]
          refine ⟨fun h0 => ?_, fun h0 => ?_⟩
          · have h1 : o = 1 := by
              rcases h01 with c | c
              · exact absurd ((oeq 0 (by decide)).mpr c) h0
              · exact c
            have hq9 := hw9 h1
            refine ⟨z_kin (z_T29 hS) hq9 (by decide), ?_⟩
            rw [nI_clamp (by omega)]
            exact fin _ (by rw [if_neg (by omega)])
          · exact fin _ (by rw [if_pos ((oeq 0 (by decide)).mp h0)])
        · refine bad ?_ w1 hwo
          have hl : ¬ stk.length < 50 := fun c => h50 ((nI_ltI (by omega) (by decide)).mpr c)
          unfold z_run
          rw [if_neg (by omega), ho, if_pos h01, if_neg hl]
      have jump : ∀ x q2, stk = x :: q2 → o = 10 ∨ o = 11 → w_X2_holds_159 24 x1 T n r i Q (w_X2_holds_25 24 x1 T n r i Q N) (nI e) (nI stk.length) (nI p) (nI o) (nI q) w1 := by
        intro x q2 hst2 h10
        subst hst2
        have hlen : (x :: q2).length = q2.length + 1 := rfl
        have hl50 : q2.length + 1 ≤ 50 := hst
        unfold w_X2_holds_159
        rw [z_r24_3 hS, hlen, z_m1, nI_clamp (by omega), hsk.1]
        have key : ∀ y : Int32, y.toInt64 = (if o = 11 then 1 else 0) → w_X2_holds_179 24 x1 T n r i Q (w_X2_holds_25 24 x1 T n r i Q N) (nI e) (nI (q2.length + 1)) (nI p) (nI q) x y w1 := by
          intro y hy
          unfold w_X2_holds_179
          rw [hy]
          refine ⟨fun c => ?_, fun c => ?_⟩
          · rw [z_ceq] at c
            show w_X2_holds_25 24 x1 T n r i Q N (nI e) (nI (q2.length + 1) + (-1 : Int32)) (nI p + 1) w1
            rw [z_m1', nI_1]
            refine go (p + 1) q2 w1 (by omega) (by omega) (by omega) hwo hsk.2 ?_
            conv => lhs; unfold z_run
            rw [if_neg (by omega), ho, hw, if_neg (by omega)]
            dsimp only
            rw [if_neg (by omega), if_pos h10, if_neg c]
          · rw [z_ceq] at c
            show w_X2_holds_25 24 x1 T n r i Q N (nI e) (nI (q2.length + 1)) ((if nI p < nI q - (1 : Int32) then nI q - (1 : Int32) else nI p) + 1) w1
            have em : (if nI p < nI q - (1 : Int32) then nI q - (1 : Int32) else nI p) + 1 = nI (max p (q - 1) + 1) := by
              cases q with
              | zero =>
                have : ¬ nI p < nI 0 - (1 : Int32) := by
                  rw [fa_lt, nI_toInt (by omega)]
                  have : (nI 0 - (1 : Int32)).toInt = -1 := by decide
                  omega
                rw [if_neg this, nI_1]
                congr 1
                omega
              | succ q =>
                rw [z_m1]
                by_cases hlt2 : p < q
                · rw [if_pos (nI_lt hlt2 (by omega)), nI_1]
                  congr 1
                  omega
                · rw [if_neg (fun c => hlt2 ((nI_ltI (by omega) (by omega)).mp c)), nI_1]
                  congr 1
                  omega
            rw [em]
            refine go (max p (q - 1) + 1) (x :: q2) w1 (by omega) (by omega) hl50 hwo hsk ?_
            conv => lhs; unfold z_run
            rw [if_neg (by omega), ho, hw, if_neg (by omega)]
            dsimp only
            rw [if_neg (by omega), if_pos h10, if_pos c]
        refine ⟨z_kin (z_T28 hS) (by omega) (by decide), fun c => key 0 ?_, fun c => key 1 ?_⟩
        · rw [if_neg (fun e11 => c ((oeq 11 (by decide)).mpr e11))]
          rfl
        · rw [if_pos ((oeq 11 (by decide)).mp c)]
          rfl
      refine ⟨hTl, hin, hin, fun h0 => push (Or.inl ((oeq 0 (by decide)).mp h0)), fun h0 => ⟨fun h1 => ⟨fun hx => ?_, fun hx => ?_⟩, fun h1 => push (Or.inr ((oeq 1 (by decide)).mp h1))⟩⟩
      · have n0 : o ≠ 0 := fun c => h0 ((oeq 0 (by decide)).mpr c)
        have n1 : o ≠ 1 := fun c => h1 ((oeq 1 (by decide)).mpr c)
        have hl1 : 1 ≤ stk.length := (nI_leI (a := 1) (by decide) (by omega)).mp hx
        obtain ⟨x, q2, hst2⟩ : ∃ x q2, stk = x :: q2 := by
          cases stk with
          | nil => exact absurd hl1 (by decide)
          | cons x q2 => exact ⟨x, q2, rfl⟩
        refine ⟨fun h9 => ⟨fun h10 => jump x q2 hst2 (Or.inl ((oeq 10 (by decide)).mp h10)), fun h10 => ⟨fun h11 => ⟨fun h2 => ?_, fun h2 => ?_⟩, fun h11 => jump x q2 hst2 (Or.inr ((oeq 11 (by decide)).mp h11))⟩⟩, fun h9 => ?_⟩
        · have n9 : o ≠ 9 := fun c => h9 ((oeq 9 (by decide)).mpr c)
          have n10 : o ≠ 10 := fun c => h10 ((oeq 10 (by decide)).mpr c)
          have n11 : o ≠ 11 := fun c => h11 ((oeq 11 (by decide)).mpr c)
          have hl2 : stk.length < 2 := (nI_ltI (by omega) (by decide)).mp h2
          refine bad ?_ w1 hwo
          subst hst2
          cases q2 with
          | nil =>
            unfold z_run
            rw [if_neg (by omega), ho, if_neg (by omega)]
            dsimp only
            rw [if_neg n9, if_neg (by omega)]
          | cons y q3 => exact absurd hl2 (by simp)
        · have n9 : o ≠ 9 := fun c => h9 ((oeq 9 (by decide)).mpr c)
          have n10 : o ≠ 10 := fun c => h10 ((oeq 10 (by decide)).mpr c)
          have n11 : o ≠ 11 := fun c => h11 ((oeq 11 (by decide)).mpr c)
          have hl2 : ¬ stk.length < 2 := fun c => h2 ((nI_ltI (by omega) (by decide)).mpr c)
          subst hst2
          cases q2 with
          | nil => exact absurd (by show 1 < 2; decide) hl2
          | cons y q3 =>
            have hlen : (x :: y :: q3).length = q3.length + 2 := rfl
            have hl50 : q3.length + 2 ≤ 50 := hst
            rw [hlen]
            have ex : w1 28 (q3.length + 1) = x := hsk.1
            have ey : w1 28 q3.length = y := hsk.2.1
            have hrun : ∀ z, z_comb o y x = z → z_run cd (i 29) e (N + 1) p (x :: y :: q3) = match z with | none => none | some v => z_run cd (i 29) e N (p + 1) (v :: q3) := by
              intro z hz
              conv => lhs; unfold z_run
              rw [if_neg (by omega), ho, if_neg (by omega)]
              dsimp only
              rw [if_neg n9, if_neg (by omega), hz]
            refine z_combine hS ho16 hl50 (fun v hv => ?_) (fun w' hw' hv => ?_)
            · rw [ey, ex] at hv
              refine ⟨fun _ => ?_, fun c => absurd c (by decide)⟩
              show w_X2_holds_25 24 x1 T n r i Q N (nI e) (nI (q3.length + 2) + (-1 : Int32)) (nI p + 1) _
              rw [z_m1', nI_1]
              exact go (p + 1) (v :: q3) _ (by omega) (by omega) (by show q3.length + 1 ≤ 50; omega) (z_wo_st hwo) ⟨kw_st_same, z_sk_up hsk.2.2 (Nat.le_refl _)⟩ (hrun _ hv)
            · rw [ey, ex] at hv
              refine ⟨fun c => absurd rfl c, fun _ => bad (hrun _ hv) w' (fun b hb => (hw' b hb).trans (hwo b hb))⟩
        · have e9 : o = 9 := (oeq 9 (by decide)).mp h9
          subst hst2
          have hlen : (x :: q2).length = q2.length + 1 := rfl
          have hl50 : q2.length + 1 ≤ 50 := hst
          rw [hlen, z_m1, nI_clamp (by omega), hsk.1]
          refine ⟨z_kin (z_T28 hS) (by omega) (by decide), z_kin (z_T28 hS) (by omega) (by decide), fun w2 hw2 => ?_⟩
          show w_X2_holds_25 24 x1 T n r i Q N (nI e) (nI (q2.length + 1)) (nI p + 1) w2
          rw [nI_1]
          refine go (p + 1) ((1 - x) :: q2) w2 (by omega) (by omega) hl50 (by rw [hw2]; exact z_wo_st hwo) ⟨by rw [hw2]; exact kw_st_same, by rw [hw2]; exact z_sk_up hsk.2 (Nat.le_refl _)⟩ ?_
          conv => lhs; unfold z_run
          rw [if_neg (by omega), ho, if_neg (by omega)]
          dsimp only
          rw [if_pos e9]
      · have n0 : o ≠ 0 := fun c => h0 ((oeq 0 (by decide)).mpr c)
        have n1 : o ≠ 1 := fun c => h1 ((oeq 1 (by decide)).mpr c)
        have hl0 : stk = [] := by
          cases stk with
          | nil => rfl
          | cons x q2 => exact absurd (nI_le (a := 1) (by show 1 ≤ q2.length + 1; omega) (by have : q2.length + 1 ≤ 50 := hst; show q2.length + 1 < 2 ^ 31; omega)) hx
        refine bad ?_ w1 hwo
        subst hl0
        unfold z_run
        rw [if_neg (by omega), ho, if_neg (by omega)]
/-- a law object: its code, where its clauses start, how many they are -/
def z_law (T : kw_T) (r : kw_R) (i : kw_I) (la : Nat) (cd st : Nat → Nat) (nc : Nat) : Prop := T la = (0, 1) ∧ r la 1 = la + 1 ∧ r la 2 = la + 2 ∧ nc ≤ 12 ∧ i la 0 = nI nc ∧ T (la + 1) = (1, nc + 1) ∧ (∃ m, T (la + 2) = (1, m) ∧ m ≤ 400 ∧ z_code (i (la + 2)) m cd ∧ ∀ k, k ≤ nc → st k ≤ m) ∧ ∀ k, k ≤ nc → i (la + 1) k = nI (st k)
theorem z_holds (hS : z_S T r) {la nc k : Nat} {cd st : Nat → Nat} (hla : r 24 7 = la) (hl : z_law T r i la cd st nc) (hk : k < nc) (hs1 : ∀ w' v, z_wo 28 w w' → z_clause cd st (i 29) k = some v → w' 28 0 = v → Q 1 w') (hs0 : ∀ w', z_wo 28 w w' → z_clause cd st (i 29) k = none → Q 0 w') : w_X2_holds 24 (nI k) T n r i w Q := by
  obtain ⟨h1, h2, h3, h4, h5, h6, ⟨m, h7, h8, h9, h10⟩, h11⟩ := hl
  unfold w_X2_holds
  rw [hla, h2, nI_1, nI_clamp (by omega), nI_clamp (by omega), h11 k (by omega), h11 (k + 1) (by omega)]
  refine ⟨h1, z_kin h6 (by omega) (by omega), z_kin h6 (by omega) (by omega), st (k + 1) - st k + 1, ?_⟩
  have a1 := h10 k (by omega)
  have a2 := h10 (k + 1) (by omega)
  exact z_holds_loop hS hla h1 (by rw [h3]; exact h7) h8 a2 (by rw [h3]; exact h9) _ (st k) [] w (by omega) (by decide) (fun b _ => rfl) trivial (Nat.le_refl _) hs1 hs0
end ZEV
