-- SEAMS OF A PICTURE WITH HOLES
def z_one (k A c : Nat) : Nat := if c = k then A else 0
theorem z_one_sum {k A : Nat} : fb_sm (z_one k A) 36 = if k < 36 then A else 0 := by
  by_cases q : k < 36
  · have h := fb_sm_upd (fun _ => 0) A q
    rw [fb_sm_const] at h
    rw [if_pos q]
    have e : fb_sm (fun k' => if k' = k then A else (fun _ => 0) k') 36 = fb_sm (z_one k A) 36 := rfl
    rw [e] at h
    omega
  · rw [if_neg q]
    have h := fb_sm_out (fun _ => 0) A (i := k) (n := 36) (by omega)
    rw [fb_sm_const] at h
    exact h
/-- seams around a cell of the colour x -/
def z_ar (g : Nat → Int32) (x : Int32) (c : Nat) : Nat := (if c % 6 ≠ 0 ∧ g (c - 1) ≠ -1 ∧ g (c - 1) ≠ x then 1 else 0) + (if c % 6 < 5 ∧ g (c + 1) ≠ -1 ∧ g (c + 1) ≠ x then 1 else 0) + (if 6 ≤ c ∧ g (c - 6) ≠ -1 ∧ g (c - 6) ≠ x then 1 else 0) + (if c + 6 < 36 ∧ g (c + 6) ≠ -1 ∧ g (c + 6) ≠ x then 1 else 0)
theorem z_ar_le (g : Nat → Int32) (x : Int32) (c : Nat) : z_ar g x c ≤ 4 := by
  unfold z_ar
  split <;> split <;> split <;> split <;> omega
theorem z_sm9_set {g g' : Nat → Int32} {k : Nat} {x : Int32} (hk : k < 36) (hg : g k = -1) (hx : x ≠ -1) (hg' : ∀ c, g' c = if c = k then x else g c) : z_sm9 g' 36 = z_sm9 g 36 + z_ar g' x k := by
  have ek : g' k = x := by rw [hg', if_pos rfl]
  have eo : ∀ c, c ≠ k → g' c = g c := fun c hc => by rw [hg', if_neg hc]
  have key : z_sm9 g' 36 = fb_sm (fun c => ((if g c = -1 then 0 else z_s9 g c) + z_one k (z_s9 g' k) c) + (z_one (k + 1) (if k % 6 < 5 ∧ g (k + 1) ≠ -1 ∧ g (k + 1) ≠ x then 1 else 0) c + z_one (k + 6) (if g (k + 6) ≠ -1 ∧ g (k + 6) ≠ x then 1 else 0) c)) 36 := by
    refine fb_sm_cong (fun c hc => ?_)
    show (if g' c = -1 then 0 else z_s9 g' c) = _
    unfold z_one
    by_cases c1 : c = k
    · subst c1
      rw [ek, if_neg hx, hg, if_pos rfl, if_pos rfl, if_neg (by omega), if_neg (by omega)]
      omega
    · rw [if_neg c1, eo c c1]
      by_cases c2 : c = k + 1
      · subst c2
        rw [if_pos (show k + 1 = k + 1 from rfl), if_neg (show ¬ k + 1 = k + 6 by omega)]
        by_cases h1 : g (k + 1) = -1
        · rw [if_pos h1, if_pos h1, if_neg (fun z => z.2.1 h1)]
        · rw [if_neg h1, if_neg h1]
          unfold z_s9
          rw [eo (k + 1) (by omega), show k + 1 - 1 = k by omega, ek, hg]
          have e1 : (if (k + 1) % 6 ≠ 0 ∧ (-1 : Int32) ≠ -1 ∧ (-1 : Int32) ≠ g (k + 1) then 1 else 0) = 0 := if_neg (fun z => z.2.1 rfl)
          rw [e1]
          have e2 : (if (k + 1) % 6 ≠ 0 ∧ x ≠ -1 ∧ x ≠ g (k + 1) then 1 else 0) = (if k % 6 < 5 ∧ g (k + 1) ≠ -1 ∧ g (k + 1) ≠ x then 1 else 0) := by
            by_cases y : (k + 1) % 6 ≠ 0 ∧ x ≠ g (k + 1)
            · rw [if_pos ⟨y.1, hx, y.2⟩, if_pos ⟨by omega, h1, fun z => y.2 z.symm⟩]
            · rw [if_neg (fun z => y ⟨z.1, z.2.2⟩), if_neg (fun z => y ⟨by omega, fun q => z.2.2 q.symm⟩)]
          rw [e2]
          have e3 : (if 6 ≤ k + 1 ∧ g' (k + 1 - 6) ≠ -1 ∧ g' (k + 1 - 6) ≠ g (k + 1) then 1 else 0) = (if 6 ≤ k + 1 ∧ g (k + 1 - 6) ≠ -1 ∧ g (k + 1 - 6) ≠ g (k + 1) then 1 else 0) := by
            by_cases y : 6 ≤ k + 1
            · rw [eo (k + 1 - 6) (by omega)]
            · rw [if_neg (fun z => y z.1), if_neg (fun z => y z.1)]
          rw [e3]
          omega
      · rw [if_neg c2]
        by_cases c3 : c = k + 6
        · subst c3
          rw [if_pos (show k + 6 = k + 6 from rfl)]
          by_cases h1 : g (k + 6) = -1
          · rw [if_pos h1, if_pos h1, if_neg (fun z => z.1 h1)]
          · rw [if_neg h1, if_neg h1]
            unfold z_s9
            rw [eo (k + 6) (by omega), show k + 6 - 6 = k by omega, ek, hg, eo (k + 6 - 1) (by omega)]
            have e1 : (if 6 ≤ k + 6 ∧ (-1 : Int32) ≠ -1 ∧ (-1 : Int32) ≠ g (k + 6) then 1 else 0) = 0 := if_neg (fun z => z.2.1 rfl)
            rw [e1]
            have e2 : (if 6 ≤ k + 6 ∧ x ≠ -1 ∧ x ≠ g (k + 6) then 1 else 0) = (if g (k + 6) ≠ -1 ∧ g (k + 6) ≠ x then 1 else 0) := by
              by_cases y : x = g (k + 6)
              · rw [if_neg (fun z => z.2.2 y), if_neg (fun z => z.2 y.symm)]
              · rw [if_pos ⟨by omega, hx, y⟩, if_pos ⟨h1, fun z => y z.symm⟩]
            rw [e2]
            omega
        · rw [if_neg c3]
          by_cases h1 : g c = -1
          · rw [if_pos h1, if_pos h1]
          · rw [if_neg h1, if_neg h1]
            unfold z_s9
            rw [eo c c1]
            have e1 : (if c % 6 ≠ 0 ∧ g' (c - 1) ≠ -1 ∧ g' (c - 1) ≠ g c then 1 else 0) = (if c % 6 ≠ 0 ∧ g (c - 1) ≠ -1 ∧ g (c - 1) ≠ g c then 1 else 0) := by
              by_cases y : c % 6 ≠ 0
              · rw [eo (c - 1) (by omega)]
              · rw [if_neg (fun z => y z.1), if_neg (fun z => y z.1)]
            have e3 : (if 6 ≤ c ∧ g' (c - 6) ≠ -1 ∧ g' (c - 6) ≠ g c then 1 else 0) = (if 6 ≤ c ∧ g (c - 6) ≠ -1 ∧ g (c - 6) ≠ g c then 1 else 0) := by
              by_cases y : 6 ≤ c
              · rw [eo (c - 6) (by omega)]
              · rw [if_neg (fun z => y z.1), if_neg (fun z => y z.1)]
            rw [e1, e3]
            rfl
  have s1 := fb_sm_add (fun c => (if g c = -1 then 0 else z_s9 g c) + z_one k (z_s9 g' k) c) (fun c => z_one (k + 1) (if k % 6 < 5 ∧ g (k + 1) ≠ -1 ∧ g (k + 1) ≠ x then 1 else 0) c + z_one (k + 6) (if g (k + 6) ≠ -1 ∧ g (k + 6) ≠ x then 1 else 0) c) 36
  have s2 := fb_sm_add (fun c => (if g c = -1 then 0 else z_s9 g c)) (z_one k (z_s9 g' k)) 36
  have s3 := fb_sm_add (z_one (k + 1) (if k % 6 < 5 ∧ g (k + 1) ≠ -1 ∧ g (k + 1) ≠ x then 1 else 0)) (z_one (k + 6) (if g (k + 6) ≠ -1 ∧ g (k + 6) ≠ x then 1 else 0)) 36
  rw [z_one_sum, if_pos hk] at s2
  rw [z_one_sum, z_one_sum] at s3
  have e9 : z_s9 g' k = (if k % 6 ≠ 0 ∧ g' (k - 1) ≠ -1 ∧ g' (k - 1) ≠ x then 1 else 0) + (if 6 ≤ k ∧ g' (k - 6) ≠ -1 ∧ g' (k - 6) ≠ x then 1 else 0) := by
    unfold z_s9
    rw [ek]
  have b1 : (if k + 1 < 36 then (if k % 6 < 5 ∧ g (k + 1) ≠ -1 ∧ g (k + 1) ≠ x then 1 else 0) else 0) = (if k % 6 < 5 ∧ g' (k + 1) ≠ -1 ∧ g' (k + 1) ≠ x then 1 else 0) := by
    rw [eo (k + 1) (by omega)]
    by_cases y : k + 1 < 36
    · rw [if_pos y]
    · rw [if_neg y, if_neg (fun z => by omega)]
  have b2 : (if k + 6 < 36 then (if g (k + 6) ≠ -1 ∧ g (k + 6) ≠ x then 1 else 0) else 0) = (if k + 6 < 36 ∧ g' (k + 6) ≠ -1 ∧ g' (k + 6) ≠ x then 1 else 0) := by
    rw [eo (k + 6) (by omega)]
    by_cases y : k + 6 < 36
    · rw [if_pos y]
      by_cases y2 : g (k + 6) ≠ -1 ∧ g (k + 6) ≠ x
      · rw [if_pos y2, if_pos ⟨y, y2⟩]
      · rw [if_neg y2, if_neg (fun z => y2 z.2)]
    · rw [if_neg y, if_neg (fun z => y z.1)]
  rw [key, s1, s2, s3, b1, b2, e9]
  unfold z_ar z_sm9
  omega
theorem z_sm9_mono {g g' : Nat → Int32} (h : ∀ c, c < 36 → g c ≠ -1 → g' c = g c) : z_sm9 g 36 ≤ z_sm9 g' 36 := by
  refine fb_sm_le (fun c hc => ?_)
  by_cases h1 : g c = -1
  · rw [if_pos h1]
    exact Nat.zero_le _
  · rw [if_neg h1, h c hc h1, if_neg h1]
    unfold z_s9
    rw [h c hc h1]
    have a : (if c % 6 ≠ 0 ∧ g (c - 1) ≠ -1 ∧ g (c - 1) ≠ g c then 1 else 0) ≤ (if c % 6 ≠ 0 ∧ g' (c - 1) ≠ -1 ∧ g' (c - 1) ≠ g c then 1 else 0) := by
      by_cases y : c % 6 ≠ 0 ∧ g (c - 1) ≠ -1 ∧ g (c - 1) ≠ g c
      · rw [if_pos y, if_pos (by rw [h (c - 1) (by omega) y.2.1]; exact y)]
        exact Nat.le_refl _
      · rw [if_neg y]
        exact Nat.zero_le _
    have b : (if 6 ≤ c ∧ g (c - 6) ≠ -1 ∧ g (c - 6) ≠ g c then 1 else 0) ≤ (if 6 ≤ c ∧ g' (c - 6) ≠ -1 ∧ g' (c - 6) ≠ g c then 1 else 0) := by
      by_cases y : 6 ≤ c ∧ g (c - 6) ≠ -1 ∧ g (c - 6) ≠ g c
      · rw [if_pos y, if_pos (by rw [h (c - 6) (by omega) y.2.1]; exact y)]
        exact Nat.le_refl _
      · rw [if_neg y]
        exact Nat.zero_le _
    exact Nat.add_le_add a b
theorem z_sm9_eq {g g' : Nat → Int32} (h : ∀ c, c < 36 → g' c = g c) : z_sm9 g' 36 = z_sm9 g 36 := Nat.le_antisymm (z_sm9_mono (fun c hc _ => (h c hc).symm)) (z_sm9_mono (fun c hc _ => h c hc))
/-- a picture has 60 sides between two cells -/
theorem z_sm9_le60 (g : Nat → Int32) : z_sm9 g 36 ≤ 60 := by
  have h : z_sm9 g 36 ≤ fb_sm (fun c => (if c % 6 = 0 then 0 else 1) + (if 6 ≤ c then 1 else 0)) 36 := by
    refine fb_sm_le (fun c _ => ?_)
    by_cases h1 : g c = -1
    · rw [if_pos h1]
      exact Nat.zero_le _
    · rw [if_neg h1]
      unfold z_s9
      have a : (if c % 6 ≠ 0 ∧ g (c - 1) ≠ -1 ∧ g (c - 1) ≠ g c then 1 else 0) ≤ (if c % 6 = 0 then 0 else 1) := by
        by_cases y : c % 6 = 0
        · rw [if_pos y, if_neg (fun z => z.1 y)]
          exact Nat.le_refl _
        · rw [if_neg y]
          split <;> omega
      have b : (if 6 ≤ c ∧ g (c - 6) ≠ -1 ∧ g (c - 6) ≠ g c then 1 else 0) ≤ (if 6 ≤ c then 1 else 0) := by
        by_cases y : 6 ≤ c
        · rw [if_pos y]
          split <;> omega
        · rw [if_neg y, if_neg (fun z => y z.1)]
          exact Nat.le_refl _
      exact Nat.add_le_add a b
  exact Nat.le_trans h (by decide)
-- PICTURES WITH SOME CELLS PUT
def z_fl (f : Nat → Nat) (P : Nat → Int32) (x : Nat → Int32) : Nat → Nat → Int32
  | 0 => P
  | a + 1 => fun c => if c = f a then x a else z_fl f P x a c
/-- the a-th of i digits of q -/
def z_dg8 (i q a : Nat) : Nat := q / 8 ^ (i - 1 - a) % 8
def z_xs (i q : Nat) : Nat → Int32 := fun a => if a < i then nI (z_dg8 i q a) else -1
section ZFI
variable {f : Nat → Nat} {P : Nat → Int32} {x x' : Nat → Int32} {m : Nat}
theorem z_fl_at (hso : ∀ a b, a < b → b < m → f a < f b) {a : Nat} (ha : a < m) : z_fl f P x m (f a) = x a := by
  induction m with
  | zero => omega
  | succ m ih =>
    show (if f a = f m then x m else z_fl f P x m (f a)) = x a
    by_cases q : a = m
    · rw [q, if_pos rfl]
    · have := hso a m (by omega) (by omega)
      rw [if_neg (by omega)]
      exact ih (fun a b h1 h2 => hso a b h1 (by omega)) (by omega)
theorem z_fl_off {c : Nat} (h : ∀ a, a < m → f a ≠ c) : z_fl f P x m c = P c := by
  induction m with
  | zero => rfl
  | succ m ih =>
    show (if c = f m then x m else z_fl f P x m c) = P c
    rw [if_neg (fun e => h m (by omega) e.symm)]
    exact ih (fun a ha => h a (by omega))
theorem z_fl_ch (hso : ∀ a b, a < b → b < m → f a < f b) {i : Nat} (hi : i < m) (hx : ∀ a, a < m → a ≠ i → x' a = x a) (c : Nat) : z_fl f P x' m c = if c = f i then x' i else z_fl f P x m c := by
  by_cases q : ∃ a, a < m ∧ f a = c
  · obtain ⟨a, ha, rfl⟩ := q
    rw [z_fl_at hso ha, z_fl_at hso ha]
    by_cases y : a = i
    · rw [y, if_pos rfl]
    · rw [hx a ha y, if_neg]
      intro e
      rcases Nat.lt_or_ge a i with z | z
      · have := hso a i z hi
        omega
      · have := hso i a (by omega) ha
        omega
  · have h : ∀ a, a < m → f a ≠ c := fun a ha e => q ⟨a, ha, e⟩
    rw [z_fl_off h, z_fl_off h, if_neg (fun e => h i hi e.symm)]
end ZFI
theorem z_dg8_0 {i q a c : Nat} (ha : a < i) (hc : c < 8) : z_dg8 (i + 1) (8 * q + c) a = z_dg8 i q a := by
  unfold z_dg8
  rw [show i + 1 - 1 - a = (i - 1 - a) + 1 by omega, Nat.pow_succ, Nat.mul_comm (8 ^ (i - 1 - a)) 8, ← Nat.div_div_eq_div_mul, show (8 * q + c) / 8 = q by omega]
theorem z_dg8_1 {i q c : Nat} (hc : c < 8) : z_dg8 (i + 1) (8 * q + c) i = c := by
  unfold z_dg8
  rw [show i + 1 - 1 - i = 0 by omega, Nat.pow_zero, Nat.div_one]
  omega
theorem z_dg8_lt (i q a : Nat) : z_dg8 i q a < 8 := Nat.mod_lt _ (by decide)
theorem z_xs_ch {i q c : Nat} (hc : c < 8) {a : Nat} (ha : a ≠ i) : z_xs (i + 1) (8 * q + c) a = z_xs i q a := by
  unfold z_xs
  by_cases y : a < i
  · rw [if_pos (by omega), if_pos y, z_dg8_0 y hc]
  · rw [if_neg (by omega), if_neg y]
/-- seams behind some first cells put -/
def z_Sq (f : Nat → Nat) (P : Nat → Int32) (m i q : Nat) : Nat := z_sm9 (z_fl f P (z_xs i q) m) 36
def z_Fk (f : Nat → Nat) (P : Nat → Int32) (m k : Nat) : Nat := 100 - z_Sq f P m m k
theorem z_Sq_le (f : Nat → Nat) (P : Nat → Int32) (m i q : Nat) : z_Sq f P m i q ≤ 60 := z_sm9_le60 _
def z_tt (_ : Nat) : Bool := true
theorem z_best_keepN {p : Nat → Bool} {f : Nat → Nat} {k : Nat} {M : Nat} (h : z_best p f M (some k)) : ∀ d, (∀ k', M ≤ k' → k' < M + d → f k' ≤ f k) → z_best p f (M + d) (some k) := by
  intro d
  induction d with
  | zero => exact fun _ => h
  | succ d ih => exact fun hk => z_best_keep (m := M + d) (ih (fun k' h1 h2 => hk k' h1 (by omega))) (hk (M + d) (by omega) (by omega))
/-- all that begins so has no fewer seams -/
theorem z_Sq_mono {f : Nat → Nat} {P : Nat → Int32} {m : Nat} (hso : z_so f m) : ∀ (r i q k : Nat), i + r = m → q * 8 ^ r ≤ k → k < (q + 1) * 8 ^ r → z_Sq f P m i q ≤ z_Sq f P m m k := by
  intro r i q k hr h1 h2
  refine z_sm9_mono (fun c hc hne => ?_)
  by_cases y : ∃ a, a < m ∧ f a = c
  · obtain ⟨a, ha, rfl⟩ := y
    rw [z_fl_at hso.1 ha] at hne ⊢
    rw [z_fl_at hso.1 ha]
    unfold z_xs at hne ⊢
    by_cases z : a < i
    · rw [if_pos ha, if_pos z]
      congr 1
      unfold z_dg8
      have e : 8 ^ (m - 1 - a) = 8 ^ r * 8 ^ (i - 1 - a) := by rw [← Nat.pow_add]; congr 1; omega
      rw [e, ← Nat.div_div_eq_div_mul]
      have hp : 0 < 8 ^ r := Nat.pow_pos (by decide)
      have : k / 8 ^ r = q := by
        rw [Nat.div_eq_iff hp]
        rw [Nat.succ_mul] at h2
        omega
      rw [this]
    · rw [if_neg z] at hne
      exact absurd rfl hne
  · have h : ∀ a, a < m → f a ≠ c := fun a ha e => y ⟨a, ha, e⟩
    rw [z_fl_off h, z_fl_off h]
