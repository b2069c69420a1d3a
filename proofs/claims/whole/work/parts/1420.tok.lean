-- TOKENS OF A TEXT
def z_ltr (b : Nat) : Bool := decide (97 ≤ b ∧ b ≤ 122)
def z_dgt (b : Nat) : Bool := decide (48 ≤ b ∧ b ≤ 57)
def z_spc (b : Nat) : Bool := decide (b = 32)
def z_run1 (P : Nat → Bool) (B : Nat → Nat) (len : Nat) : Nat → Nat → Nat
  | 0, k => k
  | d + 1, k => if k < len ∧ P (B k) = true then z_run1 P B len d (k + 1) else k
/-- the first place from k on where P does not hold -/
def z_adv (P : Nat → Bool) (B : Nat → Nat) (len k : Nat) : Nat := z_run1 P B len (len - k) k
section ZAD
variable {P : Nat → Bool} {B : Nat → Nat} {len k : Nat}
theorem z_adv_step (h : k < len) (hp : P (B k) = true) : z_adv P B len k = z_adv P B len (k + 1) := by
  unfold z_adv
  rw [show len - k = (len - (k + 1)) + 1 by omega]
  exact if_pos ⟨h, hp⟩
theorem z_adv_stop (h : ¬ (k < len ∧ P (B k) = true)) : z_adv P B len k = k := by
  unfold z_adv
  cases hd : len - k with
  | zero => rfl
  | succ d => exact if_neg h
theorem z_adv_all : ∀ (d k : Nat), len - k = d → k ≤ z_adv P B len k ∧ (k ≤ len → z_adv P B len k ≤ len) ∧ (∀ j, k ≤ j → j < z_adv P B len k → P (B j) = true) ∧ (z_adv P B len k < len → P (B (z_adv P B len k)) = false) := by
  intro d
  induction d with
  | zero =>
    intro k hd
    have e : z_adv P B len k = k := z_adv_stop (fun q => by omega)
    rw [e]
    exact ⟨Nat.le_refl _, id, fun j h1 h2 => by omega, fun h => by omega⟩
  | succ d ih =>
    intro k hd
    by_cases q : P (B k) = true
    · rw [z_adv_step (by omega) q]
      obtain ⟨a1, a2, a3, a4⟩ := ih (k + 1) (by omega)
      refine ⟨by omega, fun _ => a2 (by omega), fun j h1 h2 => ?_, a4⟩
      by_cases y : j = k
      · rw [y]; exact q
      · exact a3 j (by omega) h2
    · rw [z_adv_stop (fun y => q y.2)]
      refine ⟨Nat.le_refl _, id, fun j h1 h2 => by omega, fun _ => ?_⟩
      cases hh : P (B k) with
      | true => exact absurd hh q
      | false => rfl
theorem z_adv_ge : k ≤ z_adv P B len k := (z_adv_all _ k rfl).1
theorem z_adv_le (h : k ≤ len) : z_adv P B len k ≤ len := (z_adv_all _ k rfl).2.1 h
end ZAD
/-- where the token from k on ends -/
def z_ten (B : Nat → Nat) (len k : Nat) : Nat := if z_ltr (B k) = true then z_adv z_ltr B len (k + 1) else if z_dgt (B k) = true then z_adv z_dgt B len (k + 1) else k + 1
def z_plc (B : Nat → Nat) (len : Nat) : Nat → Nat
  | 0 => z_adv z_spc B len 0
  | t + 1 => if z_plc B len t < len then z_adv z_spc B len (z_ten B len (z_plc B len t)) else z_plc B len t
def z_te (B : Nat → Nat) (len t : Nat) : Nat := if z_plc B len t < len then z_ten B len (z_plc B len t) else z_plc B len t
def z_kd (B : Nat → Nat) (len p : Nat) : Nat := if p < len then (if z_ltr (B p) = true then 256 else if z_dgt (B p) = true then 257 else B p) else 258
def z_bs (B : Nat → Nat) (k e : Nat) : List Nat := (List.range (e - k)).map (fun a => B (k + a))
def z_wls : List (List Nat) := [[119, 101, 97, 118, 101, 115], [105, 102], [111, 114], [97, 110, 100], [110, 111, 116], [120], [121], [118, 105, 108, 108, 97, 103, 101], [115, 101, 101, 110], [119, 97, 115], [108, 101, 102, 116], [97, 98, 111, 118, 101], [116, 97, 115, 116, 101], [121, 101, 97, 114]]
def z_wcF (l : List Nat) : Nat → Nat → Nat
  | 0, _ => 0
  | d + 1, j => if z_wls.getD j [] = l then j + 1 else z_wcF l d (j + 1)
/-- the number of a word -/
def z_wc (l : List Nat) : Nat := z_wcF l 14 0
def z_nv (B : Nat → Nat) (k : Nat) : Nat → Nat
  | 0 => 0
  | c + 1 => if 1000000 < z_nv B k c then z_nv B k c else 10 * z_nv B k c + (B (k + c) - 48)
def z_tk (B : Nat → Nat) (len t : Nat) : Nat := if z_plc B len t < len then (if z_ltr (B (z_plc B len t)) = true then z_wc (z_bs B (z_plc B len t) (z_te B len t)) else if z_dgt (B (z_plc B len t)) = true then 50 else 100 + B (z_plc B len t)) else 0
def z_vl (B : Nat → Nat) (len t : Nat) : Nat := if z_plc B len t < len ∧ z_dgt (B (z_plc B len t)) = true then z_nv B (z_plc B len t) (z_te B len t - z_plc B len t) else 0
section ZPL
variable {B : Nat → Nat} {len : Nat}
theorem z_ten_gt {k : Nat} : k < z_ten B len k := by
  unfold z_ten
  by_cases q : z_ltr (B k) = true
  · rw [if_pos q]
    have := z_adv_ge (P := z_ltr) (B := B) (len := len) (k := k + 1)
    omega
  · rw [if_neg q]
    by_cases q2 : z_dgt (B k) = true
    · rw [if_pos q2]
      have := z_adv_ge (P := z_dgt) (B := B) (len := len) (k := k + 1)
      omega
    · rw [if_neg q2]
      omega
theorem z_ten_le {k : Nat} (h : k < len) : z_ten B len k ≤ len := by
  unfold z_ten
  by_cases q : z_ltr (B k) = true
  · rw [if_pos q]
    exact z_adv_le (by omega)
  · rw [if_neg q]
    by_cases q2 : z_dgt (B k) = true
    · rw [if_pos q2]
      exact z_adv_le (by omega)
    · rw [if_neg q2]
      omega
theorem z_plc_le : ∀ t, z_plc B len t ≤ len := by
  intro t
  induction t with
  | zero => exact z_adv_le (Nat.zero_le _)
  | succ t ih =>
    show (if z_plc B len t < len then z_adv z_spc B len (z_ten B len (z_plc B len t)) else z_plc B len t) ≤ len
    by_cases q : z_plc B len t < len
    · rw [if_pos q]
      exact z_adv_le (z_ten_le q)
    · rw [if_neg q]
      exact ih
theorem z_te_le (t : Nat) : z_te B len t ≤ len := by
  unfold z_te
  by_cases q : z_plc B len t < len
  · rw [if_pos q]
    exact z_ten_le q
  · rw [if_neg q]
    exact z_plc_le t
theorem z_plc_succ (t : Nat) : z_plc B len (t + 1) = z_adv z_spc B len (z_te B len t) := by
  show (if z_plc B len t < len then z_adv z_spc B len (z_ten B len (z_plc B len t)) else z_plc B len t) = _
  unfold z_te
  by_cases q : z_plc B len t < len
  · rw [if_pos q, if_pos q]
  · rw [if_neg q, if_neg q, z_adv_stop (fun y => q y.1)]
theorem z_plc_gt {t : Nat} (h : z_plc B len t < len) : z_plc B len t < z_plc B len (t + 1) := by
  rw [z_plc_succ]
  unfold z_te
  rw [if_pos h]
  have := z_ten_gt (B := B) (len := len) (k := z_plc B len t)
  have := z_adv_ge (P := z_spc) (B := B) (len := len) (k := z_ten B len (z_plc B len t))
  omega
theorem z_plc_id {t : Nat} (h : z_plc B len t = len) : ∀ d, z_plc B len (t + d) = len := by
  intro d
  induction d with
  | zero => exact h
  | succ d ih =>
    show (if z_plc B len (t + d) < len then _ else z_plc B len (t + d)) = len
    rw [if_neg (by omega)]
    exact ih
/-- how many tokens there are -/
theorem z_sz_ex (B : Nat → Nat) (len : Nat) : ∃ sz, sz ≤ len ∧ (∀ t, t < sz → z_plc B len t < len) ∧ ∀ t, sz ≤ t → z_plc B len t = len := by
  have grow : ∀ t, z_plc B len t = len ∨ t ≤ z_plc B len t := by
    intro t
    induction t with
    | zero => exact Or.inr (Nat.zero_le _)
    | succ t ih =>
      rcases Nat.lt_or_ge (z_plc B len t) len with q | q
      · have := z_plc_gt q
        rcases ih with z | z
        · omega
        · right
          omega
      · left
        exact z_plc_id (by have := z_plc_le (B := B) (len := len) t; omega) 1
  obtain ⟨sz, h1, h2⟩ := pk_least (fun t => z_plc B len t = len) ⟨len, by
    rcases grow len with q | q
    · exact q
    · have := z_plc_le (B := B) (len := len) len
      omega⟩
  refine ⟨sz, ?_, fun t ht => ?_, fun t ht => ?_⟩
  · rcases Nat.lt_or_ge len sz with q | q
    · have := h2 len q
      rcases grow len with z | z
      · exact absurd z this
      · have := z_plc_le (B := B) (len := len) len
        exact absurd (by omega : z_plc B len len = len) (h2 len q)
    · exact q
  · have := h2 t ht
    have := z_plc_le (B := B) (len := len) t
    omega
  · rw [show t = sz + (t - sz) by omega]
    exact z_plc_id h1 _
theorem z_wcF_lt (l : List Nat) : ∀ d j, j + d ≤ 14 → z_wcF l d j ≤ 14 := by
  intro d
  induction d with
  | zero => intro j _; exact Nat.zero_le _
  | succ d ih =>
    intro j hj
    show (if z_wls.getD j [] = l then j + 1 else z_wcF l d (j + 1)) ≤ 14
    by_cases q : z_wls.getD j [] = l
    · rw [if_pos q]; omega
    · rw [if_neg q]; exact ih (j + 1) (by omega)
theorem z_wls_one : ∀ j, j < 14 → ∀ k, k < 14 → z_wls.getD j [] = z_wls.getD k [] → j = k := by decide +kernel
theorem z_wcF_is (l : List Nat) : ∀ d j k, j ≤ k → k < j + d → j + d ≤ 14 → (z_wcF l d j = k + 1 ↔ z_wls.getD k [] = l) := by
  intro d
  induction d with
  | zero => intro j k h1 h2; omega
  | succ d ih =>
    intro j k h1 h2 h3
    show (if z_wls.getD j [] = l then j + 1 else z_wcF l d (j + 1)) = k + 1 ↔ _
    by_cases q : z_wls.getD j [] = l
    · rw [if_pos q]
      constructor
      · intro e
        rw [show k = j by omega]
        exact q
      · intro e
        rw [z_wls_one j (by omega) k (by omega) (q.trans e.symm)]
    · rw [if_neg q]
      by_cases y : j = k
      · subst y
        constructor
        · intro e
          exfalso
          have lo : ∀ d' j', z_wcF l d' j' = 0 ∨ j' < z_wcF l d' j' := by
            intro d'
            induction d' with
            | zero => intro j'; exact Or.inl rfl
            | succ d' ih' =>
              intro j'
              show (if z_wls.getD j' [] = l then j' + 1 else z_wcF l d' (j' + 1)) = 0 ∨ j' < (if z_wls.getD j' [] = l then j' + 1 else z_wcF l d' (j' + 1))
              by_cases z : z_wls.getD j' [] = l
              · rw [if_pos z]; right; omega
              · rw [if_neg z]
                rcases ih' (j' + 1) with w | w
                · exact Or.inl w
                · right; omega
          rcases lo d (j + 1) with w | w <;> omega
        · intro e
          exact absurd e q
      · exact ih (j + 1) k (by omega) (by omega) (by omega)
theorem z_wc_is {l : List Nat} {k : Nat} (hk : k < 14) : z_wc l = k + 1 ↔ z_wls.getD k [] = l := z_wcF_is l 14 0 k (Nat.zero_le _) (by omega) (by omega)
theorem z_wc_le (l : List Nat) : z_wc l ≤ 14 := z_wcF_lt l 14 0 (by omega)
theorem z_bs_eq {k e : Nat} {l : List Nat} : l = z_bs B k e ↔ l.length = e - k ∧ ∀ a, a < l.length → l.getD a 0 = B (k + a) := by
  unfold z_bs
  constructor
  · rintro rfl
    refine ⟨by rw [List.length_map, List.length_range], fun a ha => ?_⟩
    rw [List.length_map, List.length_range] at ha
    rw [List.getD_eq_getElem?_getD, List.getElem?_map, List.getElem?_range ha]
    rfl
  · rintro ⟨h1, h2⟩
    apply List.ext_getElem
    · rw [List.length_map, List.length_range, h1]
    · intro a ha hb
      rw [List.getElem_map, List.getElem_range]
      have := h2 a ha
      rw [List.getD_eq_getElem?_getD, List.getElem?_eq_getElem ha] at this
      exact this
theorem z_tk_lt (hB : ∀ k, B k < 256) (t : Nat) : z_tk B len t < 1000 := by
  unfold z_tk
  by_cases q : z_plc B len t < len
  · rw [if_pos q]
    by_cases q2 : z_ltr (B (z_plc B len t)) = true
    · rw [if_pos q2]
      have := z_wc_le (z_bs B (z_plc B len t) (z_te B len t))
      omega
    · rw [if_neg q2]
      by_cases q3 : z_dgt (B (z_plc B len t)) = true
      · rw [if_pos q3]; omega
      · rw [if_neg q3]
        have := hB (z_plc B len t)
        omega
  · rw [if_neg q]; omega
/-- codes of signs, of words, by kinds -/
theorem z_tk_sign {t c : Nat} (hc : 100 < c) (hc2 : c < 356) : z_tk B len t = c ↔ z_kd B len (z_plc B len t) = c - 100 := by
  unfold z_tk z_kd
  by_cases q : z_plc B len t < len
  · rw [if_pos q, if_pos q]
    by_cases q2 : z_ltr (B (z_plc B len t)) = true
    · rw [if_pos q2, if_pos q2]
      have := z_wc_le (z_bs B (z_plc B len t) (z_te B len t))
      omega
    · rw [if_neg q2, if_neg q2]
      by_cases q3 : z_dgt (B (z_plc B len t)) = true
      · rw [if_pos q3, if_pos q3]; omega
      · rw [if_neg q3, if_neg q3]; omega
  · rw [if_neg q, if_neg q]; omega
theorem z_tk_50 (hB : ∀ k, B k < 256) (t : Nat) : z_tk B len t = 50 ↔ z_kd B len (z_plc B len t) = 257 := by
  unfold z_tk z_kd
  have := hB (z_plc B len t)
  by_cases q : z_plc B len t < len
  · rw [if_pos q, if_pos q]
    by_cases q2 : z_ltr (B (z_plc B len t)) = true
    · rw [if_pos q2, if_pos q2]
      have := z_wc_le (z_bs B (z_plc B len t) (z_te B len t))
      omega
    · rw [if_neg q2, if_neg q2]
      by_cases q3 : z_dgt (B (z_plc B len t)) = true
      · rw [if_pos q3, if_pos q3]; omega
      · rw [if_neg q3, if_neg q3]; omega
  · rw [if_neg q, if_neg q]; omega
/-- a word has the kind of letters -/
theorem z_tk_word (hB : ∀ k, B k < 256) {t k : Nat} (hk : k < 14) : z_tk B len t = k + 1 ↔ z_kd B len (z_plc B len t) = 256 ∧ z_wls.getD k [] = z_bs B (z_plc B len t) (z_te B len t) := by
  unfold z_tk z_kd
  have := hB (z_plc B len t)
  by_cases q : z_plc B len t < len
  · rw [if_pos q, if_pos q]
    by_cases q2 : z_ltr (B (z_plc B len t)) = true
    · rw [if_pos q2, if_pos q2, z_wc_is hk]
      exact ⟨fun h => ⟨rfl, h⟩, fun h => h.2⟩
    · rw [if_neg q2, if_neg q2]
      by_cases q3 : z_dgt (B (z_plc B len t)) = true
      · rw [if_pos q3, if_pos q3]
        exact ⟨fun h => by omega, fun h => by have := h.1; omega⟩
      · rw [if_neg q3, if_neg q3]
        exact ⟨fun h => by omega, fun h => by have := h.1; omega⟩
  · rw [if_neg q, if_neg q]
    exact ⟨fun h => by omega, fun h => by have := h.1; omega⟩
theorem z_kd_end (hB : ∀ k, B k < 256) (t : Nat) : z_kd B len (z_plc B len t) = 258 ↔ z_plc B len t = len := by
  unfold z_kd
  have := hB (z_plc B len t)
  have := z_plc_le (B := B) (len := len) t
  by_cases q : z_plc B len t < len
  · rw [if_pos q]
    by_cases q2 : z_ltr (B (z_plc B len t)) = true
    · rw [if_pos q2]; omega
    · rw [if_neg q2]
      by_cases q3 : z_dgt (B (z_plc B len t)) = true
      · rw [if_pos q3]; omega
      · rw [if_neg q3]; omega
  · rw [if_neg q]; omega
theorem z_kd_lt (hB : ∀ k, B k < 256) (p : Nat) : z_kd B len p < 259 := by
  unfold z_kd
  have := hB p
  by_cases q : p < len
  · rw [if_pos q]
    by_cases q2 : z_ltr (B p) = true
    · rw [if_pos q2]; omega
    · rw [if_neg q2]
      by_cases q3 : z_dgt (B p) = true
      · rw [if_pos q3]; omega
      · rw [if_neg q3]; omega
  · rw [if_neg q]; omega
end ZPL
