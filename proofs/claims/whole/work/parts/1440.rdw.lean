-- WORDS, NUMBERS, STEPS OF CODE
def z_pm : List Nat := [0, 5, 6, 7, 8, 9, 10, 11, 12, 13, 1, 4, 3, 2]
theorem z_pm_ok : ∀ j, j < 14 → z_pm.getD j 0 < 14 ∧ kw_len.getD j 0 = (z_wls.getD (z_pm.getD j 0) []).length ∧ (z_wls.getD (z_pm.getD j 0) []).length < 8 := by decide +kernel
theorem z_pm_tx : ∀ j, j < 14 → ∀ a, a < 8 → a < kw_len.getD j 0 → (kw_txt.getD j []).getD a 0 = nI ((z_wls.getD (z_pm.getD j 0) []).getD a 0) ∧ (z_wls.getD (z_pm.getD j 0) []).getD a 0 < 256 := by decide +kernel
theorem z_t2' {A B : Prop} (h : B) : ((1 : Int32) = 0 → A) ∧ (¬ (1 : Int32) = 0 → B) := z_t h
theorem z_f' {A B : Prop} (h : A) : ((0 : Int32) = 0 → A) ∧ (¬ (0 : Int32) = 0 → B) := z_f h
section ZRW
variable {T : kw_T} {n : Nat} {r : kw_R} {i i0 : kw_I} {w : kw_L} {B : Nat → Nat} {len t m s : Nat} {cd : Nat → Nat}
theorem z_isWord4 (hx : z_cx4 T r B len) (h : z_RS i0 i B len t m s cd) {j : Nat} (hj : j < 14) {Q : Int32 → Prop} (ht : z_tk B len t = z_pm.getD j 0 + 1 → Q 1) (hf : z_tk B len t ≠ z_pm.getD j 0 + 1 → Q 0) : w_X4_isWord 20 (kw_SB + j) T n r i w Q := by
  obtain ⟨hS, hr2, hl, hB⟩ := hx
  obtain ⟨h1, ⟨a1, a2, a3⟩, h3, h4, h5, h6, h7⟩ := h
  obtain ⟨p1, p2, p3⟩ := z_pm_ok j hj
  have hw := z_tk_word (len := len) hB (t := t) p1
  have kl := z_kd_lt (len := len) hB (z_plc B len t)
  have hst : kw_str (kw_SB + j) := ⟨by omega, by omega⟩
  have esl : kw_slen (kw_SB + j) = nI (kw_len.getD j 0) := by
    unfold kw_slen
    rw [show kw_SB + j - kw_SB = j by omega]
  unfold w_X4_isWord
  rw [a1, a2, a3, esl]
  refine ⟨fun q => hf (fun z => q (by rw [(hw.mp z).1]; rfl)), fun q => ⟨hst, fun q2 => ?_, fun q2 => hf (fun z => q2 ?_)⟩⟩
  all_goals
    have k256 : z_kd B len (z_plc B len t) = 256 := (nI_eq (b := 256) (by omega) (by decide)).mp q
    have hpl : z_plc B len t < len := by
      unfold z_kd at k256
      by_cases y : z_plc B len t < len
      · exact y
      · rw [if_neg y] at k256
        omega
    have hte : z_te B len t = z_ten B len (z_plc B len t) := if_pos hpl
    have hgt := z_ten_gt (B := B) (len := len) (k := z_plc B len t)
    have hle := z_te_le (B := B) (len := len) t
    have esub : nI (z_te B len t) - nI (z_plc B len t) = nI (z_te B len t - z_plc B len t) := pk_sub (by omega)
  · rw [esub] at q2
    have el := (nI_eq (by omega) (by omega)).mp q2
    refine ⟨kw_len.getD j 0 + 1, ?_⟩
    have loop : ∀ (d a : Nat), a + d = kw_len.getD j 0 → (∀ a', a' < a → (z_wls.getD (z_pm.getD j 0) []).getD a' 0 = B (z_plc B len t + a')) → w_X4_isWord_30 20 (kw_SB + j) T n r i w Q (d + 1) (nI a) := by
      intro d
      induction d with
      | zero =>
        intro a ha g
        show s_X4_isWord_30 20 (kw_SB + j) T n r i w Q _ (nI a)
        unfold s_X4_isWord_30
        rw [esl]
        refine ⟨hst, fun _ => ht (hw.mpr ⟨k256, z_bs_eq.mpr ⟨by omega, fun a' ha' => g a' (by omega)⟩⟩), fun y => absurd (nI_le (by omega) (by omega)) y⟩
      | succ d ih =>
        intro a ha g
        show s_X4_isWord_30 20 (kw_SB + j) T n r i w Q _ (nI a)
        unfold s_X4_isWord_30
        obtain ⟨t1, t2⟩ := z_pm_tx j hj a (by omega) (by omega)
        have ech : kw_schr (kw_SB + j) (nI a) = nI ((z_wls.getD (z_pm.getD j 0) []).getD a 0) := by
          unfold kw_schr
          rw [show kw_SB + j - kw_SB = j by omega, nI_clamp (by omega)]
          exact t1
        have e19 : i 19 (z_plc B len t + a) = nI (B (z_plc B len t + a)) := by rw [h1.1 19 (by decide) (by decide)]; exact h1.2.1 _ (by omega)
        have hb := hB (z_plc B len t + a)
        rw [esl, hr2, a1, nI_add, nI_clamp (by omega), e19, ech, nI_1]
        refine ⟨hst, fun y => absurd y (nI_ge (by omega) (by omega)), fun _ => ⟨z_kin (z_T19 hS) (by omega) (by decide), ⟨hst, by rw [show kw_SB + j - kw_SB = j by omega]; exact vp_in_nI (by omega) (by omega)⟩, fun y => ih (a + 1) (by omega) (fun a' ha' => ?_), fun y => hf (fun z => y ?_)⟩⟩
        · by_cases y2 : a' = a
          · rw [y2]
            exact ((nI_eq (by omega) (by omega)).mp y).symm
          · exact g a' (by omega)
        · have := (z_bs_eq.mp (hw.mp z).2).2 a (by omega)
          rw [this]
    exact loop (kw_len.getD j 0) 0 (by omega) (fun a' ha' => absurd ha' (Nat.not_lt_zero a'))
  · rw [esub]
    have := (z_bs_eq.mp (hw.mp z).2).1
    rw [p2, this]
theorem z_isWordX (h : z_RX i0 i B len t) {a : Nat} {Q : Int32 → Prop} (hf : Q 0) : w_X4_isWord 20 a T n r i w Q := by
  unfold w_X4_isWord
  rw [h.2.1]
  exact ⟨fun _ => hf, fun q => absurd q (by decide)⟩
theorem z_takeW4 (hx : z_cx4 T r B len) (h : z_RS i0 i B len t m s cd) {j : Nat} (hj : j < 14) {Q : Int32 → kw_I → Prop} (ht : z_tk B len t = z_pm.getD j 0 + 1 → ∀ i', z_RS i0 i' B len (t + 1) m s cd → Q 1 i') (hf : z_tk B len t ≠ z_pm.getD j 0 + 1 → Q 0 i) : w_X4_takeWord 20 (kw_SB + j) T n r i w Q := z_isWord4 hx h hj (fun e => z_t2 (z_stepT hx h (fun i' hi => ht e i' hi))) (fun e => z_f2 (hf e))
theorem z_takeWX (h : z_RX i0 i B len t) {a : Nat} {Q : Int32 → kw_I → Prop} (hf : Q 0 i) : w_X4_takeWord 20 a T n r i w Q := z_isWordX h (z_f2 hf)
theorem z_takeS4 (hx : z_cx4 T r B len) (h : z_RS i0 i B len t m s cd) {c : Nat} (hc : 0 < c) (hc2 : c < 256) {Q : kw_I → Prop} (ht : z_tk B len t = 100 + c → ∀ i', z_RS i0 i' B len (t + 1) m s cd → Q i') (hf : z_tk B len t ≠ 100 + c → ∀ i', z_RX i0 i' B len t → Q i') : w_X4_takeSign 20 (nI c) T n r i w Q := by
  have hB := hx.2.2.2
  have kl := z_kd_lt (len := len) hB (z_plc B len t)
  have hs := z_tk_sign (B := B) (len := len) (t := t) (c := 100 + c) (by omega) (by omega)
  rw [show 100 + c - 100 = c by omega] at hs
  unfold w_X4_takeSign
  rw [h.2.1.2.2]
  refine ⟨fun q => z_stickT h (hf (fun z => q (by rw [hs.mp z]))), fun q => z_stepT hx h (ht (hs.mpr ((nI_eq (by omega) (by omega)).mp q)))⟩
theorem z_takeSX (ht : z_plc B len t < 2 ^ 31) (h : z_RX i0 i B len t) {c : Nat} (hc2 : c < 256) {Q : kw_I → Prop} (hf : ∀ i', z_RX i0 i' B len t → Q i') : w_X4_takeSign 20 (nI c) T n r i w Q := by
  unfold w_X4_takeSign
  rw [h.2.1]
  exact ⟨fun _ => z_stickX ht h hf, fun q => absurd ((nI_eq (by decide) (by omega)).mp q) (by omega)⟩
theorem z_word4 (hx : z_cx4 T r B len) (h : z_RS i0 i B len t m s cd) {Q : Int32 → Prop} (h1 : 6 ≤ z_tk B len t → z_tk B len t ≤ 14 → Q (nI (z_tk B len t - 6))) (h0 : ¬ (6 ≤ z_tk B len t ∧ z_tk B len t ≤ 14) → Q (-1)) : w_X4_word 20 T n r i w Q := by
  have is : ∀ k, 6 ≤ k → k ≤ 14 → z_tk B len t = k → Q (nI (k - 6)) := fun k k1 k2 e => by rw [e] at h1; exact h1 k1 k2
  refine z_isWord4 hx h (j := 1) (by decide) (fun e => z_t2' (is 6 (by decide) (by decide) e)) (fun e1 => z_f' ?_)
  refine z_isWord4 hx h (j := 2) (by decide) (fun e => z_t2' (is 7 (by decide) (by decide) e)) (fun e2 => z_f' ?_)
  refine z_isWord4 hx h (j := 3) (by decide) (fun e => z_t2' (is 8 (by decide) (by decide) e)) (fun e3 => z_f' ?_)
  refine z_isWord4 hx h (j := 4) (by decide) (fun e => z_t2' (is 9 (by decide) (by decide) e)) (fun e4 => z_f' ?_)
  refine z_isWord4 hx h (j := 5) (by decide) (fun e => z_t2' (is 10 (by decide) (by decide) e)) (fun e5 => z_f' ?_)
  refine z_isWord4 hx h (j := 6) (by decide) (fun e => z_t2' (is 11 (by decide) (by decide) e)) (fun e6 => z_f' ?_)
  refine z_isWord4 hx h (j := 7) (by decide) (fun e => z_t2' (is 12 (by decide) (by decide) e)) (fun e7 => z_f' ?_)
  refine z_isWord4 hx h (j := 8) (by decide) (fun e => z_t2' (is 13 (by decide) (by decide) e)) (fun e8 => z_f' ?_)
  refine z_isWord4 hx h (j := 9) (by decide) (fun e => z_t2' (is 14 (by decide) (by decide) e)) (fun e9 => z_f' (h0 ?_))
  have e1 : z_tk B len t ≠ 6 := e1
  have e2 : z_tk B len t ≠ 7 := e2
  have e3 : z_tk B len t ≠ 8 := e3
  have e4 : z_tk B len t ≠ 9 := e4
  have e5 : z_tk B len t ≠ 10 := e5
  have e6 : z_tk B len t ≠ 11 := e6
  have e7 : z_tk B len t ≠ 12 := e7
  have e8 : z_tk B len t ≠ 13 := e8
  have e9 : z_tk B len t ≠ 14 := e9
  omega
theorem z_wordX (h : z_RX i0 i B len t) {Q : Int32 → Prop} (h0 : Q (-1)) : w_X4_word 20 T n r i w Q := z_isWordX h (z_f' (z_isWordX h (z_f' (z_isWordX h (z_f' (z_isWordX h (z_f' (z_isWordX h (z_f' (z_isWordX h (z_f' (z_isWordX h (z_f' (z_isWordX h (z_f' (z_isWordX h (z_f' h0)))))))))))))))))
theorem z_nv_mono {k : Nat} : ∀ c d, 1000 < z_nv B k c → 1000 < z_nv B k (c + d) := by
  intro c d h
  induction d with
  | zero => exact h
  | succ d ih =>
    show 1000 < (if 1000000 < z_nv B k (c + d) then z_nv B k (c + d) else 10 * z_nv B k (c + d) + (B (k + (c + d)) - 48))
    split <;> omega
theorem z_num4 (hx : z_cx4 T r B len) (h : z_RS i0 i B len t m s cd) (hk : z_kd B len (z_plc B len t) = 257) {Q : Int32 → Prop} (h1 : z_vl B len t ≤ 1000 → Q (nI (z_vl B len t))) (h0 : 1000 < z_vl B len t → Q (-1)) : w_X4_number 20 T n r i w Q := by
  obtain ⟨hS, hr2, hl, hB⟩ := hx
  obtain ⟨hb, ⟨a1, a2, a3⟩, -⟩ := h
  have hbp := hB (z_plc B len t)
  have hpl : z_plc B len t < len ∧ z_ltr (B (z_plc B len t)) = false ∧ z_dgt (B (z_plc B len t)) = true := by
    unfold z_kd at hk
    by_cases y : z_plc B len t < len
    · rw [if_pos y] at hk
      by_cases y2 : z_ltr (B (z_plc B len t)) = true
      · rw [if_pos y2] at hk; omega
      · rw [if_neg y2] at hk
        by_cases y3 : z_dgt (B (z_plc B len t)) = true
        · refine ⟨y, ?_, y3⟩
          cases hh : z_ltr (B (z_plc B len t)) with
          | false => rfl
          | true => exact absurd hh y2
        · rw [if_neg y3] at hk; omega
    · rw [if_neg y] at hk; omega
  obtain ⟨y1, y2, y3⟩ := hpl
  have hte : z_te B len t = z_adv z_dgt B len (z_plc B len t + 1) := by
    unfold z_te z_ten
    rw [if_pos y1, if_neg (by rw [y2]; decide), if_pos y3]
  have hle := z_te_le (B := B) (len := len) t
  have hge : z_plc B len t + 1 ≤ z_te B len t := by rw [hte]; exact z_adv_ge
  have dig : ∀ c, c < z_te B len t - z_plc B len t → z_dgt (B (z_plc B len t + c)) = true := by
    intro c hc
    by_cases z : c = 0
    · rw [z, Nat.add_zero]; exact y3
    · exact (z_adv_all (P := z_dgt) (B := B) (len := len) _ (z_plc B len t + 1) rfl).2.2.1 (z_plc B len t + c) (by omega) (by rw [← hte]; omega)
  have evl : z_vl B len t = z_nv B (z_plc B len t) (z_te B len t - z_plc B len t) := if_pos ⟨y1, y3⟩
  rw [evl] at h1 h0
  unfold w_X4_number
  rw [a1]
  refine ⟨z_te B len t - z_plc B len t + 1, ?_⟩
  have loop : ∀ (d c : Nat), c + d = z_te B len t - z_plc B len t → z_nv B (z_plc B len t) c ≤ 1000 → w_X4_number_7 20 T n r i w Q (d + 1) (nI (z_nv B (z_plc B len t) c)) (nI (z_plc B len t + c)) := by
    intro d
    induction d with
    | zero =>
      intro c hc hv
      show s_X4_number_7 20 T n r i w Q _ _ (nI (z_plc B len t + c))
      unfold s_X4_number_7
      rw [a2]
      refine ⟨fun _ => ?_, fun q => absurd (nI_le (by omega) (by omega)) q⟩
      rw [show z_te B len t - z_plc B len t = c by omega] at h1
      exact h1 hv
    | succ d ih =>
      intro c hc hv
      have dg := dig c (by omega)
      unfold z_dgt at dg
      rw [decide_eq_true_iff] at dg
      have e19 : i 19 (z_plc B len t + c) = nI (B (z_plc B len t + c)) := by rw [hb.1 19 (by decide) (by decide)]; exact hb.2.1 _ (by omega)
      have env : z_nv B (z_plc B len t) (c + 1) = 10 * z_nv B (z_plc B len t) c + (B (z_plc B len t + c) - 48) := if_neg (by omega)
      have ex : nI (z_nv B (z_plc B len t) c) * (10 : Int32) + nI (B (z_plc B len t + c)) - (48 : Int32) = nI (z_nv B (z_plc B len t) (c + 1)) := by
        rw [env, show (10 : Int32) = nI 10 from rfl, pk_mul, nI_add, show (48 : Int32) = nI 48 from rfl, pk_sub (by omega)]
        congr 1
        omega
      show s_X4_number_7 20 T n r i w Q _ _ (nI (z_plc B len t + c))
      unfold s_X4_number_7
      rw [a2, hr2, nI_clamp (by omega), e19, ex, nI_1]
      refine ⟨fun q => absurd q (nI_ge (by omega) (by omega)), fun _ => ⟨z_kin (z_T19 hS) (by omega) (by decide), fun q => ?_, fun q => h0 ?_⟩⟩
      · have := ih (c + 1) (by omega) ((nI_leI (b := 1000) (by omega) (by decide)).mp q)
        rw [← Nat.add_assoc] at this
        exact this
      · have big : 1000 < z_nv B (z_plc B len t) (c + 1) := by
          rcases Nat.lt_or_ge 1000 (z_nv B (z_plc B len t) (c + 1)) with z | z
          · exact z
          · exact absurd (nI_le (b := 1000) z (by decide)) q
        have := z_nv_mono (B := B) (c + 1) d big
        rw [show c + 1 + d = z_te B len t - z_plc B len t by omega] at this
        exact this
  exact loop _ 0 (by omega) (by show 0 ≤ 1000; omega)
/-- a step of code is put behind -/
theorem z_emit4 (hx : z_cx4 T r B len) (h : z_RS i0 i B len t m s cd) (hs : s < 400) {op wt : Nat} (ho : op < 16) (hw : wt < 1001) (h9 : op = 1 → wt < 9) {Q : kw_I → Prop} (hQ : ∀ i' cd', z_RS i0 i' B len t m (s + 1) cd' → (∀ k, k < s → cd' k = cd k) → cd' s = 16 * wt + op → Q i') : w_X4_emit 20 (nI op) (nI wt) T n r i w Q := by
  obtain ⟨hS, hr2, hl, hB⟩ := hx
  obtain ⟨h1, ⟨a1, a2, a3⟩, h3, h4, h5, h6, h7⟩ := h
  unfold w_X4_emit
  have ev : (nI wt <<< ((4 : Int32) &&& 31)) ||| nI op = nI (16 * wt + op) := by
    have e1 : nI wt <<< ((4 : Int32) &&& 31) = nI (wt * 2 ^ 4) := pk_shlN ((4 : Int32) &&& 31) 4 (by decide) (by omega)
    rw [e1, Nat.mul_comm]
    exact fa_or_sum (k := 4) wt (by omega)
  rw [h4, h5, z_r20_0 hS, nI_clamp (by omega), ev]
  refine ⟨fun q => absurd rfl q, fun _ => ⟨fun _ => ⟨z_kin (z_T21 hS) hs (by decide), fun j1 e1 j2 e2 => ?_⟩, fun q => absurd (nI_lt (b := 400) hs (by decide)) q⟩⟩
  have o : ∀ b, b ≠ 20 → b ≠ 21 → j2 b = i b := fun b b1 b2 => by rw [e2, kw_st_offF b1, e1, kw_st_offF b2]
  have f : ∀ f, f ≠ 7 → j2 20 f = i 20 f := fun f hf => by rw [e2, kw_st_row, if_neg hf, e1, kw_st_off (by decide)]
  refine hQ j2 (fun k => if k = s then 16 * wt + op else cd k) ⟨⟨fun b b1 b2 => by rw [o b b1 b2]; exact h1.1 b b1 b2, h1.2.1, by rw [f 3 (by decide)]; exact h1.2.2⟩, ⟨by rw [f 4 (by decide)]; exact a1, by rw [f 5 (by decide)]; exact a2, by rw [f 6 (by decide)]; exact a3⟩, by rw [f 8 (by decide)]; exact h3, by rw [f 9 (by decide)]; exact h4, ?_, by omega, fun k hk => ?_⟩ (fun k hk => if_neg (by omega)) (if_pos rfl)
  · rw [e2, kw_st_same, e1, kw_st_off (by decide), h5, nI_1]
  · have er : j2 21 k = if k = s then nI (16 * wt + op) else i 21 k := by rw [e2, kw_st_off (by decide), e1, kw_st_row]
    by_cases y : k = s
    · rw [er, if_pos y]
      show nI (16 * wt + op) = nI (if k = s then 16 * wt + op else cd k) ∧ (if k = s then 16 * wt + op else cd k) < 16384 ∧ ((if k = s then 16 * wt + op else cd k) % 16 = 1 → (if k = s then 16 * wt + op else cd k) / 16 < 9)
      rw [if_pos y]
      refine ⟨rfl, by omega, fun z => ?_⟩
      have := h9 (by omega)
      omega
    · rw [er, if_neg y]
      show i 21 k = nI (if k = s then 16 * wt + op else cd k) ∧ (if k = s then 16 * wt + op else cd k) < 16384 ∧ ((if k = s then 16 * wt + op else cd k) % 16 = 1 → (if k = s then 16 * wt + op else cd k) / 16 < 9)
      rw [if_neg y]
      exact h7 k (by omega)
theorem z_emitX (ht : z_plc B len t < 2 ^ 31) (h : z_RX i0 i B len t) {x y : Int32} {Q : kw_I → Prop} (hQ : Q i) : w_X4_emit 20 x y T n r i w Q := by
  unfold w_X4_emit
  rw [h.2.2.1]
  exact ⟨fun _ => hQ, fun q => absurd q (z_m1ne ht)⟩
/-- a skip gets its end -/
theorem z_skip4 (hx : z_cx4 T r B len) (h : z_RS i0 i B len t m s cd) {k : Nat} (hk : k < s) (ho : cd k % 16 = 10 ∨ cd k % 16 = 11) {Q : kw_I → Prop} (hQ : ∀ i' cd', z_RS i0 i' B len t m s cd' → (∀ q, q ≠ k → cd' q = cd q) → cd' k = 16 * s + cd k % 16 → Q i') : w_X4_skipToHere 20 (nI k) T n r i w Q := by
  obtain ⟨hS, hr2, hl, hB⟩ := hx
  obtain ⟨h1, ⟨a1, a2, a3⟩, h3, h4, h5, h6, h7⟩ := h
  unfold w_X4_skipToHere
  have ev : (nI s <<< ((4 : Int32) &&& 31)) ||| (nI (cd k) &&& (15 : Int32)) = nI (16 * s + cd k % 16) := by
    have e1 : nI s <<< ((4 : Int32) &&& 31) = nI (s * 2 ^ 4) := pk_shlN ((4 : Int32) &&& 31) 4 (by decide) (by omega)
    rw [e1, Nat.mul_comm, z_and15 (h7 k hk).2.1]
    exact fa_or_sum (k := 4) s (by omega)
  rw [h5, z_r20_0 hS, nI_clamp (by omega), (h7 k hk).1, ev]
  have k21 : kw_in T 1 21 (nI k) := z_kin (z_T21 hS) (by omega) (by decide)
  refine ⟨fun q => absurd q (nI_pos (by omega)), fun _ => ⟨fun _ => ⟨k21, k21, fun j1 e1 => ?_⟩, fun q => absurd (nI_lt hk (by omega)) q⟩⟩
  have o : ∀ b, b ≠ 21 → j1 b = i b := fun b b2 => by rw [e1, kw_st_offF b2]
  refine hQ j1 (fun q => if q = k then 16 * s + cd k % 16 else cd q) ⟨⟨fun b b1 b2 => by rw [o b b2]; exact h1.1 b b1 b2, h1.2.1, by rw [o 20 (by decide)]; exact h1.2.2⟩, ⟨by rw [o 20 (by decide)]; exact a1, by rw [o 20 (by decide)]; exact a2, by rw [o 20 (by decide)]; exact a3⟩, by rw [o 20 (by decide)]; exact h3, by rw [o 20 (by decide)]; exact h4, by rw [o 20 (by decide)]; exact h5, h6, fun q hq => ?_⟩ (fun q hq => if_neg hq) (if_pos rfl)
  have er : j1 21 q = if q = k then nI (16 * s + cd k % 16) else i 21 q := by rw [e1, kw_st_row]
  by_cases y : q = k
  · rw [er, if_pos y]
    show nI (16 * s + cd k % 16) = nI (if q = k then 16 * s + cd k % 16 else cd q) ∧ (if q = k then 16 * s + cd k % 16 else cd q) < 16384 ∧ ((if q = k then 16 * s + cd k % 16 else cd q) % 16 = 1 → (if q = k then 16 * s + cd k % 16 else cd q) / 16 < 9)
    rw [if_pos y]
    exact ⟨rfl, by omega, fun z => by omega⟩
  · rw [er, if_neg y]
    show i 21 q = nI (if q = k then 16 * s + cd k % 16 else cd q) ∧ (if q = k then 16 * s + cd k % 16 else cd q) < 16384 ∧ ((if q = k then 16 * s + cd k % 16 else cd q) % 16 = 1 → (if q = k then 16 * s + cd k % 16 else cd q) / 16 < 9)
    rw [if_neg y]
    exact h7 q hq
theorem z_skipN {x : Int32} (h : x = -1) {Q : kw_I → Prop} (hQ : Q i) : w_X4_skipToHere 20 x T n r i w Q := by
  subst h
  exact ⟨fun _ => hQ, fun q => absurd (by decide) q⟩
theorem z_skipX (hS : z_S T r) (h : z_RX i0 i B len t) {x : Int32} {Q : kw_I → Prop} (hQ : ∀ i', z_RX i0 i' B len t → Q i') : w_X4_skipToHere 20 x T n r i w Q := by
  have h0 := h
  obtain ⟨h1, h2, h3, s, h4, h5⟩ := h
  unfold w_X4_skipToHere
  rw [h5, z_r20_0 hS]
  refine ⟨fun _ => hQ i h0, fun q => ⟨fun q2 => ?_, fun _ => hQ i h0⟩⟩
  obtain ⟨k, hk, rfl⟩ := nI_of q
  have hks := (nI_ltI hk (by omega)).mp q2
  have k21 : kw_in T 1 21 (nI k) := z_kin (z_T21 hS) (by omega) (by decide)
  refine ⟨k21, k21, fun j1 e1 => hQ j1 ?_⟩
  have o : ∀ b, b ≠ 21 → j1 b = i b := fun b b2 => by rw [e1, kw_st_offF b2]
  exact ⟨⟨fun b b1 b2 => by rw [o b b2]; exact h1.1 b b1 b2, h1.2.1, by rw [o 20 (by decide)]; exact h1.2.2⟩, by rw [o 20 (by decide)]; exact h2, by rw [o 20 (by decide)]; exact h3, s, h4, by rw [o 20 (by decide)]; exact h5⟩
end ZRW
