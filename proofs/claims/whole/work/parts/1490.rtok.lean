-- THE REFERENCE'S TOKENS
def z_tb (b : Nat) : Int32 := if b < 128 then nI b else nI b - 256
theorem z_tb_all : ∀ b, b < 256 → ((¬ z_tb b < (97 : Int32) ∧ ¬ (122 : Int32) < z_tb b) ↔ z_ltr b = true) ∧ ((¬ z_tb b < (48 : Int32) ∧ ¬ (57 : Int32) < z_tb b) ↔ z_dgt b = true) ∧ (z_tb b = 32 ↔ b = 32) ∧ (z_tb b &&& 255) = nI b := by decide +kernel
theorem z_tb_eq {b c : Nat} (hb : b < 256) (hc : c < 128) : nI c = z_tb b ↔ c = b := by
  unfold z_tb
  by_cases y : b < 128
  · rw [if_pos y]
    exact nI_eq (by omega) (by omega)
  · rw [if_neg y]
    have e : (nI b - 256 : Int32).toInt = (b : Int) - 256 := pk_sub_toInt (b := 256) (by omega) (by decide)
    constructor
    · intro q
      have h3 : (nI b - 256 : Int32).toInt = (nI c).toInt := by rw [q]
      rw [e, nI_toInt (by omega)] at h3
      omega
    · intro q
      omega
def z_wfs : List Nat := [0, 7, 10, 13, 17, 21, 23, 25, 33, 38, 42, 47, 53, 59, 64]
theorem z_wo_ok : ∀ j, j < 14 → z_wfs.getD (j + 1) 0 = z_wfs.getD j 0 + ((z_wls.getD j []).length + 1) ∧ z_wfs.getD (j + 1) 0 ≤ 64 ∧ z_wfs.getD j 0 < 64 ∧ 0 < (z_wls.getD j []).length ∧ z_words.getD (z_wfs.getD j 0 + (z_wls.getD j []).length) 0 = 32 := by decide +kernel
theorem z_wo_tx : ∀ j, j < 14 → ∀ a, a < 8 → a < (z_wls.getD j []).length → z_words.getD (z_wfs.getD j 0 + a) 0 = (z_wls.getD j []).getD a 0 ∧ (z_wls.getD j []).getD a 0 ≠ 32 ∧ (z_wls.getD j []).getD a 0 < 128 := by decide +kernel
theorem z_wo_ln : ∀ j, j < 14 → (z_wls.getD j []).length < 8 := by decide +kernel
section ZTK
variable {T : kw_T} {n : Nat} {r : kw_R} {i i0 : kw_I} {w : kw_L} {B : Nat → Nat} {len sz : Nat}
theorem z_isSm {b : Nat} (hb : b < 256) {Q : Int32 → Prop} (h1 : z_ltr b = true → Q 1) (h0 : ¬ z_ltr b = true → Q 0) : w_X10_isSmall (z_tb b) T n r i w Q := by
  have h := (z_tb_all b hb).1
  exact ⟨fun q => h0 (fun z => (h.mpr z).1 q), fun q => ⟨fun q2 => h0 (fun z => (h.mpr z).2 q2), fun q2 => h1 (h.mp ⟨q, q2⟩)⟩⟩
theorem z_isDg {b : Nat} (hb : b < 256) {Q : Int32 → Prop} (h1 : z_dgt b = true → Q 1) (h0 : ¬ z_dgt b = true → Q 0) : w_X10_isDigit (z_tb b) T n r i w Q := by
  have h := (z_tb_all b hb).2.1
  exact ⟨fun q => h0 (fun z => (h.mpr z).1 q), fun q => ⟨fun q2 => h0 (fun z => (h.mpr z).2 q2), fun q2 => h1 (h.mp ⟨q, q2⟩)⟩⟩
theorem z_wordOf (hS : z_S T r) (hB : ∀ k, B k < 256) (hw : z_wd (i 89)) (h90 : ∀ k, k < 400 → i 90 k = z_tb (B k)) {k e : Nat} (hke : k ≤ e) (he : e ≤ 400) {Q : Int32 → Prop} (hQ : Q (nI (z_wc (z_bs B k e)))) : w_X10_wordOf 84 (nI k) (nI e) T n r i w Q := by
  have r6 := z_r84_6 hS
  have r7 := z_r84_7 hS
  have T89 := z_T89 hS
  have T90 := z_T90 hS
  have e64 : ((T 89).2.toInt32) = nI 64 := by rw [T89]; rfl
  have k89 : ∀ a, a < 64 → kw_in T 2 89 (nI a) := fun a ha => z_kin T89 ha (by decide)
  have k90 : ∀ a, a < 400 → kw_in T 2 90 (nI a) := fun a ha => z_kin T90 ha (by decide)
  have main : ∀ (d j : Nat), j + d = 14 → Q (nI (z_wcF (z_bs B k e) d j)) → w_X10_wordOf_5 84 (nI k) (nI e) T n r i w Q (d + 1) (nI (j + 1)) (nI (z_wfs.getD j 0)) := by
    intro d
    induction d with
    | zero =>
      intro j hj hq
      obtain rfl : j = 14 := by omega
      show s_X10_wordOf_5 84 (nI k) (nI e) T n r i w Q _ (nI (14 + 1)) (nI (z_wfs.getD 14 0))
      unfold s_X10_wordOf_5
      rw [r6, e64, T89]
      exact ⟨rfl, fun _ => hq, fun q => absurd (by decide) q⟩
    | succ d ih =>
      intro j hj hq
      have hj14 : j < 14 := by omega
      obtain ⟨o1, o2, o3, o4, o5⟩ := z_wo_ok j hj14
      have tx := z_wo_tx j hj14
      have ln := z_wo_ln j hj14
      have hq2 : Q (nI (if z_wls.getD j [] = z_bs B k e then j + 1 else z_wcF (z_bs B k e) d (j + 1))) := hq
      generalize hwd : z_wls.getD j [] = wd at *
      generalize hof : z_wfs.getD j 0 = of at *
      have next : ¬ wd = z_bs B k e → w_X10_wordOf_104 84 (nI k) (nI e) T n r i w Q (w_X10_wordOf_5 84 (nI k) (nI e) T n r i w Q (d + 1)) (nI (j + 1)) (nI of) (nI wd.length) 0 := by
        intro hne
        rw [if_neg hne] at hq2
        refine ⟨fun _ => ?_, fun q => absurd rfl q⟩
        have := ih (j + 1) (by omega) hq2
        rw [o1] at this
        rw [nI_1, nI_1, nI_add]
        exact this
      have out : ¬ wd = z_bs B k e → ∀ (F a : Nat), w_X10_wordOf_57 84 (nI k) (nI e) T n r i w Q (w_X10_wordOf_5 84 (nI k) (nI e) T n r i w Q (d + 1)) (F + 1) (nI (j + 1)) (nI of) (nI wd.length) 0 (nI a) := fun hne F a => ⟨fun _ => next hne, fun _ => ⟨fun _ => next hne, fun q => absurd rfl q⟩⟩
      have cmp : e - k = wd.length → ∀ (F a : Nat), a + F = wd.length → (∀ a', a' < a → wd.getD a' 0 = B (k + a')) → w_X10_wordOf_57 84 (nI k) (nI e) T n r i w Q (w_X10_wordOf_5 84 (nI k) (nI e) T n r i w Q (d + 1)) (F + 1) (nI (j + 1)) (nI of) (nI wd.length) 1 (nI a) := by
        intro hlen F
        induction F with
        | zero =>
          intro a ha hall
          have heq : wd = z_bs B k e := z_bs_eq.mpr ⟨hlen.symm, fun a' ha' => hall a' (by omega)⟩
          rw [if_pos heq] at hq2
          refine ⟨fun _ => ⟨fun q => absurd q (by decide), fun _ => hq2⟩, fun q => absurd (nI_le (by omega) (by omega)) q⟩
        | succ F ihF =>
          intro a ha hall
          have ta := tx a (by omega) (by omega)
          show s_X10_wordOf_57 84 (nI k) (nI e) T n r i w Q _ _ (nI (j + 1)) (nI of) (nI wd.length) 1 (nI a)
          unfold s_X10_wordOf_57 w_X10_wordOf_96
          rw [r6, r7, nI_add, nI_add, nI_clamp (by omega), nI_clamp (by omega), hw _ (by omega), h90 _ (by omega), ta.1, nI_1]
          have cm := z_tb_eq (hB (k + a)) ta.2.2
          refine ⟨fun q => absurd q (nI_ge (by omega) (by omega)), fun _ => ⟨fun q => absurd q (by decide), fun _ => ⟨k89 _ (by omega), k90 _ (by omega), fun q => ?_, fun q => ?_⟩⟩⟩
          · refine out (fun z => q (cm.mpr ?_)) F (a + 1)
            exact (z_bs_eq.mp z).2 a (by omega)
          · refine ihF (a + 1) (by omega) (fun a' ha' => ?_)
            by_cases y : a' = a
            · rw [y]; exact cm.mp q
            · exact hall a' (by omega)
      have meas : ∀ (F a : Nat), a + F = wd.length → w_X10_wordOf_18 84 (nI k) (nI e) T n r i w Q (w_X10_wordOf_5 84 (nI k) (nI e) T n r i w Q (d + 1)) (F + 1) (nI (j + 1)) (nI of) (nI a) := by
        intro F
        induction F with
        | zero =>
          intro a ha
          obtain rfl : a = wd.length := by omega
          show s_X10_wordOf_18 84 (nI k) (nI e) T n r i w Q _ _ (nI (j + 1)) (nI of) (nI wd.length)
          unfold s_X10_wordOf_18 w_X10_wordOf_52
          rw [r6, nI_add, nI_clamp (by omega), hw _ (by omega), o5, pk_sub hke]
          refine ⟨k89 _ (by omega), fun _ => ⟨fun q => ?_, fun q => ?_⟩, fun q => absurd rfl q⟩
          · refine ⟨1, out (fun z => q ?_) 0 0⟩
            rw [(z_bs_eq.mp z).1]
          · have := (nI_eq (by omega) (by omega)).mp q
            exact ⟨wd.length + 1, cmp this.symm wd.length 0 (by omega) (fun a' ha' => absurd ha' (Nat.not_lt_zero a'))⟩
        | succ F ihF =>
          intro a ha
          have ta := tx a (by omega) (by omega)
          show s_X10_wordOf_18 84 (nI k) (nI e) T n r i w Q _ _ (nI (j + 1)) (nI of) (nI a)
          unfold s_X10_wordOf_18
          rw [r6, nI_add, nI_clamp (by omega), hw _ (by omega), ta.1, nI_1]
          exact ⟨k89 _ (by omega), fun q => absurd ((nI_eq (b := 32) (by omega) (by decide)).mp q) ta.2.1, fun _ => ihF (a + 1) (by omega)⟩
      show s_X10_wordOf_5 84 (nI k) (nI e) T n r i w Q _ (nI (j + 1)) (nI of)
      unfold s_X10_wordOf_5
      rw [r6, e64]
      exact ⟨by rw [T89], fun q => absurd q (nI_ge o3 (by decide)), fun _ => ⟨wd.length + 1, meas wd.length 0 (by omega)⟩⟩
  exact ⟨15, main 14 0 rfl hQ⟩
end ZTK
