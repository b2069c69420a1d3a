-- THE REFERENCE SPLITS A TEXT
def z_rw3 (i : kw_I) (B : Nat → Nat) (len u : Nat) : Prop := i 92 u = nI (z_tk B len u) ∧ i 93 u = nI (z_vl B len u) ∧ i 94 u = nI (z_plc B len u)
def z_sp (i0 i : kw_I) (B : Nat → Nat) (len t m : Nat) : Prop := (∀ b, b ≠ 84 → b ≠ 92 → b ≠ 93 → b ≠ 94 → i b = i0 b) ∧ (∀ f, f ≠ 14 → i 84 f = i0 84 f) ∧ i 84 14 = nI t ∧ ∀ u, u < m → z_rw3 i B len u
section ZSP
variable {T : kw_T} {n : Nat} {r : kw_R} {i i0 : kw_I} {w : kw_L} {B : Nat → Nat} {len sz : Nat}
theorem z_sp_st {j : kw_I} {t b : Nat} {v : Int32} (hb : b = 92 ∨ b = 93 ∨ b = 94) (h : z_sp i j B len t t) : z_sp i (kw_st j b t v) B len t t := by
  have o : ∀ c u, u ≠ t → kw_st j b t v c u = j c u := fun c u hu => by
    by_cases y : c = b
    · rw [y, kw_st_row, if_neg hu]
    · rw [kw_st_off y]
  refine ⟨fun c c1 c2 c3 c4 => ?_, fun f hf => ?_, ?_, fun u hu => ?_⟩
  · rw [kw_st_offF (by omega)]; exact h.1 c c1 c2 c3 c4
  · rw [kw_st_off (by omega)]; exact h.2.1 f hf
  · rw [kw_st_off (by omega)]; exact h.2.2.1
  · obtain ⟨a1, a2, a3⟩ := h.2.2.2 u hu
    exact ⟨by rw [o _ u (by omega)]; exact a1, by rw [o _ u (by omega)]; exact a2, by rw [o _ u (by omega)]; exact a3⟩
theorem z_nv_le (hB : ∀ k, B k < 256) (k : Nat) : ∀ c, z_nv B k c ≤ 10000300 := by
  intro c
  induction c with
  | zero => exact Nat.zero_le _
  | succ c ih =>
    show (if 1000000 < z_nv B k c then z_nv B k c else 10 * z_nv B k c + (B (k + c) - 48)) ≤ 10000300
    have := hB (k + c)
    split <;> omega
theorem z_splits (hS : z_S T r) (hl : len ≤ 400) (hB : ∀ k, B k < 256) (hw : z_wd (i 89)) (h90 : ∀ k, k < 400 → i 90 k = z_tb (B k)) (hz : z_szo B len sz) {Q : kw_I → Prop} (hQ : ∀ i', z_sp i i' B len sz (sz + 1) → Q i') : w_X10_splits 84 (nI len) T n r i w Q := by
  have r7 := z_r84_7 hS
  have r11 := z_r84_11 hS
  have r12 := z_r84_12 hS
  have r13 := z_r84_13 hS
  have k92 : ∀ a, a < 401 → kw_in T 1 92 (nI a) := fun a ha => z_kin (z_T92 hS) ha (by decide)
  have k93 : ∀ a, a < 401 → kw_in T 1 93 (nI a) := fun a ha => z_kin (z_T93 hS) ha (by decide)
  have k94 : ∀ a, a < 401 → kw_in T 1 94 (nI a) := fun a ha => z_kin (z_T94 hS) ha (by decide)
  have k90 : ∀ a, a < 400 → kw_in T 2 90 (nI a) := fun a ha => z_kin (z_T90 hS) ha (by decide)
  have main : ∀ (F k t : Nat) (j : kw_I), len - k < F → k ≤ len → t ≤ k → (∀ u, u < t → z_plc B len u < len) → z_adv z_spc B len k = z_plc B len t → z_sp i j B len t t → w_X10_splits_7 84 (nI len) T n r w Q F (nI k) j := by
    intro F
    induction F with
    | zero => intro k t j h; omega
    | succ F ih =>
      intro k t j hF hk htk hpl hadv hsp
      have j90 : ∀ j', z_sp i j' B len t t → ∀ q, q < 400 → j' 90 q = z_tb (B q) := fun j' hj q hq => by rw [hj.1 90 (by decide) (by decide) (by decide) (by decide)]; exact h90 q hq
      show s_X10_splits_7 84 (nI len) T n r w Q _ (nI k) j
      unfold s_X10_splits_7
      rw [r7, r11, r12, r13]
      refine ⟨fun q => ?_, fun q => ?_⟩
      · have hkl : k = len := by
          have := (nI_leI (by omega) (by omega)).mp q
          omega
        have hpt : z_plc B len t = len := by rw [← hadv, z_adv_stop (fun z => by omega), hkl]
        have tsz : t = sz := by
          rcases Nat.lt_trichotomy t sz with y | y | y
          · have := hz.2.1 t y
            omega
          · exact y
          · have := hpl sz y
            have := hz.2.2 sz (Nat.le_refl _)
            omega
        have tk0 : z_tk B len t = 0 := if_neg (by omega)
        have vl0 : z_vl B len t = 0 := if_neg (fun z => by omega)
        rw [hsp.2.2.1, nI_clamp (by omega)]
        refine ⟨k94 t (by omega), fun j1 e1 => ?_⟩
        have s1 : z_sp i j1 B len t t := by rw [e1]; exact z_sp_st (by decide) hsp
        rw [s1.2.2.1, nI_clamp (by omega)]
        refine ⟨k92 t (by omega), fun j2 e2 => ?_⟩
        have s2 : z_sp i j2 B len t t := by rw [e2]; exact z_sp_st (by decide) s1
        rw [s2.2.2.1, nI_clamp (by omega)]
        refine ⟨k93 t (by omega), fun j3 e3 => ?_⟩
        have s3 : z_sp i j3 B len t t := by rw [e3]; exact z_sp_st (by decide) s2
        rw [← tsz] at hQ
        refine hQ j3 ⟨s3.1, s3.2.1, s3.2.2.1, fun u hu => ?_⟩
        by_cases y : u = t
        · subst y
          exact ⟨by rw [tk0, e3, kw_st_off (by decide), e2, kw_st_same]; rfl, by rw [vl0, e3, kw_st_same]; rfl, by rw [hpt, e3, kw_st_off (by decide), e2, kw_st_off (by decide), e1, kw_st_same]⟩
        · exact s3.2.2.2 u (by omega)
      · have hkl : k < len := by
          rcases Nat.lt_or_ge k len with z | z
          · exact z
          · exact absurd (nI_le z (by omega)) q
        rw [nI_clamp (by omega), j90 j hsp k (by omega), nI_1]
        have bk := hB k
        obtain ⟨-, -, b3, b4⟩ := z_tb_all (B k) bk
        refine ⟨k90 k (by omega), fun q2 => ?_, fun q2 => ih (k + 1) t j (by omega) (by omega) (by omega) hpl (by rw [← hadv, z_adv_step hkl (by unfold z_spc; rw [decide_eq_true_iff]; exact b3.mp q2)]) hsp⟩
        have hp : z_plc B len t = k := by
          rw [← hadv, z_adv_stop]
          intro z
          have := z.2
          unfold z_spc at this
          rw [decide_eq_true_iff] at this
          exact q2 (b3.mpr this)
        have ete : z_te B len t = z_ten B len k := by
          unfold z_te
          rw [if_pos (by omega), hp]
        have tel := z_te_le (B := B) (len := len) t
        have teg : k < z_te B len t := by rw [ete]; exact z_ten_gt
        generalize he : z_te B len t = e at *
        -- behind a token
        have c247 : ∀ j', z_sp i j' B len t t → z_rw3 j' B len t → w_X10_splits_247 84 (nI len) T n r w Q (w_X10_splits_7 84 (nI len) T n r w Q F) (nI e) j' := by
          intro j' hs hr j2 e2
          rw [hs.2.2.1, nI_1] at e2
          refine ih e (t + 1) j2 (by omega) tel (by omega) (fun u hu => ?_) (by rw [z_plc_succ, he]) ⟨fun b b1 b2 b3 b4 => ?_, fun f hf => ?_, by rw [e2, kw_st_same], fun u hu => ?_⟩
          · by_cases y : u = t
            · rw [y]; omega
            · exact hpl u (by omega)
          · rw [e2, kw_st_offF b1]; exact hs.1 b b1 b2 b3 b4
          · rw [e2, kw_st_row, if_neg hf]; exact hs.2.1 f hf
          · have : z_rw3 j' B len u := by
              by_cases y : u = t
              · rw [y]; exact hr
              · exact hs.2.2.2 u (by omega)
            exact ⟨by rw [e2, kw_st_off (by decide)]; exact this.1, by rw [e2, kw_st_off (by decide)]; exact this.2.1, by rw [e2, kw_st_off (by decide)]; exact this.2.2⟩
        have c165 : ∀ (j' : kw_I) (code : Int32), code = nI (z_tk B len t) → z_sp i j' B len t t → j' 93 t = 0 → j' 94 t = nI k → w_X10_splits_165 84 (nI len) T n r w Q (w_X10_splits_7 84 (nI len) T n r w Q F) (nI k) (z_tb (B k)) (nI e) 92 (nI t) code j' := by
          intro j' code hc hs h93 h94
          refine ⟨k92 t (by omega), fun j1 e1 => ?_⟩
          rw [nI_clamp (by omega), hc] at e1
          have s1 : z_sp i j1 B len t t := by rw [e1]; exact z_sp_st (by decide) hs
          have v92 : j1 92 t = nI (z_tk B len t) := by rw [e1, kw_st_same]
          have v93 : j1 93 t = 0 := by rw [e1, kw_st_off (by decide)]; exact h93
          have v94 : j1 94 t = nI k := by rw [e1, kw_st_off (by decide)]; exact h94
          by_cases dg : z_dgt (B k) = true
          · have evl : z_vl B len t = z_nv B k (e - k) := by
              unfold z_vl
              rw [hp, if_pos ⟨hkl, dg⟩, he]
            have nl : ¬ z_ltr (B k) = true := fun z => by
              unfold z_ltr at z
              unfold z_dgt at dg
              rw [decide_eq_true_iff] at z dg
              omega
            have edg : e = z_adv z_dgt B len (k + 1) := by
              rw [ete]
              unfold z_ten
              rw [if_neg nl, if_pos dg]
            have dig : ∀ c, c < e - k → z_dgt (B (k + c)) = true := by
              intro c hc
              by_cases z : c = 0
              · rw [z, Nat.add_zero]; exact dg
              · exact (z_adv_all (P := z_dgt) (B := B) (len := len) _ (k + 1) rfl).2.2.1 (k + c) (by omega) (by rw [← edg]; omega)
            have loop : ∀ (G c : Nat) (j2 : kw_I), c + G = e - k → z_sp i j2 B len t t → j2 92 t = nI (z_tk B len t) → j2 94 t = nI k → j2 93 t = nI (z_nv B k c) → w_X10_splits_169 84 (nI len) T n r w Q (w_X10_splits_7 84 (nI len) T n r w Q F) (G + 1) (z_tb (B k)) (nI e) (nI (k + c)) j2 := by
              intro G
              induction G with
              | zero =>
                intro c j2 hc s2 g2 g4 g3
                refine ⟨fun _ => c247 j2 s2 ⟨g2, by rw [g3, evl, show e - k = c by omega], by rw [g4, hp]⟩, fun q => absurd (nI_le (by omega) (by omega)) q⟩
              | succ G ihG =>
                intro c j2 hc s2 g2 g4 g3
                have dgc := dig c (by omega)
                unfold z_dgt at dgc
                rw [decide_eq_true_iff] at dgc
                have etb : z_tb (B (k + c)) = nI (B (k + c)) := if_pos (by omega)
                have nle := z_nv_le hB k c
                have env : z_nv B k (c + 1) = if 1000000 < z_nv B k c then z_nv B k c else 10 * z_nv B k c + (B (k + c) - 48) := rfl
                have go : ∀ x : Int32, x = nI (z_nv B k (c + 1)) → w_X10_splits_240 84 (nI len) T n r w Q (w_X10_splits_7 84 (nI len) T n r w Q F) (w_X10_splits_169 84 (nI len) T n r w Q (w_X10_splits_7 84 (nI len) T n r w Q F) (G + 1)) (z_tb (B k)) (nI e) (nI (k + c)) 93 (nI t) x j2 := by
                  intro x hx
                  refine ⟨k93 t (by omega), fun j3 e3 => ?_⟩
                  rw [nI_clamp (by omega), hx] at e3
                  rw [nI_1]
                  exact ihG (c + 1) j3 (by omega) (by rw [e3]; exact z_sp_st (by decide) s2) (by rw [e3, kw_st_off (by decide)]; exact g2) (by rw [e3, kw_st_off (by decide)]; exact g4) (by rw [e3, kw_st_same])
                show s_X10_splits_169 84 (nI len) T n r w Q _ _ (z_tb (B k)) (nI e) (nI (k + c)) j2
                unfold s_X10_splits_169
                rw [r7, r12, s2.2.2.1, nI_clamp (by omega), nI_clamp (by omega), g3, j90 j2 s2 _ (by omega), etb]
                refine ⟨fun q => absurd q (nI_ge (by omega) (by omega)), fun _ => z_isDg bk (fun _ => z_t2' ⟨k93 t (by omega), fun q => ⟨k93 t (by omega), k90 _ (by omega), go _ ?_⟩, fun q => ⟨k93 t (by omega), go _ ?_⟩⟩) (fun q => absurd dg q)⟩
                · have := (nI_leI (b := 1000000) (by omega) (by decide)).mp q
                  rw [env, if_neg (by omega), show (10 : Int32) = nI 10 from rfl, pk_mul, nI_add, show (48 : Int32) = nI 48 from rfl, pk_sub (by omega)]
                  congr 1
                  omega
                · rw [env, if_pos]
                  rcases Nat.lt_or_ge 1000000 (z_nv B k c) with y | y
                  · exact y
                  · exact absurd (nI_le (b := 1000000) y (by decide)) q
            exact ⟨e - k + 1, loop (e - k) 0 j1 (by omega) s1 v92 v94 (by rw [v93]; rfl)⟩
          · have evl : z_vl B len t = 0 := if_neg (fun z => dg (by rw [← hp]; exact z.2))
            have c := c247 j1 s1 ⟨v92, by rw [v93, evl]; rfl, by rw [v94, hp]⟩
            exact ⟨1, fun _ => c, fun _ => z_isDg bk (fun y => absurd y dg) (fun _ => z_f' c)⟩
        have c100 : w_X10_splits_100 84 (nI len) T n r w Q (w_X10_splits_7 84 (nI len) T n r w Q F) (nI k) (z_tb (B k)) (nI e) j := by
          unfold w_X10_splits_100
          rw [r11, r12, r13, hsp.2.2.1, nI_clamp (by omega)]
          refine ⟨k94 t (by omega), fun j1 e1 => ?_⟩
          have s1 : z_sp i j1 B len t t := by rw [e1]; exact z_sp_st (by decide) hsp
          rw [s1.2.2.1, nI_clamp (by omega)]
          refine ⟨k93 t (by omega), fun j2 e2 => ?_⟩
          have s2 : z_sp i j2 B len t t := by rw [e2]; exact z_sp_st (by decide) s1
          have v93 : j2 93 t = 0 := by rw [e2, kw_st_same]
          have v94 : j2 94 t = nI k := by rw [e2, kw_st_off (by decide), e1, kw_st_same]
          have etk : z_tk B len t = if z_ltr (B k) = true then z_wc (z_bs B k e) else if z_dgt (B k) = true then 50 else 100 + B k := by
            unfold z_tk
            rw [hp, if_pos hkl, he]
          rw [s2.2.2.1]
          refine z_isSm bk (fun y => z_t2' (z_wordOf hS hB (by rw [s2.1 89 (by decide) (by decide) (by decide) (by decide)]; exact hw) (j90 j2 s2) (by omega) (by omega) (c165 j2 _ (by rw [etk, if_pos y]) s2 v93 v94))) (fun y => z_f' (z_isDg bk (fun y2 => z_t2' (c165 j2 _ (by rw [etk, if_neg y, if_pos y2]; rfl) s2 v93 v94)) (fun y2 => z_f' (c165 j2 _ ?_ s2 v93 v94))))
          rw [b4, etk, if_neg y, if_neg y2, show (100 : Int32) = nI 100 from rfl, nI_add]
        have more : ∀ (P : Nat → Bool) (W : Nat → Int32 → Prop), (∀ N q, q ≤ len → (¬ (q < len ∧ P (B q) = true) → q = e → W (N + 1) (nI q)) ∧ (q < len → P (B q) = true → W N (nI (q + 1)) → W (N + 1) (nI q))) → ∀ (d q : Nat), len - q = d → q ≤ len → z_adv P B len q = e → W (d + 1) (nI q) := by
          intro P W hst d
          induction d with
          | zero => intro q hd hq hadv; exact (hst 0 q hq).1 (fun z => by omega) (by rw [← hadv, z_adv_stop (fun z => by omega)])
          | succ d ihd =>
            intro q hd hq hadv
            by_cases y : P (B q) = true
            · exact (hst (d + 1) q hq).2 (by omega) y (ihd (q + 1) (by omega) (by omega) (by rw [← hadv, z_adv_step (by omega) y]))
            · exact (hst (d + 1) q hq).1 (fun z => y z.2) (by rw [← hadv, z_adv_stop (fun z => y z.2)])
        refine z_isSm bk (fun y => z_t2' ?_) (fun y => z_f' ?_)
        · have c68 : w_X10_splits_68 84 (nI len) T n r w Q (w_X10_splits_7 84 (nI len) T n r w Q F) (nI k) (z_tb (B k)) (nI e) j := z_isDg bk (fun y2 => by
            exfalso
            unfold z_ltr at y
            unfold z_dgt at y2
            rw [decide_eq_true_iff] at y y2
            omega) (fun _ => z_f' c100)
          refine ⟨len - (k + 1) + 1, more z_ltr (fun N x => w_X10_splits_43 84 (nI len) T n r w Q (w_X10_splits_7 84 (nI len) T n r w Q F) N (nI k) (z_tb (B k)) x j) (fun N q hq => ⟨fun hs hqe => ?_, fun q1 q2 hn => ?_⟩) _ (k + 1) rfl (by omega) (by rw [ete]; unfold z_ten; rw [if_pos y])⟩
          · subst hqe
            show s_X10_splits_43 84 (nI len) T n r w Q _ _ (nI k) (z_tb (B k)) (nI q) j
            unfold s_X10_splits_43
            refine ⟨fun _ => c68, fun y2 => ?_⟩
            have hql : q < len := by
              rcases Nat.lt_or_ge q len with z | z
              · exact z
              · exact absurd (nI_le z (by omega)) y2
            rw [r7, nI_clamp (by omega), j90 j hsp q (by omega)]
            exact ⟨k90 q (by omega), z_isSm (hB q) (fun y3 => absurd ⟨hql, y3⟩ hs) (fun _ => z_f' c68)⟩
          · show s_X10_splits_43 84 (nI len) T n r w Q _ _ (nI k) (z_tb (B k)) (nI q) j
            unfold s_X10_splits_43
            rw [r7, nI_clamp (by omega), j90 j hsp q (by omega), nI_1]
            exact ⟨fun y2 => absurd y2 (nI_ge q1 (by omega)), fun _ => ⟨k90 q (by omega), z_isSm (hB q) (fun _ => z_t2' hn) (fun y3 => absurd q2 y3)⟩⟩
        · refine z_isDg bk (fun y2 => z_t2' ?_) (fun y2 => z_f' ?_)
          · refine ⟨len - (k + 1) + 1, more z_dgt (fun N x => w_X10_splits_75 84 (nI len) T n r w Q (w_X10_splits_7 84 (nI len) T n r w Q F) N (nI k) (z_tb (B k)) x j) (fun N q hq => ⟨fun hs hqe => ?_, fun q1 q2 hn => ?_⟩) _ (k + 1) rfl (by omega) (by rw [ete]; unfold z_ten; rw [if_neg y, if_pos y2])⟩
            · subst hqe
              show s_X10_splits_75 84 (nI len) T n r w Q _ _ (nI k) (z_tb (B k)) (nI q) j
              unfold s_X10_splits_75
              refine ⟨fun _ => c100, fun y2 => ?_⟩
              have hql : q < len := by
                rcases Nat.lt_or_ge q len with z | z
                · exact z
                · exact absurd (nI_le z (by omega)) y2
              rw [r7, nI_clamp (by omega), j90 j hsp q (by omega)]
              exact ⟨k90 q (by omega), z_isDg (hB q) (fun y3 => absurd ⟨hql, y3⟩ hs) (fun _ => z_f' c100)⟩
            · show s_X10_splits_75 84 (nI len) T n r w Q _ _ (nI k) (z_tb (B k)) (nI q) j
              unfold s_X10_splits_75
              rw [r7, nI_clamp (by omega), j90 j hsp q (by omega), nI_1]
              exact ⟨fun y2 => absurd y2 (nI_ge q1 (by omega)), fun _ => ⟨k90 q (by omega), z_isDg (hB q) (fun _ => z_t2' hn) (fun y3 => absurd q2 y3)⟩⟩
          · have ek : e = k + 1 := by
              rw [ete]
              unfold z_ten
              rw [if_neg y, if_neg y2]
            rw [← ek]
            exact c100
  intro i2 e2
  refine ⟨len + 1, main (len + 1) 0 0 i2 (by omega) (by omega) (Nat.le_refl _) (fun u hu => absurd hu (Nat.not_lt_zero u)) rfl ⟨fun b b1 _ _ _ => by rw [e2, kw_st_offF b1], fun f hf => by rw [e2, kw_st_row, if_neg hf], by rw [e2, kw_st_same]; rfl, fun u hu => absurd hu (Nat.not_lt_zero u)⟩⟩
end ZSP
