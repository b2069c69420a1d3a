-- WHAT HOLDS BEHIND EVERY CALL
def z_laws (T : kw_T) (n : Nat) (r : kw_R) (i : kw_I) (ro : Nat → Nat) (K : Nat → Int32) : Prop := (∀ j, j < 6 → kw_el T 1 (ro j) ∧ ro j < n) ∧ ∃ nl, nl ≤ 6 ∧ K 179 = nI nl ∧ (K 180 = -1 ∨ ∃ f, f < nl ∧ K 180 = nI f) ∧ ∀ j, j < nl → ro j + 2 < n ∧ ∃ L, z_lw T r i (ro j) L ∧ z_toks K j L
/-- a State object at s -/
def z_sh (T : kw_T) (r : kw_R) (s : Nat) : Prop := T s = (0, 6) ∧ T (s + 1) = (5, 6) ∧ (∀ j, j < 6 → T (s + 2 + j) = (1, 10) ∧ r (s + 1) j = s + 2 + j) ∧ T (s + 8) = (5, 3) ∧ (∀ q, q < 3 → T (s + 9 + q) = (1, 36) ∧ r (s + 8) q = s + 9 + q) ∧ T (s + 12) = (1, 8) ∧ T (s + 13) = (1, 2) ∧ T (s + 14) = (7, 6) ∧ r s 0 = s + 1 ∧ r s 1 = s + 8 ∧ r s 2 = s + 12 ∧ r s 3 = s + 13 ∧ r s 4 = s + 14
def z_now (T : kw_T) (n : Nat) (r : kw_R) (i : kw_I) : Prop := z_SK i 2 (i 86) ∧ (∃ nv, z_Kr (i 86) nv) ∧ z_laws T n r i (r 16) (i 86)
def z_iK (i : kw_I) (k : Nat) : Nat → Int32 := fun q => i 87 (4987 * k + q)
def z_im (T : kw_T) (n : Nat) (r : kw_R) (i : kw_I) : Prop := (∀ k, k < 2 → kw_b (i 88 k) ∧ (i 88 k = 0 → r 17 k = 0) ∧ (i 88 k ≠ 0 → 103 ≤ r 17 k ∧ r 17 k + 14 < n ∧ z_sh T r (r 17 k) ∧ z_SK i (r 17 k) (z_iK i k) ∧ (∃ nv, z_Kr (z_iK i k) nv) ∧ z_laws T n r i (r (r 17 k + 14)) (z_iK i k))) ∧ (r 17 0 = r 17 1 → r 17 0 = 0)
def z_by (x y : Int32) : Prop := ∃ b, b < 256 ∧ x = nI b ∧ y = if b < 128 then nI b else nI b - 256
def z_tp (s18 : Int32) (b19 : Nat → Int32) (t84 : Int32) (b90 : Nat → Int32) : Prop := ∃ sz, sz ≤ 400 ∧ s18 = nI sz ∧ t84 = nI sz ∧ ∀ j, j < 400 → z_by (b19 j) (b90 j)
def z_sc (a9 a10 a11 : Int32) (i83 : Nat → Int32) (b0 b5 b10 : Int32) (i85 : Nat → Int32) : Prop := a9 = b0 ∧ a10 = b5 ∧ a11 = b10 ∧ i83 0 = i85 1 ∧ i83 1 = i85 2 ∧ i83 2 = i85 5 ∧ i83 3 = i85 6
def z_dr (i : kw_I) : Prop := ∃ d, d ≤ 10 ∧ i 70 2 = nI d ∧ i 84 36 = nI d ∧ ∀ v, v < d → i 82 v = i 100 v ∧ ∀ c, c < 36 → i (72 + v) c = i 99 (36 * (v + 1) + c)
def z_words : List Nat := [119, 101, 97, 118, 101, 115, 32, 105, 102, 32, 111, 114, 32, 97, 110, 100, 32, 110, 111, 116, 32, 120, 32, 121, 32, 118, 105, 108, 108, 97, 103, 101, 32, 115, 101, 101, 110, 32, 119, 97, 115, 32, 108, 101, 102, 116, 32, 97, 98, 111, 118, 101, 32, 116, 97, 115, 116, 101, 32, 121, 101, 97, 114, 32]
def z_wd (i89 : Nat → Int32) : Prop := ∀ k, k < 64 → i89 k = nI (z_words.getD k 0)
-- what the class may keep of its guesses
noncomputable def z_lS (K : Nat → Int32) (L : List z_Sm) (nv S : Nat) : Nat := z_lk (z_go (z_env K L S (z_W0 K) z_nofx) 0 (fun c => K (60 + c)) nv) (fun c => K (60 + c))
def z_pop (S : Nat) : Nat := fb_ct (fun k => S.testBit k) 10
def z_lb (f : Nat → Nat) (nv s : Nat) (a b c : Int32) : Prop := (a = -1 ∧ ∀ S, S < 2 ^ nv → z_pop S ≠ s) ∨ ∃ S, S < 2 ^ nv ∧ z_pop S = s ∧ a = nI (f S) ∧ b = nI S ∧ (∀ S', S' < 2 ^ nv → z_pop S' = s → f S' ≤ f S) ∧ (∀ S', S' < S → z_pop S' = s → f S' < f S) ∧ c = nI (fb_ct (fun S' => decide (z_pop S' = s ∧ f S' = f S)) (2 ^ nv))
def z_gW (K : Nat → Int32) (v col u : Nat) : Nat := if u = v then z_W0 K u ||| 2 ^ col else z_W0 K u
noncomputable def z_gf (K : Nat → Int32) (L : List z_Sm) (nv k : Nat) : Nat := z_lk (z_go (z_env K L 0 (z_gW K (k / 8) (k % 8)) z_nofx) 0 (fun c => K (60 + c)) nv) (fun c => K (60 + c))
def z_gb (K : Nat → Int32) (L : List z_Sm) (nv : Nat) (a b c : Int32) : Prop := (a = -1 ∧ b = -1 ∧ c = -1 ∧ ∀ k, k < 8 * nv → (z_W0 K (k / 8)).testBit (k % 8) = true) ∨ ∃ k, k < 8 * nv ∧ (z_W0 K (k / 8)).testBit (k % 8) = false ∧ a = nI (z_gf K L nv k) ∧ b = nI (k / 8) ∧ c = nI (k % 8) ∧ (∀ k', k' < 8 * nv → (z_W0 K (k' / 8)).testBit (k' % 8) = false → z_gf K L nv k' ≤ z_gf K L nv k) ∧ ∀ k', k' < k → (z_W0 K (k' / 8)).testBit (k' % 8) = false → z_gf K L nv k' < z_gf K L nv k
def z_fx (v c : Nat) (x : Int32) : Nat → Nat → Option Int32 := fun v' c' => if v' = v ∧ c' = c then some x else none
/-- the slip k explains what was seen -/
def z_slp (K : Nat → Int32) (L : List z_Sm) (nv k : Nat) : Prop := z_on K L (k / 288 + 1) (k % 288 / 8) ≠ nI (k % 8) ∧ ∀ c, c < 36 → z_go (z_env K L 0 (z_W0 K) (z_fx (k / 288) (k % 288 / 8) (nI (k % 8)))) (k / 288) (z_on K L (k / 288)) (nv - k / 288) c = K (132 + c)
noncomputable def z_slpB (K : Nat → Int32) (L : List z_Sm) (nv k : Nat) : Bool := @decide (z_slp K L nv k) (Classical.propDecidable _)
def z_sb (i63 : Nat → Int32) (c10 : Int32) (K : Nat → Int32) (L : List z_Sm) (nv : Nat) : Prop := (∀ pl, pl < 36 * nv → ∃ b, b < 256 ∧ i63 pl = nI b ∧ ∀ col, col < 8 → b.testBit col = z_slpB K L nv (8 * pl + col)) ∧ c10 = nI (fb_ct (z_slpB K L nv) (288 * nv))
def z_gs (i : kw_I) (K : Nat → Int32) (nv : Nat) (L : List z_Sm) : Prop := (∀ s, s < 4 → i 61 s ≠ 0 → z_lb (z_lS K L nv) nv s (i (57 + s) 0) (i (57 + s) 1) (i (57 + s) 2)) ∧ (i 52 8 ≠ 0 → z_gb K L nv (i 62 0) (i 62 1) (i 62 2)) ∧ (i 52 11 ≠ 0 → z_sb (i 63) (i 52 10) K L nv)
def z_Lk (K : Nat → Int32) (L : List z_Sm) : Prop := K 180 ≠ -1 → ∃ j, j < 6 ∧ K 180 = nI j ∧ z_toks K j L
def z_cch (T : kw_T) (r : kw_R) (i : kw_I) (w : kw_L) : Prop := i 1 12 = 0 → ∃ nv L, z_Kr (i 86) nv ∧ z_Lk (i 86) L ∧ z_rd T r i w (i 86) nv L ∧ z_gs i (i 86) nv L
def z_Inv (T : kw_T) (n : Nat) (r : kw_R) (i : kw_I) (w : kw_L) : Prop := z_S T r ∧ (103 ≤ n ∧ ∀ a, (T a).1 < 8 → a < n) ∧ z_now T n r i ∧ z_im T n r i ∧ z_tp (i 18 1) (i 19) (i 84 9) (i 90) ∧ z_sc (i 1 9) (i 1 10) (i 1 11) (i 83) (i 84 0) (i 84 5) (i 84 10) (i 85) ∧ z_dr i ∧ z_wd (i 89) ∧ i 24 6 = 0 ∧ z_cch T r i w
-- WHAT STAYS
theorem z_SK_eq {i i' : kw_I} {s : Nat} {K K' : Nat → Int32} (h : z_SK i s K) (hs : i' s 5 = i s 5 ∧ i' s 6 = i s 6 ∧ i' s 7 = i s 7) (hr : ∀ b, s + 2 ≤ b → b ≤ s + 13 → i' b = i b) (hK : ∀ k, k < 181 → K' k = K k) : z_SK i' s K' := by
  obtain ⟨a1, a2, a3, a4, a5, a6, a7⟩ := h
  refine ⟨fun j v hj hv => ?_, fun q c hq hc => ?_, fun c hc => ?_, fun t ht => ?_, ?_, ?_, ?_⟩
  · rw [hr _ (by omega) (by omega), hK _ (by omega)]; exact a1 j v hj hv
  · rw [hr _ (by omega) (by omega), hK _ (by omega)]; exact a2 q c hq hc
  · rw [hr _ (by omega) (by omega), hK _ (by omega)]; exact a3 c hc
  · rw [hr _ (by omega) (by omega), hK _ (by omega)]; exact a4 t ht
  · rw [hs.1, hK _ (by omega)]; exact a5
  · rw [hs.2.1, hK _ (by omega)]; exact a6
  · rw [hs.2.2, hK _ (by omega)]; exact a7
theorem z_laws_eq {T : kw_T} {n : Nat} {r r' : kw_R} {i i' : kw_I} {ro ro' : Nat → Nat} {K : Nat → Int32} (h : z_laws T n r i ro K) (hro : ∀ j, j < 6 → ro' j = ro j) (hr : ∀ b, 103 ≤ b → T b = (0, 1) → r' b = r b) (hi : ∀ a b, 103 ≤ a → T a = (0, 1) → a ≤ b → b ≤ a + 2 → i' b = i b) : z_laws T n r' i' ro' K := by
  obtain ⟨h1, nl, h2, h3, h4, h5⟩ := h
  refine ⟨fun j hj => by rw [hro j hj]; exact h1 j hj, nl, h2, h3, h4, fun j hj => ?_⟩
  obtain ⟨g1, L, g2, g3⟩ := h5 j hj
  rw [hro j (by omega)]
  obtain ⟨cd, st, hl, -⟩ := g2.2
  exact ⟨g1, L, z_lw_eq g2 (fun _ _ _ => rfl) (hr _ g2.1 hl.1) (fun b b1 b2 => hi _ b g2.1 hl.1 b1 b2), g3⟩
/-- what the class and the reference keep beside the state: their scratch -/
def z_scr (b : Nat) : Prop := b = 20 ∨ b = 21 ∨ b = 22 ∨ b = 53 ∨ b = 54 ∨ b = 55 ∨ (64 ≤ b ∧ b ≤ 69) ∨ (91 ≤ b ∧ b ≤ 98) ∨ b = 101 ∨ b = 102
theorem z_rd_eq {T : kw_T} {r : kw_R} {i i' : kw_I} {w w' : kw_L} {K : Nat → Int32} {nv : Nat} {L : List z_Sm} (h : z_rd T r i w K nv L) (h24 : i' 24 = i 24) (h26 : i' 26 = i 26) (h27 : i' 27 = i 27) (h29 : i' 29 8 = i 29 8) (hd : ∀ b, 103 ≤ b → i' b = i b) (hu : w' 25 = w 25) (h234 : i' 23 4 = i 23 4) (ho : ∀ b, 31 ≤ b → b ≤ 51 → i' b = i b) (hnv : nv ≤ 10) : z_rd T r i' w' K nv L := by
  obtain ⟨h1, h2, h3, h4, h5⟩ := h
  refine ⟨h1, z_lE_io h2 h24 h26 h27 h29 hd hu, by rw [h24]; exact h3, fun v hv => ?_, fun q v hv => ?_⟩
  · rw [ho _ (by omega) (by omega)]; exact h4 v hv
  · rw [ho _ (by omega) (by omega)]; exact h5 (by rw [← h234]; exact q) v hv
theorem z_gs_eq {i i' : kw_I} {K : Nat → Int32} {nv : Nat} {L : List z_Sm} (h : z_gs i K nv L) (h52 : i' 52 8 = i 52 8 ∧ i' 52 10 = i 52 10 ∧ i' 52 11 = i 52 11) (ho : ∀ b, 57 ≤ b → b ≤ 63 → i' b = i b) : z_gs i' K nv L := by
  obtain ⟨h1, h2, h3⟩ := h
  unfold z_gs
  rw [h52.1, h52.2.1, h52.2.2, ho 61 (by decide) (by decide), ho 62 (by decide) (by decide), ho 63 (by decide) (by decide)]
  refine ⟨fun s hs => ?_, h2, h3⟩
  rw [ho (57 + s) (by omega) (by omega)]
  exact h1 s hs
theorem z_im_eq {T : kw_T} {n : Nat} {r : kw_R} {i i' : kw_I} (h : z_im T n r i) (h87 : i' 87 = i 87) (h88 : i' 88 = i 88) (hd : ∀ b, 103 ≤ b → i' b = i b) : z_im T n r i' := by
  obtain ⟨h1, h2⟩ := h
  refine ⟨fun k hk => ?_, h2⟩
  obtain ⟨g1, g2, g3⟩ := h1 k hk
  rw [h88]
  refine ⟨g1, g2, fun q => ?_⟩
  obtain ⟨a1, a2, a3, a4, a5, a6⟩ := g3 q
  have e : z_iK i' k = z_iK i k := by
    unfold z_iK
    rw [h87]
  rw [e]
  refine ⟨a1, a2, a3, z_SK_eq a4 ?_ (fun b b1 b2 => hd b (by omega)) (fun _ _ => rfl), a5, z_laws_eq a6 (fun _ _ => rfl) (fun _ _ _ => rfl) (fun a b a1 _ b1 _ => hd b (by omega))⟩
  rw [hd _ a1]
  exact ⟨rfl, rfl, rfl⟩
/-- scratch alone is another -/
theorem z_Inv_scr {T : kw_T} {n : Nat} {r : kw_R} {i i' : kw_I} {w w' : kw_L} (h : z_Inv T n r i w) (hi : ∀ b, ¬ z_scr b → b ≠ 84 → b ≠ 52 → b ≠ 29 → i' b = i b) (h84 : i' 84 0 = i 84 0 ∧ i' 84 5 = i 84 5 ∧ i' 84 9 = i 84 9 ∧ i' 84 10 = i 84 10 ∧ i' 84 36 = i 84 36) (h52 : i' 52 8 = i 52 8 ∧ i' 52 10 = i 52 10 ∧ i' 52 11 = i 52 11) (h29 : i' 29 8 = i 29 8) (hw : w' 25 = w 25) : z_Inv T n r i' w' := by
  have hb : ∀ b, ¬ z_scr b → b ≠ 84 → b ≠ 52 → b ≠ 29 → i' b = i b := hi
  have lo : ∀ b, b < 20 → i' b = i b := fun b hb => hi b (by unfold z_scr; omega) (by omega) (by omega) (by omega)
  have hd : ∀ b, 103 ≤ b → i' b = i b := fun b hb => hi b (by unfold z_scr; omega) (by omega) (by omega) (by omega)
  have ho : ∀ b, 30 ≤ b → b ≤ 51 → i' b = i b := fun b h1 h2 => hi b (by unfold z_scr; omega) (by omega) (by omega) (by omega)
  have hg : ∀ b, 56 ≤ b → b ≤ 63 → i' b = i b := fun b h1 h2 => hi b (by unfold z_scr; omega) (by omega) (by omega) (by omega)
  have hw1 : ∀ b, 70 ≤ b → b ≤ 83 → i' b = i b := fun b h1 h2 => hi b (by unfold z_scr; omega) (by omega) (by omega) (by omega)
  have hm : ∀ b, 85 ≤ b → b ≤ 90 → i' b = i b := fun b h1 h2 => hi b (by unfold z_scr; omega) (by omega) (by omega) (by omega)
  have hn2 : ∀ b, 99 ≤ b → b ≤ 100 → i' b = i b := fun b h1 h2 => hi b (by unfold z_scr; omega) (by omega) (by omega) (by omega)
  have hl : ∀ b, 23 ≤ b → b ≤ 28 → i' b = i b := fun b h1 h2 => hi b (by unfold z_scr; omega) (by omega) (by omega) (by omega)
  obtain ⟨c1, c2, ⟨n1, n2, n3⟩, c4, c5, c6, c7, c8, c9, c10⟩ := h
  have e86 : i' 86 = i 86 := hm 86 (by decide) (by decide)
  refine ⟨c1, c2, ⟨?_, ?_, ?_⟩, ?_, ?_, ?_, ?_, ?_, ?_, ?_⟩
  · rw [e86]
    exact z_SK_eq n1 (by rw [lo 2 (by decide)]; exact ⟨rfl, rfl, rfl⟩) (fun b b1 b2 => lo b (by omega)) (fun _ _ => rfl)
  · rw [e86]
    exact n2
  · rw [e86]
    exact z_laws_eq n3 (fun _ _ => rfl) (fun _ _ _ => rfl) (fun a b a1 _ b1 _ => hd b (by omega))
  · exact z_im_eq c4 (hm 87 (by decide) (by decide)) (hm 88 (by decide) (by decide)) hd
  · rw [lo 18 (by decide), lo 19 (by decide), h84.2.2.1, hm 90 (by decide) (by decide)]
    exact c5
  · rw [lo 1 (by decide), hw1 83 (by decide) (by decide), h84.1, h84.2.1, h84.2.2.2.1, hm 85 (by decide) (by decide)]
    exact c6
  · obtain ⟨d, d1, d2, d3, d4⟩ := c7
    refine ⟨d, d1, by rw [hw1 70 (by decide) (by decide)]; exact d2, by rw [h84.2.2.2.2]; exact d3, fun v hv => ?_⟩
    rw [hw1 82 (by decide) (by decide), hn2 100 (by decide) (by decide), hn2 99 (by decide) (by decide), hw1 (72 + v) (by omega) (by omega)]
    exact d4 v hv
  · rw [hm 89 (by decide) (by decide)]
    exact c8
  · rw [hl 24 (by decide) (by decide)]
    exact c9
  · intro q
    rw [lo 1 (by decide)] at q
    obtain ⟨nv, L, k1, k2, k3, k4⟩ := c10 q
    rw [e86]
    exact ⟨nv, L, k1, k2, z_rd_eq k3 (hl 24 (by decide) (by decide)) (hl 26 (by decide) (by decide)) (hl 27 (by decide) (by decide)) h29 hd hw (by rw [hl 23 (by decide) (by decide)]) (fun b b1 b2 => ho b (by omega) b2) k1.1, z_gs_eq k4 h52 (fun b b1 b2 => hg b (by omega) b2)⟩
-- RANGES OF ANOTHER ROW
theorem z_nv_one {K : Nat → Int32} {a b : Nat} (h1 : z_Kr K a) (h2 : z_Kr K b) : a = b := by
  have h3 := h1.2.1
  rw [h2.2.1] at h3
  have := h1.1
  have := h2.1
  exact ((nI_eq (by omega) (by omega)).mp h3).symm
/-- what the weaving asks of a kept row -/
def z_rel (K K' : Nat → Int32) : Prop := (∀ k, k < 168 → K' k = K k) ∧ K' 177 = K 177 ∧ K' 178 = K 178 ∧ K' 180 = K 180
theorem z_cv_rel {K K' : Nat → Int32} (h : z_rel K K') {L : List z_Sm} {S v : Nat} {Wf Wf' : Nat → Nat} {fx : Nat → Nat → Option Int32} (hv : v < 10) (hW : Wf' v = Wf v) (c : Nat) (a b d : Int32) : z_cv (z_env K' L S Wf' fx) v c (if (z_env K' L S Wf' fx).2.1 v c = true then a else -1) b d = z_cv (z_env K L S Wf fx) v c (if (z_env K L S Wf fx).2.1 v c = true then a else -1) b d := by
  have e1 : z_see0 K' v c = z_see0 K v c := by
    unfold z_see0
    rw [h.1 _ (by omega), h.1 _ (by omega), h.1 _ (by omega), h.1 _ (by omega)]
  unfold z_cv z_env
  show (match fx v c with | some x => x | none => nI (z_nr (Wf' v) (z_wi (K' 180) L (z_ask v c (if (S.testBit v || z_see0 K' v c) = true then a else -1) b d (K' (6 * v + 4)) (K' 177)) (if (if (S.testBit v || z_see0 K' v c) = true then a else -1) = -1 then (K' (6 * v + 4)).toInt64 else (if (S.testBit v || z_see0 K' v c) = true then a else -1).toInt64)).toInt)) = (match fx v c with | some x => x | none => nI (z_nr (Wf v) (z_wi (K 180) L (z_ask v c (if (S.testBit v || z_see0 K v c) = true then a else -1) b d (K (6 * v + 4)) (K 177)) (if (if (S.testBit v || z_see0 K v c) = true then a else -1) = -1 then (K (6 * v + 4)).toInt64 else (if (S.testBit v || z_see0 K v c) = true then a else -1).toInt64)).toInt))
  rw [e1, hW, h.1 (6 * v + 4) (by omega), h.2.1, h.2.2.2]
theorem z_go_rel {K K' : Nat → Int32} (h : z_rel K K') {L : List z_Sm} {S k nv : Nat} {Wf Wf' : Nat → Nat} {fx : Nat → Nat → Option Int32} {f f' : Nat → Int32} (hn : nv ≤ 10) (hW : ∀ v, v < nv → Wf' v = Wf v) (hf : ∀ c, c < 36 → f' c = f c) : ∀ m, k + m ≤ nv → ∀ c, c < 36 → z_go (z_env K' L S Wf' fx) k f' m c = z_go (z_env K L S Wf fx) k f m c := by
  intro m
  induction m with
  | zero => exact fun _ => hf
  | succ m ih =>
    intro hm c hc
    show z_wv (z_env K' L S Wf' fx) (k + m) (z_go (z_env K' L S Wf' fx) k f' m) c = z_wv (z_env K L S Wf fx) (k + m) (z_go (z_env K L S Wf fx) k f m) c
    rw [z_wv_env (E' := z_env K L S Wf fx) (fun c a b d _ => z_cv_rel h (by omega) (hW _ (by omega)) c a b d) c hc]
    exact z_wv_eq (fun c hc => ih (by omega) c hc) c hc
theorem z_bk_rel {K K' : Nat → Int32} (h : z_rel K K') {L : List z_Sm} {S nv : Nat} {Wf Wf' : Nat → Nat} {fx : Nat → Nat → Option Int32} {f f' : Nat → Int32} (hn : nv ≤ 10) (hW : ∀ v, v < nv → Wf' v = Wf v) (hf : ∀ c, c < 36 → f' c = f c) : ∀ m, m ≤ nv → ∀ c, c < 36 → z_bk (z_env K' L S Wf' fx) f' nv m c = z_bk (z_env K L S Wf fx) f nv m c := by
  intro m
  induction m with
  | zero => exact fun _ => hf
  | succ m ih =>
    intro hm c hc
    show z_wv (z_env K' L S Wf' fx) (nv - 1 - m) (z_bk (z_env K' L S Wf' fx) f' nv m) c = z_wv (z_env K L S Wf fx) (nv - 1 - m) (z_bk (z_env K L S Wf fx) f nv m) c
    rw [z_wv_env (E' := z_env K L S Wf fx) (fun c a b d _ => z_cv_rel h (by omega) (hW _ (by omega)) c a b d) c hc]
    exact z_wv_eq (fun c hc => ih (by omega) c hc) c hc
theorem z_W0_rel {K K' : Nat → Int32} (h : z_rel K K') {v : Nat} (hv : v < 10) : z_W0 K' v = z_W0 K v := by
  unfold z_W0
  rw [h.1 _ (by omega)]
section ZREL
variable {K K' : Nat → Int32} {L : List z_Sm} {nv : Nat}
theorem z_on_rel (h : z_rel K K') (hn : nv ≤ 10) : ∀ m, m ≤ nv → ∀ c, c < 36 → z_on K' L m c = z_on K L m c := fun m hm => z_go_rel h hn (fun v hv => z_W0_rel h (by omega)) (fun c hc => h.1 _ (by omega)) m (by omega)
theorem z_rw_rel (h : z_rel K K') (hn : nv ≤ 10) {v : Nat} : ∀ c, c < 36 → z_rw K' L nv v c = z_rw K L nv v c := z_bk_rel h hn (fun v hv => z_W0_rel h (by omega)) (fun c hc => h.1 _ (by omega)) _ (by omega)
theorem z_lS_rel (h : z_rel K K') (hn : nv ≤ 10) (S : Nat) : z_lS K' L nv S = z_lS K L nv S := z_lk_eq (z_go_rel h hn (fun v hv => z_W0_rel h (by omega)) (fun c hc => h.1 _ (by omega)) nv (by omega)) (fun c hc => h.1 _ (by omega))
theorem z_gf_rel (h : z_rel K K') (hn : nv ≤ 10) (k : Nat) : z_gf K' L nv k = z_gf K L nv k := z_lk_eq (z_go_rel h hn (fun v hv => by unfold z_gW; rw [z_W0_rel h (by omega)]) (fun c hc => h.1 _ (by omega)) nv (by omega)) (fun c hc => h.1 _ (by omega))
theorem z_slp_rel (h : z_rel K K') (hn : nv ≤ 10) {k : Nat} (hk : k < 288 * nv) : z_slp K' L nv k ↔ z_slp K L nv k := by
  unfold z_slp
  rw [z_on_rel h hn (k / 288 + 1) (by omega) (k % 288 / 8) (by omega)]
  refine and_congr Iff.rfl ⟨fun q c hc => ?_, fun q c hc => ?_⟩
  · rw [← z_go_rel h hn (fun v hv => z_W0_rel h (by omega)) (fun c hc => z_on_rel h hn (k / 288) (by omega) c hc) (nv - k / 288) (by omega) c hc, q c hc, h.1 _ (by omega)]
  · rw [z_go_rel h hn (fun v hv => z_W0_rel h (by omega)) (fun c hc => z_on_rel h hn (k / 288) (by omega) c hc) (nv - k / 288) (by omega) c hc, q c hc, h.1 _ (by omega)]
theorem z_slpB_rel (h : z_rel K K') (hn : nv ≤ 10) {k : Nat} (hk : k < 288 * nv) : z_slpB K' L nv k = z_slpB K L nv k := by
  unfold z_slpB
  have := z_slp_rel (L := L) h hn hk
  by_cases q : z_slp K L nv k
  · rw [@decide_eq_true _ (Classical.propDecidable _) q, @decide_eq_true _ (Classical.propDecidable _) (this.mpr q)]
  · rw [@decide_eq_false _ (Classical.propDecidable _) q, @decide_eq_false _ (Classical.propDecidable _) (fun z => q (this.mp z))]
theorem z_rd_rel {T : kw_T} {r : kw_R} {i : kw_I} {w : kw_L} (hr : z_rd T r i w K nv L) (h : z_rel K K') (hn : nv ≤ 10) : z_rd T r i w K' nv L := by
  obtain ⟨h1, ⟨⟨a1, a2, a3, a4, cd, st, nc, a5, a6⟩, b2, b3, b4⟩, h3, h4, h5⟩ := hr
  refine ⟨h1, ⟨⟨a1, a2, fun v hv => ?_, fun v c hv hc => ?_, cd, st, nc, a5, fun ask d => ?_⟩, fun v hv => ?_, ?_, fun _ _ => rfl⟩, h3, fun v hv c hc => ?_, fun q v hv c hc => ?_⟩
  · have := a3 v hv
    show z_W0 K' v < 256 ∧ (∃ c, c < 8 ∧ (z_W0 K' v).testBit c = true) ∧ i 26 v = nI (z_W0 K' v)
    rw [z_W0_rel h (by omega)]
    exact this
  · rw [a4 v c hv hc]
    show (Nat.testBit 0 v || z_see0 K v c) = true ↔ (Nat.testBit 0 v || z_see0 K' v c) = true
    have e1 : z_see0 K' v c = z_see0 K v c := by
      unfold z_see0
      rw [h.1 _ (by omega), h.1 _ (by omega), h.1 _ (by omega), h.1 _ (by omega)]
    rw [e1]
  · rw [a6]
    show z_wi (K 180) L ask d = z_wi (K' 180) L ask d
    rw [h.2.2.2]
  · rw [b2 v hv]
    show K (6 * v + 4) = K' (6 * v + 4)
    rw [h.1 _ (by omega)]
  · rw [b3]
    show K 177 = K' 177
    rw [h.2.1]
  · rw [h4 v hv c hc, z_on_rel h hn (v + 1) (by omega) c hc]
  · rw [h5 q v hv c hc, z_rw_rel h hn c hc]
theorem z_gs_rel {i : kw_I} (hg : z_gs i K nv L) (h : z_rel K K') (hn : nv ≤ 10) : z_gs i K' nv L := by
  obtain ⟨h1, h2, h3⟩ := hg
  refine ⟨fun s hs q => ?_, fun q => ?_, fun q => ?_⟩
  · have e : z_lS K' L nv = z_lS K L nv := funext (z_lS_rel h hn)
    rw [e]
    exact h1 s hs q
  · have e : z_gf K' L nv = z_gf K L nv := funext (z_gf_rel h hn)
    rcases h2 q with ⟨a1, a2, a3, a4⟩ | ⟨k, a1, a2, a3, a4, a5, a6, a7⟩
    · exact Or.inl ⟨a1, a2, a3, fun k hk => by rw [z_W0_rel h (by omega)]; exact a4 k hk⟩
    · unfold z_gb
      rw [e]
      exact Or.inr ⟨k, a1, by rw [z_W0_rel h (by omega)]; exact a2, a3, a4, a5, fun k' hk' => by rw [z_W0_rel h (by omega)]; exact a6 k' hk', fun k' hk' => by rw [z_W0_rel h (by omega)]; exact a7 k' hk'⟩
  · obtain ⟨a1, a2⟩ := h3 q
    refine ⟨fun pl hp => ?_, ?_⟩
    · obtain ⟨b, b1, b2, b3⟩ := a1 pl hp
      exact ⟨b, b1, b2, fun col hc => by rw [z_slpB_rel h hn (by omega)]; exact b3 col hc⟩
    · rw [a2, fb_ct_cong (fun k hk => (z_slpB_rel h hn hk).symm)]
end ZREL
