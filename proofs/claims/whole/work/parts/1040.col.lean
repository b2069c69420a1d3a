-- WHAT A VILLAGE WEAVES IN A CELL, BY THE CLASS
def z_io (a : Nat) (i i' : kw_I) : Prop := ∀ b, b ≠ a → i' b = i b
theorem z_io_st {a k : Nat} {i i' : kw_I} {v : Int32} (h : z_io a i i') : z_io a i (kw_st i' a k v) := fun b hb => by rw [kw_st_offF hb]; exact h b hb
/-- what a law is asked for -/
def z_ask (v c : Nat) (was left above taste year : Int32) : Nat → Int32 := fun k => if k = 0 then nI (c % 6) else if k = 1 then nI (c / 6) else if k = 2 then nI v else if k = 3 then (if was = -1 then 0 else 1) else if k = 4 then was else if k = 5 then left else if k = 6 then above else if k = 7 then taste else year
theorem z_run_ask {cd : Nat → Nat} {ask ask' : Nat → Int32} {e : Nat} (hc : ∀ p, p < e → cd p % 16 = 1 → cd p / 16 < 9) (ha : ∀ k, k < 9 → ask k = ask' k) : ∀ (N p : Nat) (stk : List Int64), z_run cd ask e N p stk = z_run cd ask' e N p stk
  | 0, _, _ => rfl
  | N + 1, p, stk => by
    have ih := z_run_ask (e := e) hc ha N
    unfold z_run
    by_cases hp : e ≤ p
    · rw [if_pos hp, if_pos hp]
    · rw [if_neg hp, if_neg hp]
      by_cases h01 : cd p % 16 = 0 ∨ cd p % 16 = 1
      · rw [if_pos h01, if_pos h01, ih]
        by_cases h0 : cd p % 16 = 0
        · rw [if_pos h0, if_pos h0]
        · rw [if_neg h0, if_neg h0, ha _ (hc p (by omega) (by omega))]
      · rw [if_neg h01, if_neg h01]
        cases stk with
        | nil => rfl
        | cons x q =>
          dsimp only
          rw [ih, ih, ih]
          cases q with
          | nil => rfl
          | cons y q2 =>
            dsimp only
            cases z_comb (cd p % 16) y x with
            | none => rfl
            | some v => dsimp only; rw [ih]
theorem z_evC_ask {cd st : Nat → Nat} {ask ask' : Nat → Int32} {d : Int64} {m : Nat} (hc : ∀ p, p < m → cd p % 16 = 1 → cd p / 16 < 9) (ha : ∀ k, k < 9 → ask k = ask' k) : ∀ nc, (∀ k, k ≤ nc → st k ≤ m) → z_evC cd st ask d nc = z_evC cd st ask' d nc
  | 0, _ => rfl
  | k + 1, hs => by
    unfold z_evC z_clause
    rw [z_run_ask (e := st (k + 1)) (fun p hp => hc p (Nat.lt_of_lt_of_le hp (hs (k + 1) (Nat.le_refl _)))) ha, z_evC_ask hc ha k (fun j hj => hs j (by omega))]
def z_wishC (la : Nat) (cd st : Nat → Nat) (nc : Nat) (ask : Nat → Int32) (d : Int64) : Int64 := if la = 0 then d else z_evC cd st ask d nc
def z_seesC (i : kw_I) (w : kw_L) (v c : Nat) : Prop := ¬ (((i 24 6) >>> (nI v &&& 31)) &&& (1 : Int32)) = 0 ∨ ¬ ((w 25 v >>> ((nI c).toInt64 &&& 63)) &&& (1 : Int64)) = 0
section ZCO
variable {T : kw_T} {n : Nat} {r : kw_R} {i i0 : kw_I} {w w0 : kw_L} {Q : Int32 → kw_I → kw_L → Prop} {sa oa : Nat} {x2 : Int32}
/-- how a weaving ends -/
def z_cQ (i0 : kw_I) (w0 : kw_L) (W : Nat) (z : Int64) (Q : Int32 → kw_I → kw_L → Prop) : Prop := ∀ (col : Nat) (i' : kw_I) (w' : kw_L), z_io 29 i0 i' → i' 29 8 = i0 29 8 → z_wo 28 w0 w' → z_Nr W z.toInt col → Q (nI col) i' w'
theorem z_col_202 (hS : z_S T r) {v W : Nat} (hv : v < 10) (hW : W < 256) (hb : ∃ c, c < 8 ∧ W.testBit c = true) (hw : i0 26 v = nI W) {z : Int64} (hi : z_io 29 i0 i) (h8 : i 29 8 = i0 29 8) (hwo : z_wo 28 w0 w) (hQ : z_cQ i0 w0 W z Q) : w_X2_colourIn_202 24 (nI v) x2 sa oa T n r Q z i w := by
  unfold w_X2_colourIn_202
  rw [z_r24_1 hS, nI_clamp (by omega), hi 26 (by decide), hw]
  exact ⟨z_kin (z_T26 hS) hv (by decide), z_near2 hW hb (fun c hc => hQ c i w hi h8 hwo hc)⟩
theorem z_col_171 (hS : z_S T r) {v W la nc : Nat} {cd st : Nat → Nat} (hv : v < 10) (hW : W < 256) (hb : ∃ c, c < 8 ∧ W.testBit c = true) (hw : i0 26 v = nI W) (hla : r 24 7 = la) (hl : z_law T r i la cd st nc) {d : Int64} (hi : z_io 29 i0 i) (h8 : i 29 8 = i0 29 8) :
    ∀ (k : Nat) (w : kw_L), k ≤ nc → z_wo 28 w0 w → z_cQ i0 w0 W (z_evC cd st (i 29) d k) Q → w_X2_colourIn_171 24 (nI v) x2 sa oa T n r Q (k + 1) d (nI k - (1 : Int32)) i w := by
  intro k
  induction k with
  | zero =>
    intro w hk hwo hQ
    refine ⟨fun _ => z_col_202 hS hv hW hb hw hi h8 hwo hQ, fun h => absurd (by decide) h⟩
  | succ k ih =>
    intro w hk hwo hQ
    have hnc := hl.2.2.2.1
    rw [z_m1]
    refine ⟨fun h => absurd h (nI_pos (by omega)), fun _ => ?_⟩
    refine z_holds hS hla hl (by omega) (fun w' x hw' hx hx0 => ?_) (fun w' hw' hx => ?_)
    · refine ⟨fun c => absurd c (by decide), fun _ => ?_⟩
      rw [z_r24_3 hS]
      refine ⟨z_kin (k := 0) (z_T28 hS) (by decide) (by decide), ?_⟩
      have e : w' 28 ((0 : Int32)).toNatClampNeg = x := hx0
      rw [e]
      have e2 : z_evC cd st (i 29) d (k + 1) = x := by
        unfold z_evC
        rw [hx]
      rw [e2] at hQ
      exact z_col_202 hS hv hW hb hw hi h8 (fun b hb2 => (hw' b hb2).trans (hwo b hb2)) hQ
    · refine ⟨fun _ => ?_, fun c => absurd rfl c⟩
      show w_X2_colourIn_171 24 (nI v) x2 sa oa T n r Q (k + 1) d (nI k + (-1 : Int32)) i w'
      have e3 : nI k + (-1 : Int32) = nI k - (1 : Int32) := by rw [Int32.sub_eq_add_neg]
      rw [e3]
      have e2 : z_evC cd st (i 29) d (k + 1) = z_evC cd st (i 29) d k := by
        conv => lhs; unfold z_evC
        rw [hx]
      rw [e2] at hQ
      exact ih w' (by omega) (fun b hb2 => (hw' b hb2).trans (hwo b hb2)) hQ
theorem z_law_io {la nc : Nat} {cd st : Nat → Nat} (hl : z_law T r i0 la cd st nc) (h29 : 103 ≤ la) (hi : z_io 29 i0 i) : z_law T r i la cd st nc := by
  obtain ⟨h1, h2, h3, h4, h5, h6, ⟨m, h7, h8, h9, h10⟩, h11⟩ := hl
  refine ⟨h1, h2, h3, h4, by rw [hi la (by omega)]; exact h5, h6, ⟨m, h7, h8, by rw [hi (la + 2) (by omega)]; exact h9, h10⟩, by rw [hi (la + 1) (by omega)]; exact h11⟩
set_option maxHeartbeats 4000000 in
theorem z_colourIn (hS : z_S T r) {v c W la nc : Nat} {cd st : Nat → Nat} {was : Int32} (hv : v < 10) (hc : c < 36) (hW : W < 256) (hb : ∃ c, c < 8 ∧ W.testBit c = true) (hw : i 26 v = nI W) (hla : r 24 7 = la) (hl : la ≠ 0 → z_law T r i la cd st nc ∧ 103 ≤ la) (hsa : T sa = (1, 36)) (hoa : T oa = (1, 36)) (hoa2 : oa ≠ 29)
    (hwas1 : z_seesC i w v c → was = i sa c) (hwas0 : ¬ z_seesC i w v c → was = -1)
    (hQ : z_cQ i w W (z_wishC la cd st nc (z_ask v c was (if c % 6 = 0 then -1 else i oa (c - 1)) (if c < 6 then -1 else i oa (c - 6)) (i 27 v) (i 29 8)) (if was = -1 then (i 27 v).toInt64 else was.toInt64)) Q) : w_X2_colourIn 24 (nI v) (nI c) sa oa T n r i w Q := by
  have main : ∀ z : Int64, z = (if was = -1 then (i 27 v).toInt64 else was.toInt64) → w_X2_colourIn_37 24 (nI v) (nI c) sa oa T n r Q was z i w := by
    intro z hz
    rw [← hz] at hQ
    unfold w_X2_colourIn_37
    rw [hla, z_r24_4 hS]
    refine ⟨fun h0 => ?_, fun h0 => ?_⟩
    · refine z_col_202 hS hv hW hb hw (fun b _ => rfl) rfl (fun b _ => rfl) ?_
      unfold z_wishC at hQ
      rw [if_pos h0] at hQ
      exact hQ
    · obtain ⟨hlw, hla103⟩ := hl h0
      have hnc := hlw.2.2.2.1
      have k29 : ∀ k, k < 9 → kw_in T 1 29 (nI k) := fun k hk => z_kin (z_T29 hS) hk (by decide)
      have er : nI c - nI c / (6 : Int32) * (6 : Int32) = nI (c % 6) := pk_rem (d := 6) (by omega) (by decide) (by decide)
      have ed : nI c / (6 : Int32) = nI (c / 6) := pk_div (d := 6) (by omega) (by decide) (by decide)
      rw [er, ed]
      -- the end of it, from any asked row that is as it should be
      have fin : ∀ (j : kw_I), z_io 29 i j → (∀ k, k < 7 → j 29 k = z_ask v c was (if c % 6 = 0 then -1 else i oa (c - 1)) (if c < 6 then -1 else i oa (c - 6)) (i 27 v) (i 29 8) k) → j 29 8 = i 29 8 → (kw_in T 1 (r 24 2) (nI v) ∧ (kw_in T 1 (r 24 4) (7 : Int32) ∧ (∀ i159 : kw_I, i159 = kw_st j (r 24 4) ((7 : Int32)).toNatClampNeg (j (r 24 2) (nI v).toNatClampNeg) → (T (r 24 7) = (0, 1) ∧ (∃ N, w_X2_colourIn_171 24 (nI v) (nI c) sa oa T n r Q N z (((i159 (r 24 7) 0) - (1 : Int32))) i159 w))))) := by
        intro j hj hj7 hj8
        rw [z_r24_2 hS, z_r24_4 hS, hla, nI_clamp (by omega)]
        refine ⟨z_kin (z_T27 hS) hv (by decide), k29 7 (by decide), fun j2 hj2 => ⟨hlw.1, nc + 1, ?_⟩⟩
        have hio : z_io 29 i j2 := by rw [hj2]; exact z_io_st hj
        have e8 : j2 29 8 = i 29 8 := by rw [hj2, kw_st_row, if_neg (by decide), hj8]
        have hl2 := z_law_io hlw hla103 hio
        rw [hl2.2.2.2.2.1]
        refine z_col_171 hS hv hW hb hw hla hl2 hio e8 nc w (Nat.le_refl _) (fun b _ => rfl) ?_
        have hask : ∀ k, k < 9 → j2 29 k = z_ask v c was (if c % 6 = 0 then -1 else i oa (c - 1)) (if c < 6 then -1 else i oa (c - 6)) (i 27 v) (i 29 8) k := by
          intro k hk
          rcases (show k < 7 ∨ k = 7 ∨ k = 8 by omega) with q | rfl | rfl
          · rw [hj2, kw_st_row, if_neg (by show k ≠ 7; omega)]
            exact hj7 k q
          · rw [hj2]
            show kw_st j 29 7 (j 27 v) 29 7 = i 27 v
            rw [kw_st_same, hj 27 (by decide)]
          · rw [e8]
            rfl
        obtain ⟨m, -, -, g9, g10⟩ := hl2.2.2.2.2.2.2.1
        unfold z_wishC at hQ
        rw [if_neg h0, ← z_evC_ask (m := m) (fun p hp => (g9 p hp).2.2) hask nc g10] at hQ
        exact hQ
      refine ⟨k29 0 (by decide), fun i1 e1 => ⟨k29 1 (by decide), fun i2 e2 => ⟨k29 2 (by decide), fun i3 e3 => ?_⟩⟩⟩
      have c93 : ∀ y : Int32, y = (if was = -1 then 0 else 1) → w_X2_colourIn_93 24 (nI v) (nI c) sa oa T n r Q was z (nI (c % 6)) 29 (3 : Int32) y i3 w := by
        intro y hy
        refine ⟨k29 3 (by decide), fun i4 e4 => ?_⟩
        rw [z_r24_4 hS]
        refine ⟨k29 4 (by decide), fun i5 e5 => ?_⟩
        have h5 : z_io 29 i i5 := by rw [e5, e4, e3, e2, e1]; exact z_io_st (z_io_st (z_io_st (z_io_st (z_io_st (fun b _ => rfl)))))
        have c122 : ∀ y : Int32, y = (if c % 6 = 0 then -1 else i oa (c - 1)) → w_X2_colourIn_122 24 (nI v) (nI c) sa oa T n r Q z 29 (5 : Int32) y i5 w := by
          intro y5 hy5
          refine ⟨k29 5 (by decide), fun i6 e6 => ?_⟩
          have h6 : z_io 29 i i6 := by rw [e6]; exact z_io_st h5
          have c146 : ∀ y : Int32, y = (if c < 6 then -1 else i oa (c - 6)) → w_X2_colourIn_146 24 (nI v) (nI c) sa oa T n r Q z 29 (6 : Int32) y i6 w := by
            intro y6 hy6
            refine ⟨k29 6 (by decide), fun i7 e7 => fin i7 (by rw [e7]; exact z_io_st h6) ?_ ?_⟩
            · intro k hk
              rw [e7, e6, e5, e4, e3, e2, e1]
              show kw_st (kw_st (kw_st (kw_st (kw_st (kw_st (kw_st i 29 0 (nI (c % 6))) 29 1 (nI (c / 6))) 29 2 (nI v)) 29 3 y) 29 4 was) 29 5 y5) 29 6 y6 29 k = _
              rw [kw_st_row, kw_st_row, kw_st_row, kw_st_row, kw_st_row, kw_st_row, kw_st_row, hy, hy5, hy6]
              unfold z_ask
              rcases (show k = 0 ∨ k = 1 ∨ k = 2 ∨ k = 3 ∨ k = 4 ∨ k = 5 ∨ k = 6 by omega) with rfl | rfl | rfl | rfl | rfl | rfl | rfl <;> rfl
            · rw [e7, e6, e5, e4, e3, e2, e1]
              show kw_st (kw_st (kw_st (kw_st (kw_st (kw_st (kw_st i 29 0 (nI (c % 6))) 29 1 (nI (c / 6))) 29 2 (nI v)) 29 3 y) 29 4 was) 29 5 y5) 29 6 y6 29 8 = _
              rw [kw_st_row, kw_st_row, kw_st_row, kw_st_row, kw_st_row, kw_st_row, kw_st_row]
              rfl
          rw [z_r24_4 hS]
          refine ⟨fun h => c146 _ ?_, fun h => ⟨?_, c146 _ ?_⟩⟩
          · rw [if_pos ((nI_ltI (b := 6) (by omega) (by decide)).mp h)]
          · have h6c : 6 ≤ c := by
              rcases Nat.lt_or_ge c 6 with q | q
              · exact absurd (nI_lt q (by decide)) h
              · exact q
            show kw_in T 1 oa (nI c - nI 6)
            rw [pk_sub h6c]
            exact z_kin hoa (by omega) (by decide)
          · have h6c : 6 ≤ c := by
              rcases Nat.lt_or_ge c 6 with q | q
              · exact absurd (nI_lt q (by decide)) h
              · exact q
            show i6 oa (nI c - nI 6).toNatClampNeg = _
            rw [pk_sub h6c, nI_clamp (by omega), if_neg (by omega), h6 oa hoa2]
        refine ⟨fun h => c122 _ ?_, fun h => ⟨?_, c122 _ ?_⟩⟩
        · have h0c : c % 6 = 0 := by
            rcases Nat.eq_zero_or_pos (c % 6) with q | q
            · exact q
            · exact absurd h (nI_nle q (by omega))
          rw [if_pos h0c]
        · have h0c : c % 6 ≠ 0 := fun q => h (by rw [q]; decide)
          show kw_in T 1 oa (nI c - nI 1)
          rw [pk_sub (by omega)]
          exact z_kin hoa (by omega) (by decide)
        · have h0c : c % 6 ≠ 0 := fun q => h (by rw [q]; decide)
          show i5 oa (nI c - nI 1).toNatClampNeg = _
          rw [pk_sub (by omega), nI_clamp (by omega), if_neg h0c, h5 oa hoa2]
      refine ⟨fun h => c93 1 ?_, fun h => c93 0 ?_⟩
      · rw [if_neg h]
      · rw [if_pos h]
  have next : w_X2_colourIn_16 24 (nI v) (nI c) sa oa T n r Q was i w := by
    unfold w_X2_colourIn_16
    refine ⟨fun h => main _ (by rw [if_neg h]), fun h => ?_⟩
    rw [z_r24_2 hS, nI_clamp (by omega)]
    exact ⟨z_kin (z_T27 hS) hv (by decide), main _ (by rw [if_pos h])⟩
  unfold w_X2_colourIn w_X2_sees
  rw [z_r24_0 hS, nI_clamp (by omega), nI_clamp (by omega)]
  have on : z_seesC i w v c → (((1 : Int32) = 0 → w_X2_colourIn_16 24 (nI v) (nI c) sa oa T n r Q (-1 : Int32) i w) ∧ (¬ (1 : Int32) = 0 → kw_in T 1 sa (nI c) ∧ (w_X2_colourIn_16 24 (nI v) (nI c) sa oa T n r Q (i sa c) i w))) := fun h => z_t ⟨z_kin hsa hc (by decide), by rw [← hwas1 h]; exact next⟩
  refine ⟨fun h => on (Or.inl h), fun h => ⟨z_kin (z_T25 hS) hv (by decide), fun h2 => ?_, fun h2 => on (Or.inr (fun q => h2 (z_ceq.mpr q)))⟩⟩
  refine z_f ?_
  rw [← hwas0 (fun q => q.elim (fun q => q h) (fun q => q (z_ceq.mp h2)))]
  exact next
end ZCO
