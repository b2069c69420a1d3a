/-- the start: both objects made -/
def lw_init (Inv : kw_T → Nat → kw_R → kw_I → kw_L → Prop) : Prop := w_X9_init 1 (kw_row (fun _ => (99, 0)) 1 (0, 9)) 2 (kw_row (fun _ _ => 0) 1 (fun _ => 0)) (kw_row (fun _ _ => 0) 1 (fun _ => 0)) (fun _ _ => 0) (fun T n r i w => n = 84 ∧ w_X10_init 84 (kw_row T 84 (0, 10)) 85 (kw_row r 84 (fun _ => 0)) (kw_row i 84 (fun _ => 0)) w (fun T n r i => n = 103 ∧ Inv T n r i w))
set_option maxHeartbeats 4000000 in
set_option maxRecDepth 100000 in
theorem lw_loop {p : Program} {l : Launch} {e : Env} {s : State} {m : MethodId} {below : List Frame} {meth : Method} {c : Code} {G : kw_G} {b L : Nat} {xs : Nat → Int32} (hE : kw_ok (p, l, e, room_1, s, m, #[Value.ref b], below, meth, c) G cL_law 4 RL) (hr : meth.sig.returnType = ret) (hlocks : meth.locks = false) (hX : va_X b L xs s s.heap) (hbl : b < s.heap.size) (hG : s.heap.size = G.1 + 1) (hL : L ≤ 3584) {Inv : kw_T → Nat → kw_R → kw_I → kw_L → Prop} (hA : lw_all Inv) (hT1 : ∀ T n r i w, Inv T n r i w → T 1 = (0, 9)) :
    ∀ (k t cs sl : Nat), L < t + 7 * k → t ≤ L → cs + 20 * k ≤ 600000 → sl + 1000 * k ≤ 7302250 → ∀ (T : kw_T) (n : Nat) (r : kw_R) (i : kw_I) (w : kw_L), n + 20 * k ≤ 20000 → Inv T n r i w → kw_K (p, l, e, room_1, s, m, #[Value.ref b], below, meth, c) G 4 cs sl (lw_Z below #[Value.ref b] s) 18 [(3, kw_i (nI t)), (2, kw_a 84), (1, kw_a 1), (0, kw_a (kw_SB + 200 + b))] [] T n r i w := by
  have hbG : ¬ G.1 < b := by omega
  intro k
  induction k with
  | zero => intro t cs sl h1 h2; omega
  | succ k ih =>
    intro t cs sl h1 h2 h3 h4 T n r i w hn hI
    refine kk_iload_n hE 0 dL_law_18 rfl rfl ?_
    refine kk_aload_n hE 3 dL_law_19 rfl rfl ?_
    refine kk_scl hE hX hbl hbG dL_law_20 ?_
    refine kk_bipush (v := (7 : Int32)) hE dL_law_21 (by decide) ?_
    refine kk_isub hE dL_law_23 ?_
    have e7 : (nI L - (7 : Int32)).toInt = (L : Int) - 7 := pk_sub_toInt (a := L) (b := 7) (by omega) (by omega)
    have et : (nI t).toInt = (t : Int) := nI_toInt (by omega)
    refine kk_icmp_gt (tgt := 1187) hE dL_law_24 (by decide) (fun _ => ?_) (fun hc => ?_)
    · refine kk_iconst (v := (1 : Int32)) hE dL_law_1187 (by decide) ?_
      intro ls H locs hl hR hS
      refine va_forget (fun q hq => by have := hS.2.2 q hq; rw [hG]; exact this) ?_
      refine W.widen (k := 600000) (n := 7302250) (by omega) (by omega) ?_
      exact lw_ret hE.1 hE.2.1 hr hlocks dL_law_1188
    · have ht : t + 7 ≤ L := by
        rw [Int32.lt_iff_toInt_lt, e7, et] at hc
        omega
      refine kk_aload_n hE 3 dL_law_27 rfl rfl ?_
      refine kk_iload_n hE 0 dL_law_28 rfl rfl ?_
      refine kk_scr hE hX hbl hbG (k := t) rfl (by omega) (by omega) dL_law_29 ?_
      refine kk_bipush (v := (63 : Int32)) hE dL_law_30 (by decide) ?_
      refine kk_iand hE dL_law_32 ?_
      refine lw_body hE rfl hX hbl hbG hL ht ⟨by omega, by omega⟩ hA (fun T' n' r' i' w' hI' => ?_) (hT1 T n r i w hI) hI (by omega)
      refine kk_iinc (v := nI (t + 7)) (L' := [(3, kw_i (nI (t + 7))), (2, kw_a 84), (1, kw_a 1), (0, kw_a (kw_SB + 200 + b))]) hE 0 dL_law_1181 rfl (lw_ix t 7 (by decide)) (by decide) rfl ?_
      refine kk_goto (tgt := 18) hE dL_law_1184 (by decide) ?_
      exact ih (t + 7) (cs + 20) (sl + 1000) (by omega) ht (by omega) (by omega) T' n' r' i' w' (by have := hI'.2; omega) hI'.1
theorem lw_arr {s : State} {args : Array Value} {ty : FieldType} (h : (Cond.arrayClass ty).before args s = true) (hp : ∀ c, s.vm.findClass ("[" ++ ty.toString) = some c → va_RA s c ty) : ∃ c, ArrOfT s c ty ∧ va_RA s c ty := by
  obtain ⟨c, k, comp, h1, h2, h3⟩ := Cond.arrayClass_spec h
  exact ⟨c, fun n z => ⟨fun k h => (by cases h), k, h2, comp, h3⟩, hp c h1⟩
set_option maxHeartbeats 4000000 in
set_option maxRecDepth 100000 in
theorem lw_GK {s : State} {b : Nat} (g : Nat) (hg : s.heap.size = g + 1) (hts : ∀ w ∈ lw_tbl, w.before #[Value.ref b] s = true) (hgv : (Jvm.Cond.and given_1 narrow_1).before #[Value.ref b] s = true) : ∃ G : kw_G, G.1 = g ∧ kw_GK G s := by
  have hs := flat_of_before _ hgv
  have hA : ∀ a : Nat, a < s.heap.size → ¬ (fun q : Nat => g < q) a := fun a ha => by show ¬ g < a; omega
  obtain ⟨i0, i1, i2, i3, i4, i5, i6, i7, i8, i9, i10⟩ := lw_inst
  obtain ⟨c0, iS0, hK0⟩ := u_known hts (lw_uw uw_0) (hts _ i0)
  obtain ⟨c1, iS1, hK1⟩ := u_known hts (lw_uw uw_1) (hts _ i1)
  obtain ⟨c2, iS2, hK2⟩ := u_known hts (lw_uw uw_2) (hts _ i2)
  obtain ⟨c3, iS3, hK3⟩ := u_known hts (lw_uw uw_3) (hts _ i3)
  obtain ⟨c4, iS4, hK4⟩ := u_known hts (lw_uw uw_4) (hts _ i4)
  obtain ⟨c5, iS5, hK5⟩ := u_known hts (lw_uw uw_5) (hts _ i5)
  obtain ⟨c6, iS6, hK6⟩ := u_known hts (lw_uw uw_6) (hts _ i6)
  obtain ⟨c7, iS7, hK7⟩ := u_known hts (lw_uw uw_7) (hts _ i7)
  obtain ⟨c8, iS8, hK8⟩ := u_known hts (lw_uw uw_8) (hts _ i8)
  obtain ⟨c9, iS9, hK9⟩ := u_known hts (lw_uw uw_9) (hts _ i9)
  obtain ⟨c10, iS10, hK10⟩ := u_known hts (lw_uw uw_10) (hts _ i10)
  obtain ⟨t1, t2, t3, t4, t5, t6, t7, t8, t9, t10, t11, t12, t13⟩ := lw_stat
  obtain ⟨a1, hb1⟩ := lw_arr (hts _ t7) (fun c h => h)
  obtain ⟨a2, hb2⟩ := lw_arr (hts _ t8) (fun c h => h)
  obtain ⟨a3, hb3⟩ := lw_arr (hts _ t9) (fun c h => h)
  obtain ⟨a4, hb4⟩ := lw_arr (hts _ t10) (fun c h => h)
  obtain ⟨q5, a5, k5, p1, -, p3, p4, p5⟩ := arrayOver_specB (hts _ t11)
  obtain ⟨q6, a6, k6, r1, -, r3, r4, r5⟩ := Cond.arrayOver_spec (hts _ t12)
  obtain ⟨q7, a7, k7, s1, -, s3, s4, s5⟩ := Cond.arrayOver_spec (hts _ t13)
  obtain ⟨adK, adV, hS1, hS2⟩ := vk_Sof (args := #[Value.ref b]) (s := s) (N := 14) (tm := fun k => .string RX4 (kw_pn.getD k 0)) (len := kw_len) (byt := kw_txt) (A := fun q : Nat => g < q) (by decide +kernel) (fun k hk => hs _ (lw_strs.1 k hk)) (fun k hk => hs _ (lw_strs.2.1 k hk)) (fun k hk => hs _ (lw_strs.2.2.1 k hk)) (fun k hk => hs _ (lw_strs.2.2.2.1 k hk)) (fun k hk j hj => hs _ (lw_strs2 k hk j hj)) (fun k j hk hj hne => (lw_strs3 k hk j hj hne).elim (fun h => Or.inl (hs _ h)) (fun h => Or.inr (hs _ h))) hA
  refine ⟨(g, (fun k => match k with | 0 => c0 | 1 => c1 | 2 => c2 | 3 => c3 | 4 => c4 | 5 => c5 | 6 => c6 | 7 => c7 | 8 => c8 | 9 => c9 | _ => c10, fun k => match k with | 0 => iS0 | 1 => iS1 | 2 => iS2 | 3 => iS3 | 4 => iS4 | 5 => iS5 | 6 => iS6 | 7 => iS7 | 8 => iS8 | 9 => iS9 | _ => iS10), (fun k => match k with | 0 => a1 | 1 => a1 | 2 => a2 | 3 => a3 | 4 => a4 | 5 => a5 | 6 => a6 | _ => a7), adK, adV), rfl, ⟨?_, ?_⟩, ?_, ?_⟩
  · intro k q hq
    match k, hq with
    | 0, hq => cases hq; exact hK0
    | 1, hq => cases hq; exact hK1
    | 2, hq => cases hq; exact hK2
    | 3, hq => cases hq; exact hK3
    | 4, hq => cases hq; exact hK4
    | 5, hq => cases hq; exact hK5
    | 6, hq => cases hq; exact hK6
    | 7, hq => cases hq; exact hK7
    | 8, hq => cases hq; exact hK8
    | 9, hq => cases hq; exact hK9
    | 10, hq => cases hq; exact hK10
    | k + 11, hq => simp [kw_cl] at hq
  · intro k q hq
    match k, hq with
    | 0, hq => cases hq; exact hb1
    | 1, hq => cases hq; exact hb1
    | 2, hq => cases hq; exact hb2
    | 3, hq => cases hq; exact hb3
    | 4, hq => cases hq; exact hb4
    | 5, hq => cases hq; exact ⟨fun n z => ⟨fun k h => (by cases h), k5, p3, q5, p4⟩, p5⟩
    | 6, hq => cases hq; exact ⟨fun n z => ⟨fun k h => (by cases h), k6, r3, q6, r4⟩, k6, q6, r3, r4, r1, r5⟩
    | 7, hq => cases hq; exact ⟨fun n z => ⟨fun k h => (by cases h), k7, s3, q7, s4⟩, k7, q7, s3, s4, s1, s5⟩
    | k + 8, hq => simp [kw_tys] at hq
  · intro w hw
    have h1 := hts w (List.mem_filter.mp hw).1
    have h2 := (List.mem_filter.mp hw).2
    cases w <;> first | exact va_Nw.of rfl h1 | cases h2
  · refine ⟨Cond.arrayOver_alike (Vm.Alike.refl _) (hts _ t12), Cond.arrayOver_alike (Vm.Alike.refl _) (hts _ t13), arrayOver_alikeB (Vm.Alike.refl _) (hts _ t11), hS1, fun k hk => ?_, va_Zof (hts _ t3) (hts _ t5) (va_eqi (hs _ t1)) hA, va_Zqof (hts _ t4) (hts _ t6) (hs _ t2) hA⟩
    exact vk_R.of (A := #[Value.ref b]) (hts _ (lw_strs.2.2.2.2 k hk)) (hS2 k hk)
set_option maxHeartbeats 4000000 in
set_option maxRecDepth 100000 in
theorem lw_whole {Inv : kw_T → Nat → kw_R → kw_I → kw_L → Prop} (hI0 : lw_init Inv) (hA : lw_all Inv) (hT1 : ∀ T n r i w, Inv T n r i w → T 1 = (0, 9)) {p : Program} {e : Env} {s : State} {m : MethodId} {below : List Frame} {meth : Method} {c : Code} (l : Launch) {b L : Nat} {xs : Nat → Int32} (hL : L ≤ 3584) (C0 : lw_At p s m meth c b L xs) : W p l e room_1 s m #[Value.ref b] below meth c s.heap [] 0 0 (lw_Z below #[Value.ref b] s) (entryFrame m ([Value.ref b] : List Value).toArray 4) := by
  obtain ⟨hx, hb, hr, hml, hown, hts, hX, hbl, hlocks, hgv⟩ := C0
  obtain ⟨g, hg⟩ : ∃ g, s.heap.size = g + 1 := ⟨s.heap.size - 1, by omega⟩
  obtain ⟨G, hGg, hGK⟩ := lw_GK g hg hts hgv
  have hG : s.heap.size = G.1 + 1 := by rw [hGg]; exact hg
  have hE : kw_ok (p, l, e, room_1, s, m, #[Value.ref b], below, meth, c) G cL_law 4 RL := ⟨hx, hb, hml, hown, fun w hw => hts w (lw_sub w hw), hGK⟩
  have key : kw_K (p, l, e, room_1, s, m, #[Value.ref b], below, meth, c) G 4 0 0 (lw_Z below #[Value.ref b] s) 0 [(0, kw_a (kw_SB + 200 + b))] [] (fun _ => (99, 0)) 1 (fun _ _ => 0) (fun _ _ => 0) (fun _ _ => 0) := by
    refine kn_new (rm0 := room_1) hE nwL_7 dL_law_0 ⟨by decide, by decide⟩ rfl (by decide) (by decide) rfl rfl (fun T0 r0 i0 eT er ei h1 => ?_)
    refine kk_dup hE dL_law_3 rfl ?_
    have hI := hI0
    unfold lw_init at hI
    rw [← eT, ← er, ← ei] at hI
    refine kk_callIv (rm0 := room_1) (cs' := 83) (sl' := 2803) (st := [kw_a 1]) hE ciL_9 (t_X9_init h1 hI) dL_law_4 h1 rfl rfl ⟨by decide, by decide⟩ ⟨by decide, by decide⟩ rfl rfl (by decide) rfl ?_
    rintro T1 n1 r1 i1 w1 ⟨hn, h⟩
    subst hn
    refine kk_astore_n (L' := [(1, kw_a 1), (0, kw_a (kw_SB + 200 + b))]) hE dL_law_7 rfl (by decide) rfl ?_
    refine kn_new (rm0 := room_1) hE nwL_10 dL_law_8 ⟨by decide, by decide⟩ rfl (by decide) (by decide) rfl rfl (fun T2 r2 i2 eT er ei h2 => ?_)
    refine kk_dup hE dL_law_11 rfl ?_
    rw [← eT, ← er, ← ei] at h
    refine kk_callIv (rm0 := room_1) (cs' := 102) (sl' := 21127) (st := [kw_a 84]) hE ciL_12 (t_X10_init h2 h) dL_law_12 h2 rfl rfl ⟨by decide, by decide⟩ ⟨by decide, by decide⟩ rfl rfl (by decide) rfl ?_
    rintro T3 n3 r3 i3 _ ⟨rfl, hn3, h⟩
    refine kk_astore_n (L' := [(2, kw_a 84), (1, kw_a 1), (0, kw_a (kw_SB + 200 + b))]) hE dL_law_15 rfl (by decide) rfl ?_
    refine kk_iconst (v := (0 : Int32)) hE dL_law_16 (by decide) ?_
    refine kk_istore_n (L' := [(3, kw_i 0), (2, kw_a 84), (1, kw_a 1), (0, kw_a (kw_SB + 200 + b))]) hE dL_law_17 rfl (by decide) rfl ?_
    exact lw_loop hE hr hlocks hX hbl hG hL hA hT1 513 0 102 21127 (by omega) (Nat.zero_le _) (by decide) (by decide) T3 n3 r3 i3 w1 (by rw [hn3]; decide) h
  have hl := lv_entry ([Value.ref b]) (n := 4) (Nat.le_of_ble_eq_true rfl)
  rw [lg_entry_eq]
  refine key _ s.heap [] ⟨hl.1, hl.2.1, fun q hq => ?_⟩ ⟨hG, by decide, fun a ha => absurd ha (show ¬ (99 : Nat) < 8 by decide), fun a ha => absurd ha (show ¬ (99 : Nat) < 8 by decide)⟩ va_S.rf
  cases List.mem_singleton.mp hq
  have h1 := hl.2.2 (0, Value.ref b) List.mem_cons_self
  rw [show kw_v G (kw_a (kw_SB + 200 + b)) = kw_vr G (kw_SB + 200 + b) from rfl, kw_vr_raw]
  exact h1
