-- STRING CONSTANTS
def kw_str (a : Nat) : Prop := kw_SB ≤ a ∧ a < kw_SB + 14
def kw_slen (a : Nat) : Int32 := nI (kw_len.getD (a - kw_SB) 0)
def kw_strj (a : Nat) (x : Int32) : Prop := kw_str a ∧ vp_in x (kw_len.getD (a - kw_SB) 0)
def kw_schr (a : Nat) (x : Int32) : Int32 := (kw_txt.getD (a - kw_SB) []).getD x.toNatClampNeg 0
theorem sc_coder : kw_CV RJ0 335 yJ0_coder_7d493 cJ0_coder_7d493 1 (some .byte) 0 := ⟨⟨Or.inl (kw_inT (List.mem_of_getElem? (i := 536) (by decide +kernel)) (by decide +kernel)), (kw_inT (List.mem_of_getElem? (i := 539) (by decide +kernel)) (by decide +kernel)), (kw_inT (List.mem_of_getElem? (i := 88) (by decide +kernel)) (by decide +kernel)), by decide +kernel⟩, (kw_inT (List.mem_of_getElem? (i := 537) (by decide +kernel)) (by decide +kernel)), (kw_inT (List.mem_of_getElem? (i := 538) (by decide +kernel)) (by decide +kernel))⟩
theorem sc_lat : kw_CV RJ0 492 yJ0_isLatin1_aae02 cJ0_isLatin1_aae02 1 (some .boolean) 0 := ⟨⟨Or.inl (kw_inT (List.mem_of_getElem? (i := 546) (by decide +kernel)) (by decide +kernel)), (kw_inT (List.mem_of_getElem? (i := 549) (by decide +kernel)) (by decide +kernel)), (kw_inT (List.mem_of_getElem? (i := 88) (by decide +kernel)) (by decide +kernel)), by decide +kernel⟩, (kw_inT (List.mem_of_getElem? (i := 547) (by decide +kernel)) (by decide +kernel)), (kw_inT (List.mem_of_getElem? (i := 548) (by decide +kernel)) (by decide +kernel))⟩
theorem sc_char : kw_CS RJ0 495 yJ1_charAt_3b067 cJ1_charAt_3b067 2 (some .char) 2 := ⟨⟨Or.inl (kw_inT (List.mem_of_getElem? (i := 550) (by decide +kernel)) (by decide +kernel)), (kw_inT (List.mem_of_getElem? (i := 552) (by decide +kernel)) (by decide +kernel)), (kw_inT (List.mem_of_getElem? (i := 89) (by decide +kernel)) (by decide +kernel)), by decide +kernel⟩, (kw_inT (List.mem_of_getElem? (i := 551) (by decide +kernel)) (by decide +kernel))⟩
theorem sc_chk : kw_CS RJ1 9 yJ0_checkIndex_df160 cJ0_checkIndex_df160 2 none 2 := ⟨⟨Or.inl (kw_inT (List.mem_of_getElem? (i := 553) (by decide +kernel)) (by decide +kernel)), (kw_inT (List.mem_of_getElem? (i := 555) (by decide +kernel)) (by decide +kernel)), (kw_inT (List.mem_of_getElem? (i := 88) (by decide +kernel)) (by decide +kernel)), by decide +kernel⟩, (kw_inT (List.mem_of_getElem? (i := 554) (by decide +kernel)) (by decide +kernel))⟩
theorem sc_pre : kw_CS RJ0 1059 yJ3_checkIndex_8e157 cJ3_checkIndex_8e157 3 (some .int) 3 := ⟨⟨Or.inl (kw_inT (List.mem_of_getElem? (i := 558) (by decide +kernel)) (by decide +kernel)), (kw_inT (List.mem_of_getElem? (i := 560) (by decide +kernel)) (by decide +kernel)), (kw_inT (List.mem_of_getElem? (i := 90) (by decide +kernel)) (by decide +kernel)), by decide +kernel⟩, (kw_inT (List.mem_of_getElem? (i := 559) (by decide +kernel)) (by decide +kernel))⟩
theorem sf_38 : Cond.fieldLink RJ0 38 "java/lang/String" "COMPACT_STRINGS" "Z" ∈ kw_tb := (kw_inT (List.mem_of_getElem? (i := 540) (by decide +kernel)) (by decide +kernel))
theorem sf_9 : Cond.fieldLink RJ0 9 "java/lang/String" "value" "[B" ∈ kw_tb := (kw_inT (List.mem_of_getElem? (i := 1399) (by decide +kernel)) (by decide +kernel))
theorem sf_15 : Cond.fieldLink RJ0 15 "java/lang/String" "coder" "B" ∈ kw_tb := (kw_inT (List.mem_of_getElem? (i := 1400) (by decide +kernel)) (by decide +kernel))
theorem sf_1053 : Cond.fieldLink RJ0 1053 "jdk/internal/util/Preconditions" "SIOOBE_FORMATTER" "Ljava/util/function/BiFunction;" ∈ kw_tb := (kw_inT (List.mem_of_getElem? (i := 556) (by decide +kernel)) (by decide +kernel))
theorem sm_len_c : Cond.code yJ0_length_8abf5 cJ0_length_8abf5 1 (some .int) ∈ kw_tb := (kw_inT (List.mem_of_getElem? (i := 535) (by decide +kernel)) (by decide +kernel))
theorem sm_len_n : Cond.instanceMethod yJ0_length_8abf5 ∈ kw_tb := (kw_inT (List.mem_of_getElem? (i := 533) (by decide +kernel)) (by decide +kernel))
theorem sm_len_s : Cond.selects yJ0_length_8abf5.cls yJ0_length_8abf5 yJ0_length_8abf5 ∈ kw_tb := (kw_inT (List.mem_of_getElem? (i := 534) (by decide +kernel)) (by decide +kernel))
theorem sm_chr_c : Cond.code yJ0_charAt_5068e cJ0_charAt_5068e 2 (some .char) ∈ kw_tb := (kw_inT (List.mem_of_getElem? (i := 545) (by decide +kernel)) (by decide +kernel))
theorem sm_chr_n : Cond.instanceMethod yJ0_charAt_5068e ∈ kw_tb := (kw_inT (List.mem_of_getElem? (i := 543) (by decide +kernel)) (by decide +kernel))
theorem sm_chr_s : Cond.selects yJ0_charAt_5068e.cls yJ0_charAt_5068e yJ0_charAt_5068e ∈ kw_tb := (kw_inT (List.mem_of_getElem? (i := 544) (by decide +kernel)) (by decide +kernel))
theorem sm_i : Cond.initialized "java/lang/String" ∈ kw_tb := (kw_inT (List.mem_of_getElem? (i := 88) (by decide +kernel)) (by decide +kernel))
theorem kw_vr_str {G : kw_G} {a : Nat} (h : kw_str a) : kw_vr G a = .ref (G.2.2.2.1 (a - kw_SB)) := by
  obtain ⟨h1, h2⟩ := h
  unfold kw_vr kw_ad
  have h3 : kw_SB = 1000000000000 := rfl
  rw [if_neg (by omega), if_neg (by omega), if_pos (by omega)]
theorem kw_vr_raw {G : kw_G} (q : Nat) : kw_vr G (kw_SB + 200 + q) = .ref q := by
  unfold kw_vr kw_ad
  have h3 : kw_SB = 1000000000000 := rfl
  rw [if_neg (by omega), if_neg (by omega), if_neg (by omega), Nat.add_sub_cancel_left]
section KW9
variable {E : kw_E} {G : kw_G} {cc : ByteArray} {nL cs sl : Nat} {own : String} {Q : State → Prop} {pc : Nat} {L : List (Nat × kw_A)} {st : List kw_A} {T : kw_T} {n : Nat} {r : kw_R} {i : kw_I} {w : kw_L} {a idx : Nat} {rm0 : Room}
theorem kk_ldcS (hE : kw_ok E G cc nL RX4) {j k : Nat} (hd : decode cc pc = .ok (.ldc k, 2)) (hj : j < 14) (hk : kw_pn.getD j 0 = k) (kk : kw_K E G nL cs sl Q (pc + 2) L (kw_a (kw_SB + j) :: st) T n r i w) : kw_K E G nL cs sl Q pc L st T n r i w := by
  subst hk
  intro ls H locs hl hR hS
  obtain ⟨hx, hb0, hml, hown, hts, hK, hN, x1, x2, x3, x4, x5, x6, x7⟩ := hE
  have h2 := kk ls H locs hl hR hS
  have e : (kw_a (kw_SB + j) :: st).map (kw_v G) = kw_vr G (kw_SB + j) :: st.map (kw_v G) := rfl
  rw [e, kw_vr_str ⟨by omega, by omega⟩, show kw_SB + j - kw_SB = j by omega] at h2
  exact va_ldcS hx hb0 hown (x5 j hj) hd h2
theorem kk_sgV (hE : kw_ok E G cc nL RJ0) (hd : decode cc pc = .ok (.getfield 9, 3)) (ho : kw_str a) (kk : kw_K E G nL cs sl Q (pc + 3) L (kw_a (kw_SB + 200 + G.2.2.2.2 (a - kw_SB)) :: st) T n r i w) : kw_K E G nL cs sl Q pc L (kw_a a :: st) T n r i w := by
  intro ls H locs hl hR hS
  obtain ⟨hx, hb0, hml, hown, hts, hK, hN, x1, x2, x3, x4, x5, x6, x7⟩ := hE
  have h2 := kk ls H locs hl hR hS
  have e : (kw_a (kw_SB + 200 + G.2.2.2.2 (a - kw_SB)) :: st).map (kw_v G) = kw_vr G (kw_SB + 200 + G.2.2.2.2 (a - kw_SB)) :: st.map (kw_v G) := rfl
  rw [e, kw_vr_raw] at h2
  show kw_W E H locs cs sl Q (F0 _ pc ls (kw_vr G a :: st.map (kw_v G)))
  rw [kw_vr_str ho]
  have hj : a - kw_SB < 14 := by have := ho.1; have := ho.2; omega
  exact vk_getf hx hb0 (x4.1 _ hj).2.2.1 hS hown (hts _ sf_9) (fun _ h => h) hd h2
theorem kk_sgC (hE : kw_ok E G cc nL RJ0) (hd : decode cc pc = .ok (.getfield 15, 3)) (ho : kw_str a) (kk : kw_K E G nL cs sl Q (pc + 3) L (kw_i 0 :: st) T n r i w) : kw_K E G nL cs sl Q pc L (kw_a a :: st) T n r i w := by
  intro ls H locs hl hR hS
  obtain ⟨hx, hb0, hml, hown, hts, hK, hN, x1, x2, x3, x4, x5, x6, x7⟩ := hE
  show kw_W E H locs cs sl Q (F0 _ pc ls (kw_vr G a :: st.map (kw_v G)))
  rw [kw_vr_str ho]
  have hj : a - kw_SB < 14 := by have := ho.1; have := ho.2; omega
  exact vk_getf hx hb0 (x4.1 _ hj).2.1 hS hown (hts _ sf_15) (fun _ h => h) hd (kk ls H locs hl hR hS)
theorem kk_gsC (hE : kw_ok E G cc nL RJ0) (hd : decode cc pc = .ok (.getstatic 38, 3)) (kk : kw_K E G nL cs sl Q (pc + 3) L (kw_i 1 :: st) T n r i w) : kw_K E G nL cs sl Q pc L st T n r i w := by
  intro ls H locs hl hR hS
  obtain ⟨hx, hb0, hml, hown, hts, hK, hN, x1, x2, x3, x4, x5, x6, x7⟩ := hE
  exact va_gets hx hb0 x6 hS hown (hts _ sf_38) (fun _ h => h) hd (kk ls H locs hl hR hS)
theorem kk_gsF (hE : kw_ok E G cc nL RJ0) (hd : decode cc pc = .ok (.getstatic 1053, 3)) (kk : ∀ z : Nat, kw_K E G nL cs sl Q (pc + 3) L (kw_a z :: st) T n r i w) : kw_K E G nL cs sl Q pc L st T n r i w := by
  intro ls H locs hl hR hS
  obtain ⟨hx, hb0, hml, hown, hts, hK, hN, x1, x2, x3, x4, x5, x6, x7⟩ := hE
  rcases x7 with h | ⟨q, h⟩
  · exact va_gets hx hb0 h hS hown (hts _ sf_1053) (fun _ h => h) hd (kk 0 ls H locs hl hR hS)
  · have h2 := kk (kw_SB + 200 + q) ls H locs hl hR hS
    have e : (kw_a (kw_SB + 200 + q) :: st).map (kw_v G) = kw_vr G (kw_SB + 200 + q) :: st.map (kw_v G) := rfl
    rw [e, kw_vr_raw] at h2
    exact va_gets hx hb0 h hS hown (hts _ sf_1053) (fun _ h => h) hd h2
theorem kk_xlen (hE : kw_ok E G cc nL own) {j : Nat} (hj : j < 14) (hd : decode cc pc = .ok (.arraylength, 1)) (kk : kw_K E G nL cs sl Q (pc + 1) L (kw_i (nI (kw_len.getD j 0)) :: st) T n r i w) : kw_K E G nL cs sl Q pc L (kw_a (kw_SB + 200 + G.2.2.2.2 j) :: st) T n r i w := by
  intro ls H locs hl hR hS
  obtain ⟨hx, hb0, hml, hown, hts, hK, hN, x1, x2, x3, x4, x5, x6, x7⟩ := hE
  show kw_W E H locs cs sl Q (F0 _ pc ls (kw_vr G (kw_SB + 200 + G.2.2.2.2 j) :: st.map (kw_v G)))
  rw [kw_vr_raw]
  exact va_tlen hx hb0 (x4.1 _ hj).2.2.2 hS rfl hd (kk ls H locs hl hR hS)
theorem kk_xbald (hE : kw_ok E G cc nL own) {j : Nat} (hj : j < 14) {x : Int32} (hi : vp_in x (kw_len.getD j 0)) (hd : decode cc pc = .ok (.baload, 1)) (kk : kw_K E G nL cs sl Q (pc + 1) L (kw_i ((kw_txt.getD j []).getD x.toNatClampNeg 0) :: st) T n r i w) : kw_K E G nL cs sl Q pc L (kw_i x :: kw_a (kw_SB + 200 + G.2.2.2.2 j) :: st) T n r i w := by
  intro ls H locs hl hR hS
  obtain ⟨hx, hb0, hml, hown, hts, hK, hN, x1, x2, x3, x4, x5, x6, x7⟩ := hE
  show kw_W E H locs cs sl Q (F0 _ pc ls (.int x :: kw_vr G (kw_SB + 200 + G.2.2.2.2 j) :: st.map (kw_v G)))
  rw [kw_vr_raw]
  exact va_tb hx hb0 (x4.1 _ hj).2.2.2 hS hi rfl hd (kk ls H locs hl hR hS)
theorem kk_nret (hE : kw_ok E G cc nL own) {ty : FieldType} {Post : Option kw_A → kw_M → Prop} (hT : kw_rt E (some ty)) {x : Int32} (hn : narrow ty (.int x) = .int x) (hd : decode cc pc = .ok (.ireturn, 1)) (hq : Post (some (kw_i x)) (T, n, r, i, w)) : kw_K E G nL cs sl (kw_Z E G cs sl Post) pc L [kw_i x] T n r i w := by
  intro ls H locs hl hR hS
  exact W.zret (v := x) hE.1 hE.2.1 hT.1 hn (fun t ht hW => ⟨⟨some (kw_i x), _, rfl, hq, by rw [ht]; exact hR⟩, hS.F ht⟩) hS.2.2 hd (hlocks := hT.2)
theorem kk_callVs {np : Nat} {y : MethodName} {cc' : ByteArray} {nL' : Nat} {ret' : Option FieldType} {rm : Room} {av : List kw_A} {st0 : List kw_A} {P : Int32 → kw_T → Nat → kw_R → kw_I → kw_L → Prop} (hE : kw_ok E G cc nL own) (hC : kw_CV own idx y cc' nL' ret' np) (hM : kw_Met E.2.1 G y cc' nL' ret' rm (kw_a a :: av) (T, n, r, i, w) (kw_PI P)) (hd : decode cc pc = .ok (.invokevirtual idx, 3)) (ho : kw_str a) (hy : y.cls = "java/lang/String") (hn : av.length = np) (hR0 : rm.frames + 1 ≤ E.2.2.2.1.frames ∧ 8 + (nL' + 11) + rm.locals ≤ E.2.2.2.1.locals) (hrc : rm.cells = 0 ∧ rm.slots = 0) (hf : cs ≤ E.2.2.2.1.cells ∧ sl ≤ E.2.2.2.1.slots) (hs : (st.map kw_cat).sum ≤ 8) (hst : st0 = av.reverse ++ kw_a a :: st)
    (kk : ∀ (x : Int32) (T' : kw_T) (n' : Nat) (r' : kw_R) (i' : kw_I) (w' : kw_L), P x T' n' r' i' w' → kw_K E G nL cs sl Q (pc + 3) L (kw_i x :: st) T' n' r' i' w') : kw_K E G nL cs sl Q pc L st0 T n r i w := by
  subst hst
  intro ls H locs hl hR hS
  obtain ⟨hx, hb, hml, hown, hts, hK⟩ := hE
  obtain ⟨⟨hlk, hcode, hini, hd1⟩, hins, hsel⟩ := hC
  have e := kw_vr_str (G := G) ho
  have hj : a - kw_SB < 14 := by have := ho.1; have := ho.2; omega
  have hpre : PreV E.2.2.2.2.1 H y.cls (G.2.2.2.1 (a - kw_SB)) (va_Pc ((kw_a a :: av).map (kw_v G)) (fun U => kw_Rep G T n r i w U.heap ∧ kw_GK G U)) (av.map (kw_v G)) := ⟨kw_blind (u := (T, n, r, i, w)), by rw [hy]; exact vk_recv hK.2.2.2.2.2.1 hj hS, fun U hU hW => ⟨by rw [← e]; rfl, by rw [hU]; exact hR, kw_GK.moved hW (by rw [hU]; exact hS.2.1) hK⟩⟩
  have hstk : (av.reverse ++ kw_a a :: st).map (kw_v G) = (av.map (kw_v G)).reverse ++ .ref (G.2.2.2.1 (a - kw_SB)) :: st.map (kw_v G) := by rw [List.map_append, List.map_reverse, ← e]; rfl
  have hlen : (av.map (kw_v G)).length = np := by rw [List.length_map]; exact hn
  have hW8 : 2 * (F0 E.2.2.2.2.2.1 pc ls ((av.reverse ++ kw_a a :: st).map (kw_v G))).monitorRoom + ((st.map (kw_v G)).map fun v => v.category).sum ≤ 8 := lv_room (by rw [kw_sum]; exact hs)
  have kk2 : ∀ (v : Option kw_A) (u : kw_M), kw_PI P v u → kw_K E G nL (cs + rm.cells) (sl + rm.slots) Q (pc + 3) L (v.toList ++ st) u.1 u.2.1 u.2.2.1 u.2.2.2.1 u.2.2.2.2 := by
    rw [hrc.1, hrc.2]
    intro v u hp
    obtain ⟨x, rfl, hp⟩ := hp
    exact kk x u.1 u.2.1 u.2.2.1 u.2.2.2.1 u.2.2.2.2 hp
  have hf2 : cs + rm.cells ≤ E.2.2.2.1.cells ∧ sl + rm.slots ≤ E.2.2.2.1.slots := by rw [hrc.1, hrc.2]; exact hf
  rcases hlk with hlk | ⟨host, hlk⟩
  · exact kw_after (va_runV (nL := nL) (Ts := kw_tb) ⟨hx, hb, hml, hown, hts⟩ hM ⟨callB_of np hts (kw_gin hcode) rfl rfl rfl (hts _ hini) (hts _ hlk) hd1 hR0, hts _ hins, hts _ hsel⟩ hpre rfl hlen hl.1 hstk hW8 hd hf2) hl hS kk2
  · exact kw_after (va_runVN (nL := nL) (Ts := kw_tb) ⟨hx, hb, hml, hown, hts⟩ hM ⟨va_cnB np hts (kw_gin hcode) rfl rfl rfl (hK.2.1 _ hlk) (hts _ hini) hd1 hR0, hts _ hins, hts _ hsel⟩ hpre rfl hlen hl.1 hstk hW8 hd hf2) hl hS kk2
end KW9
abbrev sr_0 : Room := { frames := 1, cells := 0, slots := 0, locals := 60 }
abbrev sr_1 : Room := { frames := 2, cells := 0, slots := 0, locals := 120 }
abbrev sr_2 : Room := { frames := 3, cells := 0, slots := 0, locals := 180 }
abbrev sr_3 : Room := { frames := 4, cells := 0, slots := 0, locals := 240 }
/-- the memory stays, and this is the answer -/
abbrev sr_P (T : kw_T) (n : Nat) (r : kw_R) (i : kw_I) (w : kw_L) (v : Int32) : Option kw_A → kw_M → Prop := kw_PI (fun x T' n' r' i' w' => T = T' ∧ n = n' ∧ r = r' ∧ i = i' ∧ w = w' ∧ x = v)
section KW10
variable {l : Launch} {G : kw_G} {T : kw_T} {n : Nat} {r : kw_R} {i : kw_I} {w : kw_L} {a : Nat}
theorem t_coder (ho : kw_str a) : kw_Met l G yJ0_coder_7d493 cJ0_coder_7d493 1 (some .byte) sr_0 [kw_a a] (T, n, r, i, w) (sr_P T n r i w 0) := by
  refine kw_Met.of (by decide) (Nat.le_of_ble_eq_true rfl) fun E hl hRm hE hT hnm => ?_
  show kw_K E G 1 0 0 (kw_Z E G 0 0 _) 0 [(0, kw_a a)] [] T n r i w
  refine kk_gsC hE dJ0_coder_7d493_0 ?_
  refine kk_if_eq (tgt := 13) hE dJ0_coder_7d493_3 (by decide) (fun c => absurd c (by decide)) (fun _ => ?_)
  refine kk_aload_n hE 0 dJ0_coder_7d493_6 rfl rfl ?_
  refine kk_sgC hE dJ0_coder_7d493_7 ho ?_
  refine kk_goto (tgt := 14) hE dJ0_coder_7d493_10 (by decide) ?_
  exact kk_nret hE hT rfl dJ0_coder_7d493_14 ⟨_, rfl, rfl, rfl, rfl, rfl, rfl, rfl⟩
theorem t_lat (ho : kw_str a) : kw_Met l G yJ0_isLatin1_aae02 cJ0_isLatin1_aae02 1 (some .boolean) sr_0 [kw_a a] (T, n, r, i, w) (sr_P T n r i w 1) := by
  refine kw_Met.of (by decide) (Nat.le_of_ble_eq_true rfl) fun E hl hRm hE hT hnm => ?_
  show kw_K E G 1 0 0 (kw_Z E G 0 0 _) 0 [(0, kw_a a)] [] T n r i w
  refine kk_gsC hE dJ0_isLatin1_aae02_0 ?_
  refine kk_if_eq (tgt := 17) hE dJ0_isLatin1_aae02_3 (by decide) (fun c => absurd c (by decide)) (fun _ => ?_)
  refine kk_aload_n hE 0 dJ0_isLatin1_aae02_6 rfl rfl ?_
  refine kk_sgC hE dJ0_isLatin1_aae02_7 ho ?_
  refine kk_if_ne (tgt := 17) hE dJ0_isLatin1_aae02_10 (by decide) (fun c => absurd rfl c) (fun _ => ?_)
  refine kk_iconst (v := (1 : Int32)) hE dJ0_isLatin1_aae02_13 (by decide) ?_
  refine kk_goto (tgt := 18) hE dJ0_isLatin1_aae02_14 (by decide) ?_
  exact kk_zret hE hT dJ0_isLatin1_aae02_18 (Or.inr rfl) ⟨_, rfl, rfl, rfl, rfl, rfl, rfl, rfl⟩
theorem t_pre {x y : Int32} {z : Nat} (h0 : ¬ x < 0) (h1 : x < y) : kw_Met l G yJ3_checkIndex_8e157 cJ3_checkIndex_8e157 3 (some .int) sr_0 [kw_i x, kw_i y, kw_a z] (T, n, r, i, w) (sr_P T n r i w x) := by
  refine kw_Met.of (by decide) (Nat.le_of_ble_eq_true rfl) fun E hl hRm hE hT hnm => ?_
  show kw_K E G 3 0 0 (kw_Z E G 0 0 _) 0 [(0, kw_i x), (1, kw_i y), (2, kw_a z)] [] T n r i w
  refine kk_iload_n hE 0 dJ3_checkIndex_8e157_0 rfl rfl ?_
  refine kk_if_lt (tgt := 9) hE dJ3_checkIndex_8e157_1 (by decide) (fun c => absurd c h0) (fun _ => ?_)
  refine kk_iload_n hE 0 dJ3_checkIndex_8e157_4 rfl rfl ?_
  refine kk_iload_n hE 1 dJ3_checkIndex_8e157_5 rfl rfl ?_
  refine kk_icmp_lt (tgt := 16) hE dJ3_checkIndex_8e157_6 (by decide) (fun _ => ?_) (fun c => absurd h1 c)
  refine kk_iload_n hE 0 dJ3_checkIndex_8e157_16 rfl rfl ?_
  exact kk_iret hE hT dJ3_checkIndex_8e157_17 ⟨_, rfl, rfl, rfl, rfl, rfl, rfl, rfl⟩
theorem t_chk {x y : Int32} (h0 : ¬ x < 0) (h1 : x < y) : kw_Met l G yJ0_checkIndex_df160 cJ0_checkIndex_df160 2 none sr_1 [kw_i x, kw_i y] (T, n, r, i, w) (kw_PV (fun T' n' r' i' w' => T = T' ∧ n = n' ∧ r = r' ∧ i = i' ∧ w = w')) := by
  refine kw_Met.of (by decide) (Nat.le_of_ble_eq_true rfl) fun E hl hRm hE hT hnm => ?_
  show kw_K E G 2 0 0 (kw_Z E G 0 0 _) 0 [(0, kw_i x), (1, kw_i y)] [] T n r i w
  subst hl
  refine kk_iload_n hE 0 dJ0_checkIndex_df160_0 rfl rfl ?_
  refine kk_iload_n hE 1 dJ0_checkIndex_df160_1 rfl rfl ?_
  refine kk_gsF hE dJ0_checkIndex_df160_2 (fun z => ?_)
  refine kk_callSi (cs' := 0) (sl' := 0) (st := []) hE sc_pre (t_pre h0 h1) dJ0_checkIndex_df160_5 rfl hRm ⟨by decide, by decide⟩ ⟨by decide, by decide⟩ rfl rfl (by decide) rfl ?_
  rintro v _ _ _ _ _ ⟨rfl, rfl, rfl, rfl, rfl, -⟩
  refine kk_pop hE dJ0_checkIndex_df160_8 rfl ?_
  exact kk_vret hE hT dJ0_checkIndex_df160_9 ⟨rfl, rfl, rfl, rfl, rfl, rfl⟩
theorem kw_txt_small : ∀ j, j < 14 → ∀ k, k < kw_len.getD j 0 → (((((kw_txt.getD j []).getD k 0) &&& 255).toUInt32 % 65536).toInt32 = (kw_txt.getD j []).getD k 0 ∧ narrow .char (.int ((kw_txt.getD j []).getD k 0)) = .int ((kw_txt.getD j []).getD k 0)) := by decide +kernel
theorem t_lchr {j : Nat} (hj : j < 14) {x : Int32} (hi : vp_in x (kw_len.getD j 0)) : kw_Met l G yJ1_charAt_3b067 cJ1_charAt_3b067 2 (some .char) sr_2 [kw_a (kw_SB + 200 + G.2.2.2.2 j), kw_i x] (T, n, r, i, w) (sr_P T n r i w ((kw_txt.getD j []).getD x.toNatClampNeg 0)) := by
  refine kw_Met.of (by decide) (Nat.le_of_ble_eq_true rfl) fun E hl hRm hE hT hnm => ?_
  show kw_K E G 2 0 0 (kw_Z E G 0 0 _) 0 [(0, kw_a (kw_SB + 200 + G.2.2.2.2 j)), (1, kw_i x)] [] T n r i w
  subst hl
  have hl7 : kw_len.getD j 0 ≤ 7 := (by decide +kernel : ∀ j, j < 14 → kw_len.getD j 0 ≤ 7) j hj
  obtain ⟨k, hk, rfl⟩ := vp_in_of hi (by omega)
  have h0 : ¬ nI k < 0 := fun q => hi (Or.inl q)
  have h1 : nI k < nI (kw_len.getD j 0) := nI_lt hk (by omega)
  have hc := kw_txt_small j hj k hk
  have ek : (nI k).toNatClampNeg = k := nI_clamp (by omega)
  rw [ek]
  refine kk_iload_n hE 1 dJ1_charAt_3b067_0 rfl rfl ?_
  refine kk_aload_n hE 0 dJ1_charAt_3b067_1 rfl rfl ?_
  refine kk_xlen hE hj dJ1_charAt_3b067_2 ?_
  refine kk_callSv (cs' := 0) (sl' := 0) (st := []) hE sc_chk (t_chk h0 h1) dJ1_charAt_3b067_3 rfl hRm ⟨by decide, by decide⟩ ⟨by decide, by decide⟩ rfl rfl (by decide) rfl ?_
  rintro _ _ _ _ _ ⟨rfl, rfl, rfl, rfl, rfl⟩
  refine kk_aload_n hE 0 dJ1_charAt_3b067_6 rfl rfl ?_
  refine kk_iload_n hE 1 dJ1_charAt_3b067_7 rfl rfl ?_
  refine kk_xbald hE hj hi dJ1_charAt_3b067_8 ?_
  refine kk_sipush (v := (255 : Int32)) hE dJ1_charAt_3b067_9 (by decide) ?_
  refine kk_iand hE dJ1_charAt_3b067_12 ?_
  refine kk_i2c hE dJ1_charAt_3b067_13 ?_
  rw [ek, hc.1]
  exact kk_nret hE hT hc.2 dJ1_charAt_3b067_14 ⟨_, rfl, rfl, rfl, rfl, rfl, rfl, rfl⟩
theorem t_slen (ho : kw_str a) : kw_Met l G yJ0_length_8abf5 cJ0_length_8abf5 1 (some .int) sr_1 [kw_a a] (T, n, r, i, w) (sr_P T n r i w (kw_slen a)) := by
  refine kw_Met.of (by decide) (Nat.le_of_ble_eq_true rfl) fun E hl hRm hE hT hnm => ?_
  show kw_K E G 1 0 0 (kw_Z E G 0 0 _) 0 [(0, kw_a a)] [] T n r i w
  subst hl
  have hj : a - kw_SB < 14 := by have := ho.1; have := ho.2; omega
  have hl7 : kw_len.getD (a - kw_SB) 0 ≤ 7 := (by decide +kernel : ∀ j, j < 14 → kw_len.getD j 0 ≤ 7) _ hj
  refine kk_aload_n hE 0 dJ0_length_8abf5_0 rfl rfl ?_
  refine kk_sgV hE dJ0_length_8abf5_1 ho ?_
  refine kk_xlen hE hj dJ0_length_8abf5_4 ?_
  refine kk_aload_n hE 0 dJ0_length_8abf5_5 rfl rfl ?_
  refine kk_callVs (st := [kw_i (nI (kw_len.getD (a - kw_SB) 0))]) hE sc_coder (t_coder ho) dJ0_length_8abf5_6 ho rfl rfl (by rw [hRm]; exact ⟨by decide, by decide⟩) ⟨rfl, rfl⟩ (by rw [hRm]; exact ⟨by decide, by decide⟩) (Nat.le_of_ble_eq_true rfl) rfl ?_
  rintro v _ _ _ _ _ ⟨rfl, rfl, rfl, rfl, rfl, rfl⟩
  refine kk_ishr hE dJ0_length_8abf5_9 ?_
  rw [sc_shr0 (by omega)]
  exact kk_iret hE hT dJ0_length_8abf5_10 ⟨_, rfl, rfl, rfl, rfl, rfl, rfl, rfl⟩
theorem t_schr {x : Int32} (ho : kw_strj a x) : kw_Met l G yJ0_charAt_5068e cJ0_charAt_5068e 2 (some .char) sr_3 [kw_a a, kw_i x] (T, n, r, i, w) (sr_P T n r i w (kw_schr a x)) := by
  refine kw_Met.of (by decide) (Nat.le_of_ble_eq_true rfl) fun E hl hRm hE hT hnm => ?_
  show kw_K E G 2 0 0 (kw_Z E G 0 0 _) 0 [(0, kw_a a), (1, kw_i x)] [] T n r i w
  subst hl
  have hj : a - kw_SB < 14 := by have := ho.1.1; have := ho.1.2; omega
  refine kk_aload_n hE 0 dJ0_charAt_5068e_0 rfl rfl ?_
  refine kk_callVs (st := []) hE sc_lat (t_lat ho.1) dJ0_charAt_5068e_1 ho.1 rfl rfl (by rw [hRm]; exact ⟨by decide, by decide⟩) ⟨rfl, rfl⟩ (by rw [hRm]; exact ⟨by decide, by decide⟩) (Nat.le_of_ble_eq_true rfl) rfl ?_
  rintro v _ _ _ _ _ ⟨rfl, rfl, rfl, rfl, rfl, rfl⟩
  refine kk_if_eq (tgt := 16) hE dJ0_charAt_5068e_4 (by decide) (fun c => absurd c (by decide)) (fun _ => ?_)
  refine kk_aload_n hE 0 dJ0_charAt_5068e_7 rfl rfl ?_
  refine kk_sgV hE dJ0_charAt_5068e_8 ho.1 ?_
  refine kk_iload_n hE 1 dJ0_charAt_5068e_11 rfl rfl ?_
  refine kk_callSi (cs' := 0) (sl' := 0) (st := []) hE sc_char (t_lchr hj ho.2) dJ0_charAt_5068e_12 rfl hRm ⟨by decide, by decide⟩ ⟨by decide, by decide⟩ rfl rfl (by decide) rfl ?_
  rintro v _ _ _ _ _ ⟨rfl, rfl, rfl, rfl, rfl, hv⟩
  rw [hv]
  have hl7 : kw_len.getD (a - kw_SB) 0 ≤ 7 := (by decide +kernel : ∀ j, j < 14 → kw_len.getD j 0 ≤ 7) _ hj
  obtain ⟨k, hk, rfl⟩ := vp_in_of ho.2 (by omega)
  have hc := kw_txt_small _ hj k hk
  have ek : (nI k).toNatClampNeg = k := nI_clamp (by omega)
  exact kk_nret hE hT (by rw [ek]; exact hc.2) dJ0_charAt_5068e_15 ⟨_, rfl, rfl, rfl, rfl, rfl, rfl, rfl⟩
end KW10
section KW11
variable {E : kw_E} {G : kw_G} {cc : ByteArray} {nL cs sl : Nat} {own : String} {Q : State → Prop} {pc : Nat} {L : List (Nat × kw_A)} {st : List kw_A} {T : kw_T} {n : Nat} {r : kw_R} {i : kw_I} {w : kw_L} {a idx : Nat} {rm0 : Room}
theorem kn_slen (hE : kw_ok E G cc nL own) (hlk : Cond.methodLink own idx yJ0_length_8abf5 ∈ kw_tb) (hd : decode cc pc = .ok (.invokevirtual idx, 3)) (hRm : E.2.2.2.1 = rm0) (hf : 8 ≤ rm0.frames) (hlo : 400 ≤ rm0.locals) (ho : kw_str a) (hs : (st.map kw_cat).sum ≤ 8) (hcs : cs ≤ rm0.cells ∧ sl ≤ rm0.slots) (kk : kw_K E G nL cs sl Q (pc + 3) L (kw_i (kw_slen a) :: st) T n r i w) : kw_K E G nL cs sl Q pc L (kw_a a :: st) T n r i w := by
  subst hRm
  refine kk_callVs (st := st) (av := []) (np := 0) hE ⟨⟨Or.inl hlk, sm_len_c, sm_i, by decide +kernel⟩, sm_len_n, sm_len_s⟩ (t_slen ho) hd ho rfl rfl ⟨by show 2 + 1 ≤ _; omega, by show 8 + (1 + 11) + 120 ≤ _; omega⟩ ⟨rfl, rfl⟩ hcs hs rfl ?_
  rintro v _ _ _ _ _ ⟨rfl, rfl, rfl, rfl, rfl, hv⟩
  rw [hv]
  exact kk
theorem kn_schr (hE : kw_ok E G cc nL own) (hlk : Cond.methodLink own idx yJ0_charAt_5068e ∈ kw_tb) (hd : decode cc pc = .ok (.invokevirtual idx, 3)) (hRm : E.2.2.2.1 = rm0) (hf : 8 ≤ rm0.frames) (hlo : 400 ≤ rm0.locals) {x : Int32} (ho : kw_strj a x) (hs : (st.map kw_cat).sum ≤ 8) (hcs : cs ≤ rm0.cells ∧ sl ≤ rm0.slots) (kk : kw_K E G nL cs sl Q (pc + 3) L (kw_i (kw_schr a x) :: st) T n r i w) : kw_K E G nL cs sl Q pc L (kw_i x :: kw_a a :: st) T n r i w := by
  subst hRm
  refine kk_callVs (st := st) (av := [kw_i x]) (np := 1) hE ⟨⟨Or.inl hlk, sm_chr_c, sm_i, by decide +kernel⟩, sm_chr_n, sm_chr_s⟩ (t_schr ho) hd ho.1 rfl rfl ⟨by show 4 + 1 ≤ _; omega, by show 8 + (2 + 11) + 240 ≤ _; omega⟩ ⟨rfl, rfl⟩ hcs hs rfl ?_
  rintro v _ _ _ _ _ ⟨rfl, rfl, rfl, rfl, rfl, hv⟩
  rw [hv]
  exact kk
end KW11
