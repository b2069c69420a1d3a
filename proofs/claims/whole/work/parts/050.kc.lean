-- RETURNS, CALLS
abbrev kw_M : Type := kw_T × Nat × kw_R × kw_I × kw_L
def kw_Qc (G : kw_G) (Post : Option kw_A → kw_M → Prop) : Array Value → State → Outcome → State → Prop := fun _ st oc t => (∃ (v : Option kw_A) (u : kw_M), oc = .returned (v.map (kw_v G)) ∧ Post v u ∧ kw_Rep G u.1 u.2.1 u.2.2.1 u.2.2.2.1 u.2.2.2.2 t.heap) ∧ va_F (fun q : Nat => G.1 < q) st t
/-- a method's end -/
def kw_Z (E : kw_E) (G : kw_G) (cs sl : Nat) (Post : Option kw_A → kw_M → Prop) : State → Prop := MQ E.2.2.2.2.2.2.2.1 (kw_Qc G Post) E.2.2.2.2.2.2.1 E.2.2.2.2.1 cs sl (fun q : Nat => G.1 < q)
/-- what it returns, and that it locks nothing -/
def kw_rt (E : kw_E) (ret : Option FieldType) : Prop := E.2.2.2.2.2.2.2.2.1.sig.returnType = ret ∧ E.2.2.2.2.2.2.2.2.1.locks = false
section KW4
variable {E : kw_E} {G : kw_G} {cc : ByteArray} {nL cs sl : Nat} {own : String} {Q : State → Prop} {pc : Nat} {L : List (Nat × kw_A)} {st : List kw_A} {T : kw_T} {n : Nat} {r : kw_R} {i : kw_I} {w : kw_L} {a k ci : Nat} {Post : Option kw_A → kw_M → Prop}
theorem kk_iret (hE : kw_ok E G cc nL own) (hT : kw_rt E (some .int)) {x : Int32} (hd : decode cc pc = .ok (.ireturn, 1)) (hq : Post (some (kw_i x)) (T, n, r, i, w)) : kw_K E G nL cs sl (kw_Z E G cs sl Post) pc L [kw_i x] T n r i w := by
  intro ls H locs hl hR hS
  exact W.iret (v := x) hE.1 hE.2.1 hT.1 (fun t ht hW => ⟨⟨some (kw_i x), _, rfl, hq, by rw [ht]; exact hR⟩, hS.F ht⟩) hS.2.2 hd (hlocks := hT.2)
theorem kk_zret (hE : kw_ok E G cc nL own) (hT : kw_rt E (some .boolean)) {x : Int32} (hd : decode cc pc = .ok (.ireturn, 1)) (hb : kw_b x) (hq : Post (some (kw_i x)) (T, n, r, i, w)) : kw_K E G nL cs sl (kw_Z E G cs sl Post) pc L [kw_i x] T n r i w := by
  intro ls H locs hl hR hS
  exact W.zret (v := x) hE.1 hE.2.1 hT.1 (by rcases hb with rfl | rfl <;> rfl) (fun t ht hW => ⟨⟨some (kw_i x), _, rfl, hq, by rw [ht]; exact hR⟩, hS.F ht⟩) hS.2.2 hd (hlocks := hT.2)
theorem kk_lret (hE : kw_ok E G cc nL own) (hT : kw_rt E (some .long)) {x : Int64} (hd : decode cc pc = .ok (.lreturn, 1)) (hq : Post (some (kw_l x)) (T, n, r, i, w)) : kw_K E G nL cs sl (kw_Z E G cs sl Post) pc L [kw_l x] T n r i w := by
  intro ls H locs hl hR hS
  exact W.lret (v := x) hE.1 hE.2.1 hT.1 (fun t ht hW => ⟨⟨some (kw_l x), _, rfl, hq, by rw [ht]; exact hR⟩, hS.F ht⟩) hS.2.2 hd (hlocks := hT.2)
theorem kk_vret (hE : kw_ok E G cc nL own) (hT : kw_rt E none) (hd : decode cc pc = .ok (.return_, 1)) (hq : Post none (T, n, r, i, w)) : kw_K E G nL cs sl (kw_Z E G cs sl Post) pc L [] T n r i w := by
  intro ls H locs hl hR hS
  exact W.vret hE.1 hE.2.1 hT.1 (fun t ht hW => ⟨⟨none, _, rfl, hq, by rw [ht]; exact hR⟩, hS.F ht⟩) hS.2.2 hd (hlocks := hT.2)
theorem kk_aret (hE : kw_ok E G cc nL own) {rt : FieldType} (hT : kw_rt E (some rt)) (hrt : (∃ n, rt = .object n) ∨ ∃ t, rt = .array t) {x : Nat} (hd : decode cc pc = .ok (.areturn, 1)) (hq : Post (some (kw_a x)) (T, n, r, i, w)) : kw_K E G nL cs sl (kw_Z E G cs sl Post) pc L [kw_a x] T n r i w := by
  intro ls H locs hl hR hS
  exact W.aret (v := kw_vr G x) hE.1 hE.2.1 hT.1 hrt (by unfold kw_vr; split; exact Or.inl rfl; exact Or.inr ⟨_, rfl⟩) (fun t ht hW => ⟨⟨some (kw_a x), _, rfl, hq, by rw [ht]; exact hR⟩, hS.F ht⟩) hS.2.2 hd (hlocks := hT.2)
end KW4
/-- a method by contract: with these arguments in this memory it returns, and Post -/
def kw_Met (l : Launch) (G : kw_G) (y : MethodName) (cc : ByteArray) (nL : Nat) (ret : Option FieldType) (rm : Room) (av : List kw_A) (u : kw_M) (Post : Option kw_A → kw_M → Prop) : Prop :=
  Met l y (Cond.code y cc nL ret :: kw_tb) rm (va_Pc (av.map (kw_v G)) (fun U => kw_Rep G u.1 u.2.1 u.2.2.1 u.2.2.2.1 u.2.2.2.2 U.heap ∧ kw_GK G U)) (kw_Qc G Post) rm.cells rm.slots (fun q : Nat => G.1 < q)
def kw_args : Nat → List kw_A → List (Nat × kw_A)
  | _, [] => []
  | k, v :: l => (k, v) :: kw_args (k + kw_cat v) l
theorem kw_args_lv (G : kw_G) : ∀ (av : List kw_A) (k : Nat), lv_args k (av.map (kw_v G)) = (kw_args k av).map (fun q => (q.1, kw_v G q.2))
  | [], k => rfl
  | v :: l, k => by
    show (k, kw_v G v) :: lv_args (if (kw_v G v).category = 2 then k + 2 else k + 1) (l.map (kw_v G)) = (k, kw_v G v) :: (kw_args (k + kw_cat v) l).map _
    have e : (if (kw_v G v).category = 2 then k + 2 else k + 1) = k + kw_cat v := by
      rw [kw_v_cat]
      rcases v with v | v | v <;> rfl
    rw [e, kw_args_lv G l]
def kw_wid : List kw_A → Nat
  | [] => 0
  | v :: l => kw_cat v + kw_wid l
theorem kw_wid_lg (G : kw_G) : ∀ av : List kw_A, (lg_sl (av.map (kw_v G))).length = kw_wid av
  | [] => rfl
  | v :: l => by
    have ih := kw_wid_lg G l
    rw [List.map_cons]
    unfold lg_sl at ih ⊢
    rw [List.flatMap_cons, List.length_append, ih, kw_v_cat]
    rcases v with v | v | v <;> rfl
theorem kw_Met.of {l : Launch} {G : kw_G} {y : MethodName} {cc : ByteArray} {nL : Nat} {ret : Option FieldType} {rm : Room} {av : List kw_A} {u : kw_M} {Post : Option kw_A → kw_M → Prop} (hy : plainName y.cls = true) (hw : kw_wid av ≤ nL)
    (body : ∀ E : kw_E, E.2.1 = l → E.2.2.2.1 = rm → kw_ok E G cc nL y.cls → kw_rt E ret → E.2.2.2.2.2.2.2.2.1.name = y.name → kw_K E G nL 0 0 (kw_Z E G rm.cells rm.slots Post) 0 (kw_args 0 av) [] u.1 u.2.1 u.2.2.1 u.2.2.2.1 u.2.2.2.2) : kw_Met l G y cc nL ret rm av u Post := by
  refine Met.ofW (cc := cc) (maxL := nL) (ret := ret) hy rfl ?_
  intro p e s m args below meth c s₁ B hml hv
  obtain ⟨rfl, hR, hK⟩ := hv
  have hts := atoms_spec (ws := Cond.code y cc nL ret :: kw_tb) B.pre
  have hb := body (p, l, e, rm, s, m, (av.map (kw_v G)).toArray, below, meth, c) rfl rfl ⟨B.exec, B.bytes, hml, findClass_of_methodNamed B.named, fun w hw => hts w (List.mem_cons_of_mem _ hw), hK⟩ ⟨B.returns, B.notSynchronized⟩ (name_of_methodNamed B.named B.method).1
  rw [lg_entry_eq]
  have hl := lv_entry (av.map (kw_v G)) (n := nL) (by rw [kw_wid_lg]; exact hw)
  rw [kw_args_lv] at hl
  exact hb _ s.heap [] (kw_loc_lv.mpr hl) hR va_S.rf
/-- what links a call: kind 0 own or plain, 1 nest mate -/
def kw_lk (own : String) (idx : Nat) (y : MethodName) : Prop := Cond.methodLink own idx y ∈ kw_tb ∨ ∃ host, Cond.methodLinkNest own idx y host ∈ kw_nb
def kw_C (own : String) (idx : Nat) (y : MethodName) (cc : ByteArray) (nL : Nat) (ret : Option FieldType) (np : Nat) : Prop :=
  kw_lk own idx y ∧ Cond.code y cc nL ret ∈ kw_tb ∧ Cond.initialized y.cls ∈ kw_tb ∧ (y.cls ≠ "java/lang/invoke/MethodHandle" ∧ y.cls ≠ "java/lang/invoke/VarHandle" ∧ (parseMethodDescriptor y.desc).map (fun d => d.parameters.length) = some np)
def kw_CV (own : String) (idx : Nat) (y : MethodName) (cc : ByteArray) (nL : Nat) (ret : Option FieldType) (np : Nat) : Prop := kw_C own idx y cc nL ret np ∧ Cond.instanceMethod y ∈ kw_tb ∧ Cond.selects y.cls y y ∈ kw_tb
def kw_CS (own : String) (idx : Nat) (y : MethodName) (cc : ByteArray) (nL : Nat) (ret : Option FieldType) (np : Nat) : Prop := kw_C own idx y cc nL ret np ∧ Cond.static y ∈ kw_tb
def kw_CI (own : String) (idx : Nat) (y : MethodName) (cc : ByteArray) (nL : Nat) (np : Nat) : Prop := kw_C own idx y cc nL none np ∧ Cond.instanceMethod y ∈ kw_tb ∧ y.name = "<init>"
section KW5
variable {E : kw_E} {G : kw_G} {cc : ByteArray} {nL cs sl : Nat} {own : String} {Q : State → Prop} {pc : Nat} {L : List (Nat × kw_A)} {st : List kw_A} {T : kw_T} {n : Nat} {r : kw_R} {i : kw_I} {w : kw_L} {a k ci idx np : Nat} {Post : Option kw_A → kw_M → Prop}
variable {y : MethodName} {cc' : ByteArray} {nL' : Nat} {ret' : Option FieldType} {rm : Room} {av : List kw_A}
theorem kw_blind {u : kw_M} {vs : List Value} : FrameBlind (va_Pc vs (fun U => kw_Rep G u.1 u.2.1 u.2.2.1 u.2.2.2.1 u.2.2.2.2 U.heap ∧ kw_GK G U)) := by
  intro a U g mk q
  obtain ⟨q0, q1, q2⟩ := q
  exact ⟨q0, q1, kw_GK.same (s := U) (U := U.calling g mk a) rfl rfl q2⟩
theorem kw_sum (G : kw_G) (st : List kw_A) : ((st.map (kw_v G)).map fun v => v.category).sum = (st.map kw_cat).sum := by
  rw [List.map_map]
  congr 1
  apply List.map_congr_left
  intro x _
  exact kw_v_cat G x
/-- behind a call -/
theorem kw_after {ls : Array Slot} {H : Heap} {locs : List Loc} {st0 : List Value} {mc ms : Nat} {ar : Array Value} (hr : va_Run E.1 E.2.1 E.2.2.1 E.2.2.2.1 E.2.2.2.2.1 E.2.2.2.2.2.1 E.2.2.2.2.2.2.1 E.2.2.2.2.2.2.2.1 E.2.2.2.2.2.2.2.2.1 E.2.2.2.2.2.2.2.2.2 H locs cs sl mc ms (F0 E.2.2.2.2.2.1 pc ls st0) (st.map (kw_v G)) (kw_Qc G Post ar) (fun q : Nat => G.1 < q)) (hl : kw_loc G ls nL L) (hS : va_S (fun q : Nat => G.1 < q) E.2.2.2.2.1.heap H locs)
    (kk : ∀ (v : Option kw_A) (u : kw_M), Post v u → kw_K E G nL (cs + mc) (sl + ms) Q (pc + 3) L (v.toList ++ st) u.1 u.2.1 u.2.2.1 u.2.2.2.1 u.2.2.2.2) : kw_W E H locs cs sl Q (F0 E.2.2.2.2.2.1 pc ls st0) := by
  intro T hT X
  obtain ⟨v, st₀, t, T', L1, h0, X', hL, e1, e2, ⟨⟨v1, u, hv, hp, hb⟩, hz, hk⟩, stp⟩ := hr T hT X
  have hv1 : v = v1.map (kw_v G) := by injection hv
  subst hv1
  rw [h0] at hz hk
  have hst : (Option.map (kw_v G) v1).toList ++ st.map (kw_v G) = (v1.toList ++ st).map (kw_v G) := by cases v1 <;> rfl
  obtain ⟨t2, a1, b1⟩ := kk v1 u hp ls T'.heap (locs ++ L1) hl (by rw [e1]; exact hb)
    ⟨Nat.le_trans hS.1 (by rw [e1]; exact hz), fun q h1 h2 => by rw [e1, hk q (Nat.lt_of_lt_of_le h1 hS.1) h2]; exact hS.2.1 q h1 h2, fun q hq => by
      rcases List.mem_append.mp hq with h | h
      · exact hS.2.2 q h
      · exact hL q h⟩ T' rfl X'
  rw [← hst] at a1
  exact ⟨t2, stp t2 a1, b1⟩
theorem kw_gin (hc : Cond.code y cc' nL' ret' ∈ kw_tb) : GoodIn kw_tb (Cond.code y cc' nL' ret' :: kw_tb) := by
  intro w hw
  rcases List.mem_cons.mp hw with rfl | hw
  · exact ⟨hc, kw_good _ hc⟩
  · exact ⟨hw, kw_good _ hw⟩
theorem kk_callS (hE : kw_ok E G cc nL own) (hC : kw_CS own idx y cc' nL' ret' np) (hM : kw_Met E.2.1 G y cc' nL' ret' rm av (T, n, r, i, w) Post) (hd : decode cc pc = .ok (.invokestatic idx, 3)) (hn : av.length = np) (hR0 : rm.frames + 1 ≤ E.2.2.2.1.frames ∧ 8 + (nL' + 11) + rm.locals ≤ E.2.2.2.1.locals) (hf : cs + rm.cells ≤ E.2.2.2.1.cells ∧ sl + rm.slots ≤ E.2.2.2.1.slots) (hs : (st.map kw_cat).sum ≤ 8) {st0 : List kw_A} (hst : st0 = av.reverse ++ st)
    (kk : ∀ (v : Option kw_A) (u : kw_M), Post v u → kw_K E G nL (cs + rm.cells) (sl + rm.slots) Q (pc + 3) L (v.toList ++ st) u.1 u.2.1 u.2.2.1 u.2.2.2.1 u.2.2.2.2) : kw_K E G nL cs sl Q pc L st0 T n r i w := by
  subst hst
  intro ls H locs hl hR hS
  obtain ⟨hx, hb, hml, hown, hts, hK⟩ := hE
  obtain ⟨⟨hlk, hcode, hini, hd1⟩, hstat⟩ := hC
  have hpre : PreS E.2.2.2.2.1 H (va_Pc (av.map (kw_v G)) (fun U => kw_Rep G T n r i w U.heap ∧ kw_GK G U)) (av.map (kw_v G)) := ⟨kw_blind (u := (T, n, r, i, w)), fun U hU hW => ⟨rfl, by rw [hU]; exact hR, kw_GK.moved hW (by rw [hU]; exact hS.2.1) hK⟩⟩
  have hstk : (av.reverse ++ st).map (kw_v G) = (av.map (kw_v G)).reverse ++ st.map (kw_v G) := by rw [List.map_append, List.map_reverse]
  have hlen : (av.map (kw_v G)).length = np := by rw [List.length_map]; exact hn
  have hW8 : 2 * (F0 E.2.2.2.2.2.1 pc ls ((av.reverse ++ st).map (kw_v G))).monitorRoom + ((st.map (kw_v G)).map fun v => v.category).sum ≤ 8 := lv_room (by rw [kw_sum]; exact hs)
  rcases hlk with hlk | ⟨host, hlk⟩
  · exact kw_after (va_runS (nL := nL) (Ts := kw_tb) ⟨hx, hb, hml, hown, hts⟩ hM ⟨callB_of np hts (kw_gin hcode) rfl rfl rfl (hts _ hini) (hts _ hlk) hd1 hR0, hts _ hstat⟩ hpre rfl hlen hl.1 hstk hW8 hd hf) hl hS kk
  · exact kw_after (va_runSN (nL := nL) (Ts := kw_tb) ⟨hx, hb, hml, hown, hts⟩ hM ⟨va_cnB np hts (kw_gin hcode) rfl rfl rfl (hK.2.1 _ hlk) (hts _ hini) hd1 hR0, hts _ hstat, trivial⟩ hpre rfl hlen hl.1 hstk hW8 hd hf) hl hS kk
theorem kk_callI (hE : kw_ok E G cc nL own) (hC : kw_CI own idx y cc' nL' np) (hM : kw_Met E.2.1 G y cc' nL' none rm (kw_a a :: av) (T, n, r, i, w) Post) (hd : decode cc pc = .ok (.invokespecial idx, 3)) (ha : T a = (0, ci)) (hn : av.length = np) (hR0 : rm.frames + 1 ≤ E.2.2.2.1.frames ∧ 8 + (nL' + 11) + rm.locals ≤ E.2.2.2.1.locals) (hf : cs + rm.cells ≤ E.2.2.2.1.cells ∧ sl + rm.slots ≤ E.2.2.2.1.slots) (hs : (st.map kw_cat).sum ≤ 8) {st0 : List kw_A} (hst : st0 = av.reverse ++ kw_a a :: st)
    (kk : ∀ (v : Option kw_A) (u : kw_M), Post v u → kw_K E G nL (cs + rm.cells) (sl + rm.slots) Q (pc + 3) L (v.toList ++ st) u.1 u.2.1 u.2.2.1 u.2.2.2.1 u.2.2.2.2) : kw_K E G nL cs sl Q pc L st0 T n r i w := by
  subst hst
  intro ls H locs hl hR hS
  obtain ⟨hx, hb, hml, hown, hts, hK⟩ := hE
  obtain ⟨⟨hlk, hcode, hini, hd1⟩, hins, hy1⟩ := hC
  obtain ⟨e, -⟩ := hR.obj ha
  have hpre : PreS E.2.2.2.2.1 H (va_Pc ((kw_a a :: av).map (kw_v G)) (fun U => kw_Rep G T n r i w U.heap ∧ kw_GK G U)) (.ref (G.1 + a) :: av.map (kw_v G)) := ⟨kw_blind (u := (T, n, r, i, w)), fun U hU hW => ⟨by rw [← e]; rfl, by rw [hU]; exact hR, kw_GK.moved hW (by rw [hU]; exact hS.2.1) hK⟩⟩
  have hstk : (av.reverse ++ kw_a a :: st).map (kw_v G) = (av.map (kw_v G)).reverse ++ .ref (G.1 + a) :: st.map (kw_v G) := by rw [List.map_append, List.map_reverse, ← e]; rfl
  have hlen : (av.map (kw_v G)).length = np := by rw [List.length_map]; exact hn
  have hW8 : 2 * (F0 E.2.2.2.2.2.1 pc ls ((av.reverse ++ kw_a a :: st).map (kw_v G))).monitorRoom + ((st.map (kw_v G)).map fun v => v.category).sum ≤ 8 := lv_room (by rw [kw_sum]; exact hs)
  rcases hlk with hlk | ⟨host, hlk⟩
  · exact kw_after (va_runI (nL := nL) (Ts := kw_tb) ⟨hx, hb, hml, hown, hts⟩ hM ⟨callB_of np hts (kw_gin hcode) rfl rfl rfl (hts _ hini) (hts _ hlk) hd1 hR0, hy1, hts _ hins⟩ hpre rfl hlen hl.1 hstk hW8 hd hf) hl hS kk
  · exact kw_after (va_runIN (nL := nL) (Ts := kw_tb) ⟨hx, hb, hml, hown, hts⟩ hM ⟨va_cnB np hts (kw_gin hcode) rfl rfl rfl (hK.2.1 _ hlk) (hts _ hini) hd1 hR0, hy1, hts _ hins⟩ hpre rfl hlen hl.1 hstk hW8 hd hf) hl hS kk
theorem kk_callV (hE : kw_ok E G cc nL own) (hC : kw_CV own idx y cc' nL' ret' np) (hM : kw_Met E.2.1 G y cc' nL' ret' rm (kw_a a :: av) (T, n, r, i, w) Post) (hd : decode cc pc = .ok (.invokevirtual idx, 3)) (ha : T a = (0, ci)) (hci : (kw_cl[ci]?).map (fun q => q.1) = some y.cls) (hn : av.length = np) (hR0 : rm.frames + 1 ≤ E.2.2.2.1.frames ∧ 8 + (nL' + 11) + rm.locals ≤ E.2.2.2.1.locals) (hf : cs + rm.cells ≤ E.2.2.2.1.cells ∧ sl + rm.slots ≤ E.2.2.2.1.slots) (hs : (st.map kw_cat).sum ≤ 8) {st0 : List kw_A} (hst : st0 = av.reverse ++ kw_a a :: st)
    (kk : ∀ (v : Option kw_A) (u : kw_M), Post v u → kw_K E G nL (cs + rm.cells) (sl + rm.slots) Q (pc + 3) L (v.toList ++ st) u.1 u.2.1 u.2.2.1 u.2.2.2.1 u.2.2.2.2) : kw_K E G nL cs sl Q pc L st0 T n r i w := by
  subst hst
  intro ls H locs hl hR hS
  obtain ⟨hx, hb, hml, hown, hts, hK⟩ := hE
  obtain ⟨⟨hlk, hcode, hini, hd1⟩, hins, hsel⟩ := hC
  obtain ⟨e, q, hq, cell, q1, q2, q3, -⟩ := hR.obj ha
  have hcq : q.1 = y.cls := by rw [hq] at hci; exact Option.some.inj hci
  have hpre : PreV E.2.2.2.2.1 H y.cls (G.1 + a) (va_Pc ((kw_a a :: av).map (kw_v G)) (fun U => kw_Rep G T n r i w U.heap ∧ kw_GK G U)) (av.map (kw_v G)) := ⟨kw_blind (u := (T, n, r, i, w)), ⟨cell, q1, by rw [q3]; rfl, by rw [q2, ← hcq]; exact (hK.1.1 ci q hq).2.1⟩, fun U hU hW => ⟨by rw [← e]; rfl, by rw [hU]; exact hR, kw_GK.moved hW (by rw [hU]; exact hS.2.1) hK⟩⟩
  have hstk : (av.reverse ++ kw_a a :: st).map (kw_v G) = (av.map (kw_v G)).reverse ++ .ref (G.1 + a) :: st.map (kw_v G) := by rw [List.map_append, List.map_reverse, ← e]; rfl
  have hlen : (av.map (kw_v G)).length = np := by rw [List.length_map]; exact hn
  have hW8 : 2 * (F0 E.2.2.2.2.2.1 pc ls ((av.reverse ++ kw_a a :: st).map (kw_v G))).monitorRoom + ((st.map (kw_v G)).map fun v => v.category).sum ≤ 8 := lv_room (by rw [kw_sum]; exact hs)
  rcases hlk with hlk | ⟨host, hlk⟩
  · exact kw_after (va_runV (nL := nL) (Ts := kw_tb) ⟨hx, hb, hml, hown, hts⟩ hM ⟨callB_of np hts (kw_gin hcode) rfl rfl rfl (hts _ hini) (hts _ hlk) hd1 hR0, hts _ hins, hts _ hsel⟩ hpre rfl hlen hl.1 hstk hW8 hd hf) hl hS kk
  · exact kw_after (va_runVN (nL := nL) (Ts := kw_tb) ⟨hx, hb, hml, hown, hts⟩ hM ⟨va_cnB np hts (kw_gin hcode) rfl rfl rfl (hK.2.1 _ hlk) (hts _ hini) hd1 hR0, hts _ hins, hts _ hsel⟩ hpre rfl hlen hl.1 hstk hW8 hd hf) hl hS kk
end KW5
