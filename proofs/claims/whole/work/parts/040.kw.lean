-- THE KIT OF ONE MEMORY: all cells of the run, by their places from the law's start on, as one memory of numbers
abbrev kw_A : Type := Int32 ⊕ (Int64 ⊕ Nat)
abbrev kw_i (x : Int32) : kw_A := Sum.inl x
abbrev kw_l (x : Int64) : kw_A := Sum.inr (Sum.inl x)
abbrev kw_a (x : Nat) : kw_A := Sum.inr (Sum.inr x)
/-- places from here on are String constants -/
def kw_SB : Nat := 1000000000000
abbrev kw_G : Type := Nat × va_G × (Nat → ClassId) × (Nat → Nat) × (Nat → Nat)
def kw_ad (G : kw_G) (a : Nat) : Nat := if a < kw_SB then G.1 + a else if a < kw_SB + 200 then G.2.2.2.1 (a - kw_SB) else a - (kw_SB + 200)
def kw_vr (G : kw_G) (a : Nat) : Value := if a = 0 then .null else .ref (kw_ad G a)
def kw_v (G : kw_G) (x : kw_A) : Value := match x with
  | Sum.inl x => .int x
  | Sum.inr (Sum.inl x) => .long x
  | Sum.inr (Sum.inr a) => kw_vr G a
def kw_cat (x : kw_A) : Nat := match x with
  | Sum.inl _ => 1
  | Sum.inr (Sum.inl _) => 2
  | Sum.inr (Sum.inr _) => 1
theorem kw_vr_cat (G : kw_G) (a : Nat) : (kw_vr G a).category = 1 := by
  unfold kw_vr
  split <;> rfl
theorem kw_v_cat (G : kw_G) (x : kw_A) : (kw_v G x).category = kw_cat x := by
  rcases x with x | x | x
  · rfl
  · rfl
  · exact kw_vr_cat G x
abbrev kw_T : Type := Nat → Nat × Nat
abbrev kw_R : Type := Nat → Nat → Nat
abbrev kw_I : Type := Nat → Nat → Int32
abbrev kw_L : Type := Nat → Nat → Int64
/-- one place of one cell changed -/
def kw_st {α : Type} (f : Nat → Nat → α) (a k : Nat) (x : α) : Nat → Nat → α := fun b j => if b = a then (if j = k then x else f b j) else f b j
/-- one cell changed -/
def kw_row {α : Type} (f : Nat → α) (a : Nat) (x : α) : Nat → α := fun b => if b = a then x else f b
abbrev kw_cl : List vw_C := [(RX0, TX0, 12), (RX1, TX1, 3), (RX2, TX2, 8), (RX3, TX3, 7), (RX4, TX4, 10), (RX5, TX5, 5), (RX6, TX6, 8), (RX7, TX7, 2), (RX8, TX8, 4), (RX9, TX9, 13), (RX10, TX10, 38)]
def kw_ft (ci : Nat) : Nat → FieldType := match ci with
  | 0 => tyX0
  | 1 => tyX1
  | 2 => tyX2
  | 3 => tyX3
  | 4 => tyX4
  | 5 => tyX5
  | 6 => tyX6
  | 7 => tyX7
  | 8 => tyX8
  | 9 => tyX9
  | _ => tyX10
def kw_isR (ty : FieldType) : Bool := match ty with
  | .object _ => true
  | .array _ => true
  | _ => false
def kw_fv (G : kw_G) (ty : FieldType) (rv : Nat) (iv : Int32) : Value := if kw_isR ty = true then kw_vr G rv else .int iv
def kw_tyof (t : Nat) : FieldType := match t with
  | 1 => .int
  | 2 => .byte
  | 3 => .boolean
  | 4 => .long
  | 5 => .array .int
  | 6 => .object RX6
  | _ => .object RX1
abbrev kw_tys (ac : Nat → ClassId) : List (ClassId × FieldType) := [(ac 0, .int), (ac 1, .int), (ac 2, .byte), (ac 3, .boolean), (ac 4, .long), (ac 5, .array .int), (ac 6, .object RX6), (ac 7, .object RX1)]
def kw_cell (G : kw_G) (T : kw_T) (r : kw_R) (i : kw_I) (w : kw_L) (a : Nat) (H : Heap) : Prop :=
  if (T a).1 = 0 then ∃ q : vw_C, kw_cl[(T a).2]? = some q ∧ t_OB (G.1 + a) (G.2.1.1 (T a).2) q.2.2 (G.2.1.2 (T a).2) H (fun k => kw_fv G (kw_ft (T a).2 k) (r a k) (i a k))
  else if (T a).1 < 4 then H[G.1 + a]? = some (arrV (G.2.2.1 (T a).1) (T a).2 (fun j => .int (i a j)))
  else if (T a).1 = 4 then H[G.1 + a]? = some (arrV (G.2.2.1 (T a).1) (T a).2 (fun j => .long (w a j)))
  else H[G.1 + a]? = some (arrV (G.2.2.1 (T a).1) (T a).2 (fun j => kw_vr G (r a j)))
/-- the heap holds this memory: its cells are those from G.1 + 1 on -/
def kw_Rep (G : kw_G) (T : kw_T) (n : Nat) (r : kw_R) (i : kw_I) (w : kw_L) (H : Heap) : Prop :=
  H.size = G.1 + n ∧ n ≤ kw_SB ∧ (∀ a, (T a).1 < 8 → 0 < a ∧ a < n) ∧ ∀ a, (T a).1 < 8 → kw_cell G T r i w a H
/-- the String constants of the class Reader -/
def kw_len : List Nat := [6, 1, 1, 7, 4, 3, 4, 5, 5, 4, 2, 3, 3, 2]
def kw_txt : List (List Int32) := [[119, 101, 97, 118, 101, 115], [120], [121], [118, 105, 108, 108, 97, 103, 101], [115, 101, 101, 110], [119, 97, 115], [108, 101, 102, 116], [97, 98, 111, 118, 101], [116, 97, 115, 116, 101], [121, 101, 97, 114], [105, 102], [110, 111, 116], [97, 110, 100], [111, 114]]
def kw_pn : List Nat := [52, 119, 121, 123, 125, 127, 129, 131, 133, 135, 65, 101, 87, 96]
def kw_pt : List String := ["weaves", "x", "y", "village", "seen", "was", "left", "above", "taste", "year", "if", "not", "and", "or"]
/-- the words that every later state keeps, and the links of nest mates -/
def kw_tb : List Cond := lw_tbl.filter goodWord
def kw_isN (w : Cond) : Bool := match w with
  | .fieldLinkNest _ _ _ _ _ _ => true
  | .methodLinkNest _ _ _ _ => true
  | .castable _ _ => true
  | _ => false
def kw_nb : List Cond := lw_tbl.filter kw_isN
theorem kw_inT {w : Cond} (h : w ∈ lw_tbl) (hg : goodWord w = true) : w ∈ kw_tb := List.mem_filter.mpr ⟨h, hg⟩
theorem kw_inN {w : Cond} (h : w ∈ lw_tbl) (hg : kw_isN w = true) : w ∈ kw_nb := List.mem_filter.mpr ⟨h, hg⟩
theorem kw_good : ∀ w ∈ kw_tb, (w.onTables && w.keeps) = true ∨ ∃ ty, w = Cond.arrayClass ty := fun w hw => good_of_word (List.mem_filter.mp hw).2
/-- what holds of the String constants and of arrays of references -/
def kw_X (G : kw_G) (U : State) : Prop := (Cond.arrayOver (.object RX6)).before #[] U = true ∧ (Cond.arrayOver (.object RX1)).before #[] U = true ∧ (Cond.arrayOver (.array .int)).before #[] U = true ∧ vk_S 14 kw_len kw_txt G.2.2.2.1 G.2.2.2.2 (fun q : Nat => G.1 < q) U U.heap ∧ (∀ i, i < 14 → vk_R RX4 (kw_pn.getD i 0) (kw_pt.getD i "") (G.2.2.2.1 i) U) ∧ va_Z "java/lang/String" "COMPACT_STRINGS" "Z" (.int 1) (fun q : Nat => G.1 < q) U U.heap ∧ va_Zq "jdk/internal/util/Preconditions" "SIOOBE_FORMATTER" "Ljava/util/function/BiFunction;" (fun q : Nat => G.1 < q) U U.heap
/-- what holds of the tables all the way -/
def kw_GK (G : kw_G) (U : State) : Prop := va_K G.2.1 kw_cl (kw_tys G.2.2.1) U ∧ (∀ w ∈ kw_nb, va_Nw w U) ∧ kw_X G U
theorem kw_GK.moved {G : kw_G} {s U : State} (hW : s.WarmedH U.vm) (hq : ∀ q : Nat, q < s.heap.size → ¬ G.1 < q → U.heap[q]? = s.heap[q]?) (h : kw_GK G s) : kw_GK G U := by
  obtain ⟨h1, h2, x1, x2, x3, x4, x5, x6, x7⟩ := h
  refine ⟨va_K.moved hW.alike h1, fun w hw => ?_, Cond.arrayOver_alike hW.alike x1, Cond.arrayOver_alike hW.alike x2, arrayOver_alikeB hW.alike x3, (vk_S.moved hW.alike x4).kept hq, fun i hi => (x5 i hi).warm hW, (va_Z.moved hW.alike x6).kept hq, (va_Zq.moved hW.alike x7).kept hq⟩
  have h3 := h2 w hw
  have h4 := (List.mem_filter.mp hw).2
  cases w <;> first | exact h3.warmF hW | exact h3.warmM hW | exact h3.warmC hW | cases h4
theorem kw_GK.same {G : kw_G} {s U : State} (hv : U.vm = s.vm) (hh : U.heap = s.heap) (h : kw_GK G s) : kw_GK G U := by
  have hal : s.vm.Alike U.vm := by rw [hv]; exact Vm.Alike.refl _
  obtain ⟨h1, h2, x1, x2, x3, x4, x5, x6, x7⟩ := h
  refine ⟨va_K.moved hal h1, fun w hw => ?_, Cond.arrayOver_alike hal x1, Cond.arrayOver_alike hal x2, arrayOver_alikeB hal x3, (vk_S.moved hal x4).kept (fun a _ _ => by rw [hh]), fun i hi => (x5 i hi).same hv, (va_Z.moved hal x6).kept (fun a _ _ => by rw [hh]), (va_Zq.moved hal x7).kept (fun a _ _ => by rw [hh])⟩
  have h3 := h2 w hw
  have h4 := (List.mem_filter.mp hw).2
  cases w <;> first | exact h3.same rfl hv.symm | cases h4
abbrev kw_E : Type := Program × Launch × Env × Room × State × MethodId × Array Value × List Frame × Method × Code
def kw_loc (G : kw_G) (ls : Array Slot) (nL : Nat) (L : List (Nat × kw_A)) : Prop := ls.size = nL ∧ lv_wf ls ∧ ∀ q ∈ L, ls[q.1]? = some (.val (kw_v G q.2))
abbrev kw_W (E : kw_E) (H : Heap) (locs : List Loc) (cs sl : Nat) (Q : State → Prop) (g : JFrame) : Prop := W E.1 E.2.1 E.2.2.1 E.2.2.2.1 E.2.2.2.2.1 E.2.2.2.2.2.1 E.2.2.2.2.2.2.1 E.2.2.2.2.2.2.2.1 E.2.2.2.2.2.2.2.2.1 E.2.2.2.2.2.2.2.2.2 H locs cs sl Q g
def kw_ok (E : kw_E) (G : kw_G) (cc : ByteArray) (nL : Nat) (own : String) : Prop :=
  E.1.tables.exec = Jvm.exec ∧ E.2.2.2.2.2.2.2.2.2.code = cc ∧ E.2.2.2.2.2.2.2.2.2.maxLocals = nL ∧ E.2.2.2.2.1.vm.findClass own = some E.2.2.2.2.2.1.cls ∧ (∀ w ∈ kw_tb, w.before E.2.2.2.2.2.2.1 E.2.2.2.2.1 = true) ∧ kw_GK G E.2.2.2.2.1
/-- the machine at pc, with these locals, this stack, this memory, comes to Q -/
def kw_K (E : kw_E) (G : kw_G) (nL cs sl : Nat) (Q : State → Prop) (pc : Nat) (L : List (Nat × kw_A)) (st : List kw_A) (T : kw_T) (n : Nat) (r : kw_R) (i : kw_I) (w : kw_L) : Prop :=
  ∀ (ls : Array Slot) (H : Heap) (locs : List Loc), kw_loc G ls nL L → kw_Rep G T n r i w H → va_S (fun q : Nat => G.1 < q) E.2.2.2.2.1.heap H locs → kw_W E H locs cs sl Q (F0 E.2.2.2.2.2.1 pc ls (st.map (kw_v G)))
section KW1
variable {E : kw_E} {G : kw_G} {cc : ByteArray} {nL cs sl : Nat} {own : String} {Q : State → Prop} {pc : Nat} {L : List (Nat × kw_A)} {st : List kw_A} {T : kw_T} {n : Nat} {r : kw_R} {i : kw_I} {w : kw_L}
theorem kk_iconst (hE : kw_ok E G cc nL own) {m : Int} {v : Int32} (hd : decode cc pc = .ok (.iconst m, 1)) (hv : Int32.ofInt m = v) (kk : kw_K E G nL cs sl Q (pc + 1) L (kw_i v :: st) T n r i w) : kw_K E G nL cs sl Q pc L (st) T n r i w := by
  obtain ⟨hx, hb, hml, hown, hts, hK⟩ := hE
  intro ls H locs hl hR hS
  exact lv_iconst hx hb hd hv (kk ls H locs hl hR hS)
theorem kk_bipush (hE : kw_ok E G cc nL own) {m : Int} {v : Int32} (hd : decode cc pc = .ok (.bipush m, 2)) (hv : (Int8.ofInt m).toInt32 = v) (kk : kw_K E G nL cs sl Q (pc + 2) L (kw_i v :: st) T n r i w) : kw_K E G nL cs sl Q pc L (st) T n r i w := by
  obtain ⟨hx, hb, hml, hown, hts, hK⟩ := hE
  intro ls H locs hl hR hS
  exact lv_bipush hx hb hd hv (kk ls H locs hl hR hS)
theorem kk_sipush (hE : kw_ok E G cc nL own) {m : Int} {v : Int32} (hd : decode cc pc = .ok (.sipush m, 3)) (hv : (Int16.ofInt m).toInt32 = v) (kk : kw_K E G nL cs sl Q (pc + 3) L (kw_i v :: st) T n r i w) : kw_K E G nL cs sl Q pc L (st) T n r i w := by
  obtain ⟨hx, hb, hml, hown, hts, hK⟩ := hE
  intro ls H locs hl hR hS
  exact lv_sipush hx hb hd hv (kk ls H locs hl hR hS)
theorem kk_lconst (hE : kw_ok E G cc nL own) {m : Fin 2} {v : Int64} (hd : decode cc pc = .ok (.lconst m, 1)) (hv : Int64.ofNat (m : Nat) = v) (kk : kw_K E G nL cs sl Q (pc + 1) L (kw_l v :: st) T n r i w) : kw_K E G nL cs sl Q pc L (st) T n r i w := by
  obtain ⟨hx, hb, hml, hown, hts, hK⟩ := hE
  intro ls H locs hl hR hS
  exact lv_lconst hx hb hd hv (kk ls H locs hl hR hS)
theorem kk_ldc (hE : kw_ok E G cc nL own) {k : Nat} {v : Int32} (hd : decode cc pc = .ok (.ldc k, 2)) (hw : Jvm.Cond.constant own k v ∈ kw_tb) (kk : kw_K E G nL cs sl Q (pc + 2) L (kw_i v :: st) T n r i w) : kw_K E G nL cs sl Q pc L (st) T n r i w := by
  obtain ⟨hx, hb, hml, hown, hts, hK⟩ := hE
  intro ls H locs hl hR hS
  exact lv_ldc hx hb hown (hts _ hw) hd (kk ls H locs hl hR hS)
theorem kk_ldcw (hE : kw_ok E G cc nL own) {k : Nat} {v : Int32} (hd : decode cc pc = .ok (.ldc_w k, 3)) (hw : Jvm.Cond.constant own k v ∈ kw_tb) (kk : kw_K E G nL cs sl Q (pc + 3) L (kw_i v :: st) T n r i w) : kw_K E G nL cs sl Q pc L (st) T n r i w := by
  obtain ⟨hx, hb, hml, hown, hts, hK⟩ := hE
  intro ls H locs hl hR hS
  exact lv_ldcw hx hb hown (hts _ hw) hd (kk ls H locs hl hR hS)
theorem kk_ldc2 (hE : kw_ok E G cc nL own) {k : Nat} {v : Int64} (hd : decode cc pc = .ok (.ldc2_w k, 3)) (hw : Jvm.Cond.constantLong own k v ∈ kw_tb) (kk : kw_K E G nL cs sl Q (pc + 3) L (kw_l v :: st) T n r i w) : kw_K E G nL cs sl Q pc L (st) T n r i w := by
  obtain ⟨hx, hb, hml, hown, hts, hK⟩ := hE
  intro ls H locs hl hR hS
  exact lv_ldc2 hx hb hown (hts _ hw) hd (kk ls H locs hl hR hS)
theorem kk_null (hE : kw_ok E G cc nL own) (hd : decode cc pc = .ok (.aconst_null, 1)) (kk : kw_K E G nL cs sl Q (pc + 1) L (kw_a 0 :: st) T n r i w) : kw_K E G nL cs sl Q pc L (st) T n r i w := by
  obtain ⟨hx, hb, hml, hown, hts, hK⟩ := hE
  intro ls H locs hl hR hS
  exact lv_null hx hb hd (kk ls H locs hl hR hS)
theorem kk_iload_n (hE : kw_ok E G cc nL own) {k : Fin 4} {j : Nat} {x : Int32} (p0 : Nat) (hd : decode cc pc = .ok (.iload_n k, 1)) (hi : (k : Nat) = j) (hp : L[p0]? = some (j, kw_i x)) (kk : kw_K E G nL cs sl Q (pc + 1) L (kw_i x :: st) T n r i w) : kw_K E G nL cs sl Q pc L (st) T n r i w := by
  obtain ⟨hx, hb, hml, hown, hts, hK⟩ := hE
  intro ls H locs hl hR hS
  exact lv_iload_n hx hb hd hi (hl.2.2 _ (List.mem_of_getElem? hp)) (kk ls H locs hl hR hS)
theorem kk_iload (hE : kw_ok E G cc nL own) {j : Nat} {x : Int32} (p0 : Nat) (hd : decode cc pc = .ok (.iload j, 2)) (hp : L[p0]? = some (j, kw_i x)) (kk : kw_K E G nL cs sl Q (pc + 2) L (kw_i x :: st) T n r i w) : kw_K E G nL cs sl Q pc L (st) T n r i w := by
  obtain ⟨hx, hb, hml, hown, hts, hK⟩ := hE
  intro ls H locs hl hR hS
  exact lv_iload hx hb hd (hl.2.2 _ (List.mem_of_getElem? hp)) (kk ls H locs hl hR hS)
theorem kk_lload_n (hE : kw_ok E G cc nL own) {k : Fin 4} {j : Nat} {x : Int64} (p0 : Nat) (hd : decode cc pc = .ok (.lload_n k, 1)) (hi : (k : Nat) = j) (hp : L[p0]? = some (j, kw_l x)) (kk : kw_K E G nL cs sl Q (pc + 1) L (kw_l x :: st) T n r i w) : kw_K E G nL cs sl Q pc L (st) T n r i w := by
  obtain ⟨hx, hb, hml, hown, hts, hK⟩ := hE
  intro ls H locs hl hR hS
  exact lv_lload_n hx hb hd hi (hl.2.2 _ (List.mem_of_getElem? hp)) (kk ls H locs hl hR hS)
theorem kk_lload (hE : kw_ok E G cc nL own) {j : Nat} {x : Int64} (p0 : Nat) (hd : decode cc pc = .ok (.lload j, 2)) (hp : L[p0]? = some (j, kw_l x)) (kk : kw_K E G nL cs sl Q (pc + 2) L (kw_l x :: st) T n r i w) : kw_K E G nL cs sl Q pc L (st) T n r i w := by
  obtain ⟨hx, hb, hml, hown, hts, hK⟩ := hE
  intro ls H locs hl hR hS
  exact lv_lload hx hb hd (hl.2.2 _ (List.mem_of_getElem? hp)) (kk ls H locs hl hR hS)
theorem kk_aload_n (hE : kw_ok E G cc nL own) {k : Fin 4} {j x : Nat} (p0 : Nat) (hd : decode cc pc = .ok (.aload_n k, 1)) (hi : (k : Nat) = j) (hp : L[p0]? = some (j, kw_a x)) (kk : kw_K E G nL cs sl Q (pc + 1) L (kw_a x :: st) T n r i w) : kw_K E G nL cs sl Q pc L st T n r i w := by
  obtain ⟨hx, hb, hml, hown, hts, hK⟩ := hE
  intro ls H locs hl hR hS
  have h1 := hl.2.2 _ (List.mem_of_getElem? hp)
  have h2 := kk ls H locs hl hR hS
  have e : kw_v G (kw_a x) = kw_vr G x := rfl
  have e2 : (kw_a x :: st).map (kw_v G) = kw_vr G x :: st.map (kw_v G) := rfl
  rw [e2] at h2
  dsimp only at h1
  rw [e] at h1
  unfold kw_vr at h1 h2
  by_cases hz : x = 0
  · rw [if_pos hz] at h1 h2
    exact lv_aload_nN hx hb hd hi h1 h2
  · rw [if_neg hz] at h1 h2
    exact lv_aload_n hx hb hd hi h1 h2
theorem kk_aload (hE : kw_ok E G cc nL own) {j x : Nat} (p0 : Nat) (hd : decode cc pc = .ok (.aload j, 2)) (hp : L[p0]? = some (j, kw_a x)) (kk : kw_K E G nL cs sl Q (pc + 2) L (kw_a x :: st) T n r i w) : kw_K E G nL cs sl Q pc L st T n r i w := by
  obtain ⟨hx, hb, hml, hown, hts, hK⟩ := hE
  intro ls H locs hl hR hS
  have h1 := hl.2.2 _ (List.mem_of_getElem? hp)
  have h2 := kk ls H locs hl hR hS
  have e : kw_v G (kw_a x) = kw_vr G x := rfl
  have e2 : (kw_a x :: st).map (kw_v G) = kw_vr G x :: st.map (kw_v G) := rfl
  rw [e2] at h2
  dsimp only at h1
  rw [e] at h1
  unfold kw_vr at h1 h2
  by_cases hz : x = 0
  · rw [if_pos hz] at h1 h2
    exact lv_aloadN hx hb hd h1 h2
  · rw [if_neg hz] at h1 h2
    exact lv_aload hx hb hd h1 h2
/-- the list of locals behind a store -/
def kw_set (L : List (Nat × kw_A)) (j : Nat) (x : kw_A) : List (Nat × kw_A) := (j, x) :: L.filter (fun q => !(q.1 == j) && !(q.1 + 1 == j && kw_cat q.2 == 2))
def kw_set2 (L : List (Nat × kw_A)) (j : Nat) (x : kw_A) : List (Nat × kw_A) := (j, x) :: L.filter (fun q => !(q.1 == j) && (!(q.1 == j + 1) && !(q.1 + 1 == j && kw_cat q.2 == 2)))
theorem kw_loc_lv {G : kw_G} {ls : Array Slot} {nL : Nat} {L : List (Nat × kw_A)} : kw_loc G ls nL L ↔ lv_has ls nL (L.map (fun q => (q.1, kw_v G q.2))) := by
  constructor
  · intro h
    refine ⟨h.1, h.2.1, fun q hq => ?_⟩
    obtain ⟨q0, h0, rfl⟩ := List.mem_map.mp hq
    exact h.2.2 q0 h0
  · intro h
    exact ⟨h.1, h.2.1, fun q hq => h.2.2 _ (List.mem_map.mpr ⟨q, hq, rfl⟩)⟩
theorem kw_fl {G : kw_G} {L : List (Nat × kw_A)} {j : Nat} {x : kw_A} : (j, kw_v G x) :: (L.map (fun q => (q.1, kw_v G q.2))).filter (fun q => !(q.1 == j) && !(q.1 + 1 == j && q.2.category == 2)) = (kw_set L j x).map (fun q => (q.1, kw_v G q.2)) := by
  unfold kw_set
  rw [List.map_cons, List.filter_map]
  congr 2
  apply List.filter_congr
  intro q _
  simp only [Function.comp, kw_v_cat]
theorem kw_fl2 {G : kw_G} {L : List (Nat × kw_A)} {j : Nat} {x : kw_A} : (j, kw_v G x) :: (L.map (fun q => (q.1, kw_v G q.2))).filter (fun q => !(q.1 == j) && (!(q.1 == j + 1) && !(q.1 + 1 == j && q.2.category == 2))) = (kw_set2 L j x).map (fun q => (q.1, kw_v G q.2)) := by
  unfold kw_set2
  rw [List.map_cons, List.filter_map]
  congr 2
  apply List.filter_congr
  intro q _
  simp only [Function.comp, kw_v_cat]
theorem kk_istore_n (hE : kw_ok E G cc nL own) {j : Nat} {x : Int32} {L' : List (Nat × kw_A)} {k : Fin 4} (hd : decode cc pc = .ok (.istore_n k, 1)) (hi : (k : Nat) = j) (hn : j < nL) (hL : kw_set L j (kw_i x) = L') (kk : kw_K E G nL cs sl Q (pc + 1) L' st T n r i w) : kw_K E G nL cs sl Q pc L (kw_i x :: st) T n r i w := by
  obtain ⟨hx, hb, hml, hown, hts, hK⟩ := hE
  subst hL
  intro ls H locs hl hR hS
  exact lv_istore_n hx hb hd hi (kw_loc_lv.mp hl) hn (kw_fl (x := kw_i x)) (fun ls' hl' => kk ls' H locs (kw_loc_lv.mpr hl') hR hS)
theorem kk_istore (hE : kw_ok E G cc nL own) {j : Nat} {x : Int32} {L' : List (Nat × kw_A)}  (hd : decode cc pc = .ok (.istore j, 2))  (hn : j < nL) (hL : kw_set L j (kw_i x) = L') (kk : kw_K E G nL cs sl Q (pc + 2) L' st T n r i w) : kw_K E G nL cs sl Q pc L (kw_i x :: st) T n r i w := by
  obtain ⟨hx, hb, hml, hown, hts, hK⟩ := hE
  subst hL
  intro ls H locs hl hR hS
  exact lv_istore hx hb hd (kw_loc_lv.mp hl) hn (kw_fl (x := kw_i x)) (fun ls' hl' => kk ls' H locs (kw_loc_lv.mpr hl') hR hS)
theorem kk_lstore_n (hE : kw_ok E G cc nL own) {j : Nat} {x : Int64} {L' : List (Nat × kw_A)} {k : Fin 4} (hd : decode cc pc = .ok (.lstore_n k, 1)) (hi : (k : Nat) = j) (hn : j + 1 < nL) (hL : kw_set2 L j (kw_l x) = L') (kk : kw_K E G nL cs sl Q (pc + 1) L' st T n r i w) : kw_K E G nL cs sl Q pc L (kw_l x :: st) T n r i w := by
  obtain ⟨hx, hb, hml, hown, hts, hK⟩ := hE
  subst hL
  intro ls H locs hl hR hS
  exact lv_lstore_n hx hb hd hi (kw_loc_lv.mp hl) hn (kw_fl2 (x := kw_l x)) (fun ls' hl' => kk ls' H locs (kw_loc_lv.mpr hl') hR hS)
theorem kk_lstore (hE : kw_ok E G cc nL own) {j : Nat} {x : Int64} {L' : List (Nat × kw_A)}  (hd : decode cc pc = .ok (.lstore j, 2))  (hn : j + 1 < nL) (hL : kw_set2 L j (kw_l x) = L') (kk : kw_K E G nL cs sl Q (pc + 2) L' st T n r i w) : kw_K E G nL cs sl Q pc L (kw_l x :: st) T n r i w := by
  obtain ⟨hx, hb, hml, hown, hts, hK⟩ := hE
  subst hL
  intro ls H locs hl hR hS
  exact lv_lstore hx hb hd (kw_loc_lv.mp hl) hn (kw_fl2 (x := kw_l x)) (fun ls' hl' => kk ls' H locs (kw_loc_lv.mpr hl') hR hS)
theorem kk_astore_n (hE : kw_ok E G cc nL own) {j x : Nat} {L' : List (Nat × kw_A)} {k : Fin 4} (hd : decode cc pc = .ok (.astore_n k, 1)) (hi : (k : Nat) = j) (hn : j < nL) (hL : kw_set L j (kw_a x) = L') (kk : kw_K E G nL cs sl Q (pc + 1) L' st T n r i w) : kw_K E G nL cs sl Q pc L (kw_a x :: st) T n r i w := by
  obtain ⟨hx, hb, hml, hown, hts, hK⟩ := hE
  subst hL
  intro ls H locs hl hR hS
  have hfl := kw_fl (G := G) (L := L) (j := j) (x := kw_a x)
  have e : kw_v G (kw_a x) = kw_vr G x := rfl
  have e2 : (kw_a x :: st).map (kw_v G) = kw_vr G x :: st.map (kw_v G) := rfl
  rw [e2]
  rw [e] at hfl
  unfold kw_vr at hfl ⊢
  by_cases hz : x = 0
  · rw [if_pos hz] at hfl ⊢
    exact lv_astore_nN hx hb hd hi (kw_loc_lv.mp hl) hn hfl (fun ls' hl' => kk ls' H locs (kw_loc_lv.mpr hl') hR hS)
  · rw [if_neg hz] at hfl ⊢
    exact lv_astore_n hx hb hd hi (kw_loc_lv.mp hl) hn hfl (fun ls' hl' => kk ls' H locs (kw_loc_lv.mpr hl') hR hS)
theorem kk_astore (hE : kw_ok E G cc nL own) {j x : Nat} {L' : List (Nat × kw_A)}  (hd : decode cc pc = .ok (.astore j, 2))  (hn : j < nL) (hL : kw_set L j (kw_a x) = L') (kk : kw_K E G nL cs sl Q (pc + 2) L' st T n r i w) : kw_K E G nL cs sl Q pc L (kw_a x :: st) T n r i w := by
  obtain ⟨hx, hb, hml, hown, hts, hK⟩ := hE
  subst hL
  intro ls H locs hl hR hS
  have hfl := kw_fl (G := G) (L := L) (j := j) (x := kw_a x)
  have e : kw_v G (kw_a x) = kw_vr G x := rfl
  have e2 : (kw_a x :: st).map (kw_v G) = kw_vr G x :: st.map (kw_v G) := rfl
  rw [e2]
  rw [e] at hfl
  unfold kw_vr at hfl ⊢
  by_cases hz : x = 0
  · rw [if_pos hz] at hfl ⊢
    exact lv_astoreN hx hb hd (kw_loc_lv.mp hl) hn hfl (fun ls' hl' => kk ls' H locs (kw_loc_lv.mpr hl') hR hS)
  · rw [if_neg hz] at hfl ⊢
    exact lv_astore hx hb hd (kw_loc_lv.mp hl) hn hfl (fun ls' hl' => kk ls' H locs (kw_loc_lv.mpr hl') hR hS)
theorem kk_iinc (hE : kw_ok E G cc nL own) {j : Nat} {m : Int} {x v : Int32} {L' : List (Nat × kw_A)} (p0 : Nat) (hd : decode cc pc = .ok (.iinc j m, 3)) (hp : L[p0]? = some (j, kw_i x)) (hv : x + Int32.ofInt m = v) (hn : j < nL) (hL : kw_set L j (kw_i v) = L') (kk : kw_K E G nL cs sl Q (pc + 3) L' st T n r i w) : kw_K E G nL cs sl Q pc L st T n r i w := by
  obtain ⟨hx, hb, hml, hown, hts, hK⟩ := hE
  subst hL
  intro ls H locs hl hR hS
  exact lv_iinc (k := p0) (v := v) hx hb hd (kw_loc_lv.mp hl) (by rw [List.getElem?_map, hp]; rfl) hv hn (kw_fl (x := kw_i v)) (fun ls' hl' => kk ls' H locs (kw_loc_lv.mpr hl') hR hS)
theorem kk_iadd (hE : kw_ok E G cc nL own) {x y : Int32} (hd : decode cc pc = .ok (.iadd, 1)) (kk : kw_K E G nL cs sl Q (pc + 1) L (kw_i (x + y) :: st) T n r i w) : kw_K E G nL cs sl Q pc L (kw_i y :: kw_i x :: st) T n r i w := by
  obtain ⟨hx, hb, hml, hown, hts, hK⟩ := hE
  intro ls H locs hl hR hS
  exact lv_iadd hx hb hd (kk ls H locs hl hR hS)
theorem kk_isub (hE : kw_ok E G cc nL own) {x y : Int32} (hd : decode cc pc = .ok (.isub, 1)) (kk : kw_K E G nL cs sl Q (pc + 1) L (kw_i (x - y) :: st) T n r i w) : kw_K E G nL cs sl Q pc L (kw_i y :: kw_i x :: st) T n r i w := by
  obtain ⟨hx, hb, hml, hown, hts, hK⟩ := hE
  intro ls H locs hl hR hS
  exact lv_isub hx hb hd (kk ls H locs hl hR hS)
theorem kk_imul (hE : kw_ok E G cc nL own) {x y : Int32} (hd : decode cc pc = .ok (.imul, 1)) (kk : kw_K E G nL cs sl Q (pc + 1) L (kw_i (x * y) :: st) T n r i w) : kw_K E G nL cs sl Q pc L (kw_i y :: kw_i x :: st) T n r i w := by
  obtain ⟨hx, hb, hml, hown, hts, hK⟩ := hE
  intro ls H locs hl hR hS
  exact lv_imul hx hb hd (kk ls H locs hl hR hS)
theorem kk_iand (hE : kw_ok E G cc nL own) {x y : Int32} (hd : decode cc pc = .ok (.iand, 1)) (kk : kw_K E G nL cs sl Q (pc + 1) L (kw_i (x &&& y) :: st) T n r i w) : kw_K E G nL cs sl Q pc L (kw_i y :: kw_i x :: st) T n r i w := by
  obtain ⟨hx, hb, hml, hown, hts, hK⟩ := hE
  intro ls H locs hl hR hS
  exact lv_iand hx hb hd (kk ls H locs hl hR hS)
theorem kk_ior (hE : kw_ok E G cc nL own) {x y : Int32} (hd : decode cc pc = .ok (.ior, 1)) (kk : kw_K E G nL cs sl Q (pc + 1) L (kw_i (x ||| y) :: st) T n r i w) : kw_K E G nL cs sl Q pc L (kw_i y :: kw_i x :: st) T n r i w := by
  obtain ⟨hx, hb, hml, hown, hts, hK⟩ := hE
  intro ls H locs hl hR hS
  exact lv_ior hx hb hd (kk ls H locs hl hR hS)
theorem kk_ixor (hE : kw_ok E G cc nL own) {x y : Int32} (hd : decode cc pc = .ok (.ixor, 1)) (kk : kw_K E G nL cs sl Q (pc + 1) L (kw_i (x ^^^ y) :: st) T n r i w) : kw_K E G nL cs sl Q pc L (kw_i y :: kw_i x :: st) T n r i w := by
  obtain ⟨hx, hb, hml, hown, hts, hK⟩ := hE
  intro ls H locs hl hR hS
  exact lv_ixor hx hb hd (kk ls H locs hl hR hS)
theorem kk_ishl (hE : kw_ok E G cc nL own) {x y : Int32} (hd : decode cc pc = .ok (.ishl, 1)) (kk : kw_K E G nL cs sl Q (pc + 1) L (kw_i (x <<< (y &&& 31)) :: st) T n r i w) : kw_K E G nL cs sl Q pc L (kw_i y :: kw_i x :: st) T n r i w := by
  obtain ⟨hx, hb, hml, hown, hts, hK⟩ := hE
  intro ls H locs hl hR hS
  exact lv_ishl hx hb hd (kk ls H locs hl hR hS)
theorem kk_ishr (hE : kw_ok E G cc nL own) {x y : Int32} (hd : decode cc pc = .ok (.ishr, 1)) (kk : kw_K E G nL cs sl Q (pc + 1) L (kw_i (x >>> (y &&& 31)) :: st) T n r i w) : kw_K E G nL cs sl Q pc L (kw_i y :: kw_i x :: st) T n r i w := by
  obtain ⟨hx, hb, hml, hown, hts, hK⟩ := hE
  intro ls H locs hl hR hS
  exact lv_ishr hx hb hd (kk ls H locs hl hR hS)
theorem kk_ladd (hE : kw_ok E G cc nL own) {x y : Int64} (hd : decode cc pc = .ok (.ladd, 1)) (kk : kw_K E G nL cs sl Q (pc + 1) L (kw_l (x + y) :: st) T n r i w) : kw_K E G nL cs sl Q pc L (kw_l y :: kw_l x :: st) T n r i w := by
  obtain ⟨hx, hb, hml, hown, hts, hK⟩ := hE
  intro ls H locs hl hR hS
  exact lv_ladd hx hb hd (kk ls H locs hl hR hS)
theorem kk_lsub (hE : kw_ok E G cc nL own) {x y : Int64} (hd : decode cc pc = .ok (.lsub, 1)) (kk : kw_K E G nL cs sl Q (pc + 1) L (kw_l (x - y) :: st) T n r i w) : kw_K E G nL cs sl Q pc L (kw_l y :: kw_l x :: st) T n r i w := by
  obtain ⟨hx, hb, hml, hown, hts, hK⟩ := hE
  intro ls H locs hl hR hS
  exact lv_lsub hx hb hd (kk ls H locs hl hR hS)
theorem kk_lmul (hE : kw_ok E G cc nL own) {x y : Int64} (hd : decode cc pc = .ok (.lmul, 1)) (kk : kw_K E G nL cs sl Q (pc + 1) L (kw_l (x * y) :: st) T n r i w) : kw_K E G nL cs sl Q pc L (kw_l y :: kw_l x :: st) T n r i w := by
  obtain ⟨hx, hb, hml, hown, hts, hK⟩ := hE
  intro ls H locs hl hR hS
  exact lv_lmul hx hb hd (kk ls H locs hl hR hS)
theorem kk_land (hE : kw_ok E G cc nL own) {x y : Int64} (hd : decode cc pc = .ok (.land, 1)) (kk : kw_K E G nL cs sl Q (pc + 1) L (kw_l (x &&& y) :: st) T n r i w) : kw_K E G nL cs sl Q pc L (kw_l y :: kw_l x :: st) T n r i w := by
  obtain ⟨hx, hb, hml, hown, hts, hK⟩ := hE
  intro ls H locs hl hR hS
  exact lv_land hx hb hd (kk ls H locs hl hR hS)
theorem kk_lor (hE : kw_ok E G cc nL own) {x y : Int64} (hd : decode cc pc = .ok (.lor, 1)) (kk : kw_K E G nL cs sl Q (pc + 1) L (kw_l (x ||| y) :: st) T n r i w) : kw_K E G nL cs sl Q pc L (kw_l y :: kw_l x :: st) T n r i w := by
  obtain ⟨hx, hb, hml, hown, hts, hK⟩ := hE
  intro ls H locs hl hR hS
  exact lv_lor hx hb hd (kk ls H locs hl hR hS)
theorem kk_idiv (hE : kw_ok E G cc nL own) {x y : Int32} (hd : decode cc pc = .ok (.idiv, 1)) (hne : ¬ y = 0) (kk : kw_K E G nL cs sl Q (pc + 1) L (kw_i (x / y) :: st) T n r i w) : kw_K E G nL cs sl Q pc L (kw_i y :: kw_i x :: st) T n r i w := by
  obtain ⟨hx, hb, hml, hown, hts, hK⟩ := hE
  intro ls H locs hl hR hS
  exact lv_idiv hx hb hd hne (kk ls H locs hl hR hS)
theorem kk_irem (hE : kw_ok E G cc nL own) {x y : Int32} (hd : decode cc pc = .ok (.irem, 1)) (hne : ¬ y = 0) (kk : kw_K E G nL cs sl Q (pc + 1) L (kw_i (x - x / y * y) :: st) T n r i w) : kw_K E G nL cs sl Q pc L (kw_i y :: kw_i x :: st) T n r i w := by
  obtain ⟨hx, hb, hml, hown, hts, hK⟩ := hE
  intro ls H locs hl hR hS
  exact lv_irem hx hb hd hne (kk ls H locs hl hR hS)
theorem kk_ldiv (hE : kw_ok E G cc nL own) {x y : Int64} (hd : decode cc pc = .ok (.ldiv, 1)) (hne : ¬ y = 0) (kk : kw_K E G nL cs sl Q (pc + 1) L (kw_l (x / y) :: st) T n r i w) : kw_K E G nL cs sl Q pc L (kw_l y :: kw_l x :: st) T n r i w := by
  obtain ⟨hx, hb, hml, hown, hts, hK⟩ := hE
  intro ls H locs hl hR hS
  exact lv_ldiv hx hb hd hne (kk ls H locs hl hR hS)
theorem kk_lrem (hE : kw_ok E G cc nL own) {x y : Int64} (hd : decode cc pc = .ok (.lrem, 1)) (hne : ¬ y = 0) (kk : kw_K E G nL cs sl Q (pc + 1) L (kw_l (x - x / y * y) :: st) T n r i w) : kw_K E G nL cs sl Q pc L (kw_l y :: kw_l x :: st) T n r i w := by
  obtain ⟨hx, hb, hml, hown, hts, hK⟩ := hE
  intro ls H locs hl hR hS
  exact lv_lrem hx hb hd hne (kk ls H locs hl hR hS)
theorem kk_ineg (hE : kw_ok E G cc nL own) {x : Int32} (hd : decode cc pc = .ok (.ineg, 1)) (kk : kw_K E G nL cs sl Q (pc + 1) L (kw_i (-x) :: st) T n r i w) : kw_K E G nL cs sl Q pc L (kw_i x :: st) T n r i w := by
  obtain ⟨hx, hb, hml, hown, hts, hK⟩ := hE
  intro ls H locs hl hR hS
  exact lv_ineg hx hb hd (kk ls H locs hl hR hS)
theorem kk_iushr (hE : kw_ok E G cc nL own) {x y : Int32} (hd : decode cc pc = .ok (.iushr, 1)) (kk : kw_K E G nL cs sl Q (pc + 1) L (kw_i ((x.toUInt32 >>> (y.toUInt32 &&& Int32.toUInt32 31)).toInt32) :: st) T n r i w) : kw_K E G nL cs sl Q pc L (kw_i y :: kw_i x :: st) T n r i w := by
  obtain ⟨hx, hb, hml, hown, hts, hK⟩ := hE
  intro ls H locs hl hR hS
  exact lv_iushr hx hb hd rfl (kk ls H locs hl hR hS)
theorem kk_lshl (hE : kw_ok E G cc nL own) {x : Int64} {y : Int32} (hd : decode cc pc = .ok (.lshl, 1)) (kk : kw_K E G nL cs sl Q (pc + 1) L (kw_l (x <<< (y.toInt64 &&& 63)) :: st) T n r i w) : kw_K E G nL cs sl Q pc L (kw_i y :: kw_l x :: st) T n r i w := by
  obtain ⟨hx, hb, hml, hown, hts, hK⟩ := hE
  intro ls H locs hl hR hS
  exact lv_lshl hx hb hd rfl (kk ls H locs hl hR hS)
theorem kk_lshr (hE : kw_ok E G cc nL own) {x : Int64} {y : Int32} (hd : decode cc pc = .ok (.lshr, 1)) (kk : kw_K E G nL cs sl Q (pc + 1) L (kw_l (x >>> (y.toInt64 &&& 63)) :: st) T n r i w) : kw_K E G nL cs sl Q pc L (kw_i y :: kw_l x :: st) T n r i w := by
  obtain ⟨hx, hb, hml, hown, hts, hK⟩ := hE
  intro ls H locs hl hR hS
  exact lv_lshr hx hb hd rfl (kk ls H locs hl hR hS)
theorem kk_i2l (hE : kw_ok E G cc nL own) {x : Int32} (hd : decode cc pc = .ok (.i2l, 1)) (kk : kw_K E G nL cs sl Q (pc + 1) L (kw_l x.toInt64 :: st) T n r i w) : kw_K E G nL cs sl Q pc L (kw_i x :: st) T n r i w := by
  obtain ⟨hx, hb, hml, hown, hts, hK⟩ := hE
  intro ls H locs hl hR hS
  exact lv_i2l hx hb hd rfl (kk ls H locs hl hR hS)
theorem kk_l2i (hE : kw_ok E G cc nL own) {x : Int64} (hd : decode cc pc = .ok (.l2i, 1)) (kk : kw_K E G nL cs sl Q (pc + 1) L (kw_i x.toInt32 :: st) T n r i w) : kw_K E G nL cs sl Q pc L (kw_l x :: st) T n r i w := by
  obtain ⟨hx, hb, hml, hown, hts, hK⟩ := hE
  intro ls H locs hl hR hS
  exact lv_l2i hx hb hd rfl (kk ls H locs hl hR hS)
theorem kk_i2b (hE : kw_ok E G cc nL own) {x : Int32} (hd : decode cc pc = .ok (.i2b, 1)) (kk : kw_K E G nL cs sl Q (pc + 1) L (kw_i x.toInt8.toInt32 :: st) T n r i w) : kw_K E G nL cs sl Q pc L (kw_i x :: st) T n r i w := by
  obtain ⟨hx, hb, hml, hown, hts, hK⟩ := hE
  intro ls H locs hl hR hS
  exact lv_i2b hx hb hd rfl (kk ls H locs hl hR hS)
theorem kk_i2c (hE : kw_ok E G cc nL own) {x : Int32} (hd : decode cc pc = .ok (.i2c, 1)) (kk : kw_K E G nL cs sl Q (pc + 1) L (kw_i (x.toUInt32 % 65536).toInt32 :: st) T n r i w) : kw_K E G nL cs sl Q pc L (kw_i x :: st) T n r i w := by
  obtain ⟨hx, hb, hml, hown, hts, hK⟩ := hE
  intro ls H locs hl hR hS
  exact lv_i2c hx hb hd rfl (kk ls H locs hl hR hS)
theorem kk_lcmp (hE : kw_ok E G cc nL own) {x y : Int64} (hd : decode cc pc = .ok (.lcmp, 1)) (kk : kw_K E G nL cs sl Q (pc + 1) L (kw_i (lg_cmp x y) :: st) T n r i w) : kw_K E G nL cs sl Q pc L (kw_l y :: kw_l x :: st) T n r i w := by
  obtain ⟨hx, hb, hml, hown, hts, hK⟩ := hE
  intro ls H locs hl hR hS
  exact W.lcmp hx hb hd (kk ls H locs hl hR hS)
theorem kk_dup (hE : kw_ok E G cc nL own) {x : kw_A} (hd : decode cc pc = .ok (.dup, 1)) (hc : kw_cat x = 1) (kk : kw_K E G nL cs sl Q (pc + 1) L (x :: x :: st) T n r i w) : kw_K E G nL cs sl Q pc L (x :: st) T n r i w := by
  obtain ⟨hx, hb, hml, hown, hts, hK⟩ := hE
  intro ls H locs hl hR hS
  exact lv_dup hx hb hd ((kw_v_cat G x).trans hc) (kk ls H locs hl hR hS)
theorem kk_pop (hE : kw_ok E G cc nL own) {x : kw_A} (hd : decode cc pc = .ok (.pop, 1)) (hc : kw_cat x = 1) (kk : kw_K E G nL cs sl Q (pc + 1) L st T n r i w) : kw_K E G nL cs sl Q pc L (x :: st) T n r i w := by
  obtain ⟨hx, hb, hml, hown, hts, hK⟩ := hE
  intro ls H locs hl hR hS
  exact lv_pop hx hb hd ((kw_v_cat G x).trans hc) (kk ls H locs hl hR hS)
theorem kk_dup2 (hE : kw_ok E G cc nL own) {x y : kw_A} (hd : decode cc pc = .ok (.dup2, 1)) (hc : kw_cat x = 1) (hc2 : kw_cat y = 1) (kk : kw_K E G nL cs sl Q (pc + 1) L (x :: y :: x :: y :: st) T n r i w) : kw_K E G nL cs sl Q pc L (x :: y :: st) T n r i w := by
  obtain ⟨hx, hb, hml, hown, hts, hK⟩ := hE
  intro ls H locs hl hR hS
  exact lv_dup2_11 hx hb hd ((kw_v_cat G x).trans hc) ((kw_v_cat G y).trans hc2) (kk ls H locs hl hR hS)
end KW1
section KW2
variable {E : kw_E} {G : kw_G} {cc : ByteArray} {nL cs sl : Nat} {own : String} {Q : State → Prop} {pc : Nat} {L : List (Nat × kw_A)} {st : List kw_A} {T : kw_T} {n : Nat} {r : kw_R} {i : kw_I} {w : kw_L}
theorem kk_if_eq (hE : kw_ok E G cc nL own) {x : Int32} {off : Int} {tgt : Nat} (hd : decode cc pc = .ok (.ifCond .eq off, 3)) (ht : (pc : Int) + off = (tgt : Int)) (kt : x = 0 → kw_K E G nL cs sl Q tgt L st T n r i w) (kf : ¬ x = 0 → kw_K E G nL cs sl Q (pc + 3) L st T n r i w) : kw_K E G nL cs sl Q pc L (kw_i x :: st) T n r i w := by
  obtain ⟨hx, hb, hml, hown, hts, hK⟩ := hE
  intro ls H locs hl hR hS
  exact lv_if_eq hx hb hd ht (fun z => kt z ls H locs hl hR hS) (fun z => kf z ls H locs hl hR hS)
theorem kk_if_ne (hE : kw_ok E G cc nL own) {x : Int32} {off : Int} {tgt : Nat} (hd : decode cc pc = .ok (.ifCond .ne off, 3)) (ht : (pc : Int) + off = (tgt : Int)) (kt : ¬ x = 0 → kw_K E G nL cs sl Q tgt L st T n r i w) (kf : x = 0 → kw_K E G nL cs sl Q (pc + 3) L st T n r i w) : kw_K E G nL cs sl Q pc L (kw_i x :: st) T n r i w := by
  obtain ⟨hx, hb, hml, hown, hts, hK⟩ := hE
  intro ls H locs hl hR hS
  exact lv_if_ne hx hb hd ht (fun z => kt z ls H locs hl hR hS) (fun z => kf z ls H locs hl hR hS)
theorem kk_if_lt (hE : kw_ok E G cc nL own) {x : Int32} {off : Int} {tgt : Nat} (hd : decode cc pc = .ok (.ifCond .lt off, 3)) (ht : (pc : Int) + off = (tgt : Int)) (kt : x < 0 → kw_K E G nL cs sl Q tgt L st T n r i w) (kf : ¬ x < 0 → kw_K E G nL cs sl Q (pc + 3) L st T n r i w) : kw_K E G nL cs sl Q pc L (kw_i x :: st) T n r i w := by
  obtain ⟨hx, hb, hml, hown, hts, hK⟩ := hE
  intro ls H locs hl hR hS
  exact lv_if_lt hx hb hd ht (fun z => kt z ls H locs hl hR hS) (fun z => kf z ls H locs hl hR hS)
theorem kk_if_ge (hE : kw_ok E G cc nL own) {x : Int32} {off : Int} {tgt : Nat} (hd : decode cc pc = .ok (.ifCond .ge off, 3)) (ht : (pc : Int) + off = (tgt : Int)) (kt : 0 ≤ x → kw_K E G nL cs sl Q tgt L st T n r i w) (kf : ¬ 0 ≤ x → kw_K E G nL cs sl Q (pc + 3) L st T n r i w) : kw_K E G nL cs sl Q pc L (kw_i x :: st) T n r i w := by
  obtain ⟨hx, hb, hml, hown, hts, hK⟩ := hE
  intro ls H locs hl hR hS
  exact lv_if_ge hx hb hd ht (fun z => kt z ls H locs hl hR hS) (fun z => kf z ls H locs hl hR hS)
theorem kk_if_gt (hE : kw_ok E G cc nL own) {x : Int32} {off : Int} {tgt : Nat} (hd : decode cc pc = .ok (.ifCond .gt off, 3)) (ht : (pc : Int) + off = (tgt : Int)) (kt : 0 < x → kw_K E G nL cs sl Q tgt L st T n r i w) (kf : ¬ 0 < x → kw_K E G nL cs sl Q (pc + 3) L st T n r i w) : kw_K E G nL cs sl Q pc L (kw_i x :: st) T n r i w := by
  obtain ⟨hx, hb, hml, hown, hts, hK⟩ := hE
  intro ls H locs hl hR hS
  exact lv_if_gt hx hb hd ht (fun z => kt z ls H locs hl hR hS) (fun z => kf z ls H locs hl hR hS)
theorem kk_if_le (hE : kw_ok E G cc nL own) {x : Int32} {off : Int} {tgt : Nat} (hd : decode cc pc = .ok (.ifCond .le off, 3)) (ht : (pc : Int) + off = (tgt : Int)) (kt : x ≤ 0 → kw_K E G nL cs sl Q tgt L st T n r i w) (kf : ¬ x ≤ 0 → kw_K E G nL cs sl Q (pc + 3) L st T n r i w) : kw_K E G nL cs sl Q pc L (kw_i x :: st) T n r i w := by
  obtain ⟨hx, hb, hml, hown, hts, hK⟩ := hE
  intro ls H locs hl hR hS
  exact lv_if_le hx hb hd ht (fun z => kt z ls H locs hl hR hS) (fun z => kf z ls H locs hl hR hS)
theorem kk_icmp_eq (hE : kw_ok E G cc nL own) {x y : Int32} {off : Int} {tgt : Nat} (hd : decode cc pc = .ok (.if_icmp .eq off, 3)) (ht : (pc : Int) + off = (tgt : Int)) (kt : x = y → kw_K E G nL cs sl Q tgt L st T n r i w) (kf : ¬ x = y → kw_K E G nL cs sl Q (pc + 3) L st T n r i w) : kw_K E G nL cs sl Q pc L (kw_i y :: kw_i x :: st) T n r i w := by
  obtain ⟨hx, hb, hml, hown, hts, hK⟩ := hE
  intro ls H locs hl hR hS
  exact lv_icmp_eq hx hb hd ht (fun z => kt z ls H locs hl hR hS) (fun z => kf z ls H locs hl hR hS)
theorem kk_icmp_ne (hE : kw_ok E G cc nL own) {x y : Int32} {off : Int} {tgt : Nat} (hd : decode cc pc = .ok (.if_icmp .ne off, 3)) (ht : (pc : Int) + off = (tgt : Int)) (kt : ¬ x = y → kw_K E G nL cs sl Q tgt L st T n r i w) (kf : x = y → kw_K E G nL cs sl Q (pc + 3) L st T n r i w) : kw_K E G nL cs sl Q pc L (kw_i y :: kw_i x :: st) T n r i w := by
  obtain ⟨hx, hb, hml, hown, hts, hK⟩ := hE
  intro ls H locs hl hR hS
  exact lv_icmp_ne hx hb hd ht (fun z => kt z ls H locs hl hR hS) (fun z => kf z ls H locs hl hR hS)
theorem kk_icmp_lt (hE : kw_ok E G cc nL own) {x y : Int32} {off : Int} {tgt : Nat} (hd : decode cc pc = .ok (.if_icmp .lt off, 3)) (ht : (pc : Int) + off = (tgt : Int)) (kt : x < y → kw_K E G nL cs sl Q tgt L st T n r i w) (kf : ¬ x < y → kw_K E G nL cs sl Q (pc + 3) L st T n r i w) : kw_K E G nL cs sl Q pc L (kw_i y :: kw_i x :: st) T n r i w := by
  obtain ⟨hx, hb, hml, hown, hts, hK⟩ := hE
  intro ls H locs hl hR hS
  exact lv_icmp_lt hx hb hd ht (fun z => kt z ls H locs hl hR hS) (fun z => kf z ls H locs hl hR hS)
theorem kk_icmp_ge (hE : kw_ok E G cc nL own) {x y : Int32} {off : Int} {tgt : Nat} (hd : decode cc pc = .ok (.if_icmp .ge off, 3)) (ht : (pc : Int) + off = (tgt : Int)) (kt : y ≤ x → kw_K E G nL cs sl Q tgt L st T n r i w) (kf : ¬ y ≤ x → kw_K E G nL cs sl Q (pc + 3) L st T n r i w) : kw_K E G nL cs sl Q pc L (kw_i y :: kw_i x :: st) T n r i w := by
  obtain ⟨hx, hb, hml, hown, hts, hK⟩ := hE
  intro ls H locs hl hR hS
  exact lv_icmp_ge hx hb hd ht (fun z => kt z ls H locs hl hR hS) (fun z => kf z ls H locs hl hR hS)
theorem kk_icmp_gt (hE : kw_ok E G cc nL own) {x y : Int32} {off : Int} {tgt : Nat} (hd : decode cc pc = .ok (.if_icmp .gt off, 3)) (ht : (pc : Int) + off = (tgt : Int)) (kt : y < x → kw_K E G nL cs sl Q tgt L st T n r i w) (kf : ¬ y < x → kw_K E G nL cs sl Q (pc + 3) L st T n r i w) : kw_K E G nL cs sl Q pc L (kw_i y :: kw_i x :: st) T n r i w := by
  obtain ⟨hx, hb, hml, hown, hts, hK⟩ := hE
  intro ls H locs hl hR hS
  exact lv_icmp_gt hx hb hd ht (fun z => kt z ls H locs hl hR hS) (fun z => kf z ls H locs hl hR hS)
theorem kk_icmp_le (hE : kw_ok E G cc nL own) {x y : Int32} {off : Int} {tgt : Nat} (hd : decode cc pc = .ok (.if_icmp .le off, 3)) (ht : (pc : Int) + off = (tgt : Int)) (kt : x ≤ y → kw_K E G nL cs sl Q tgt L st T n r i w) (kf : ¬ x ≤ y → kw_K E G nL cs sl Q (pc + 3) L st T n r i w) : kw_K E G nL cs sl Q pc L (kw_i y :: kw_i x :: st) T n r i w := by
  obtain ⟨hx, hb, hml, hown, hts, hK⟩ := hE
  intro ls H locs hl hR hS
  exact lv_icmp_le hx hb hd ht (fun z => kt z ls H locs hl hR hS) (fun z => kf z ls H locs hl hR hS)
theorem kk_goto (hE : kw_ok E G cc nL own) {off : Int} {tgt : Nat} (hd : decode cc pc = .ok (.goto off, 3)) (ht : (pc : Int) + off = (tgt : Int)) (kk : kw_K E G nL cs sl Q tgt L st T n r i w) : kw_K E G nL cs sl Q pc L st T n r i w := by
  obtain ⟨hx, hb, hml, hown, hts, hK⟩ := hE
  intro ls H locs hl hR hS
  exact lv_goto hx hb hd ht (kk ls H locs hl hR hS)
theorem kk_ifnull (hE : kw_ok E G cc nL own) {x : Nat} {off : Int} {tgt : Nat} (hd : decode cc pc = .ok (.ifnull off, 3)) (ht : (pc : Int) + off = (tgt : Int)) (kt : x = 0 → kw_K E G nL cs sl Q tgt L st T n r i w) (kf : ¬ x = 0 → kw_K E G nL cs sl Q (pc + 3) L st T n r i w) : kw_K E G nL cs sl Q pc L (kw_a x :: st) T n r i w := by
  obtain ⟨hx, hb, hml, hown, hts, hK⟩ := hE
  intro ls H locs hl hR hS
  have e2 : (kw_a x :: st).map (kw_v G) = kw_vr G x :: st.map (kw_v G) := rfl
  rw [e2]
  unfold kw_vr
  by_cases hz : x = 0
  · rw [if_pos hz]
    exact lv_ifnullN hx hb hd ht (kt hz ls H locs hl hR hS)
  · rw [if_neg hz]
    exact lv_ifnull hx hb hd (kf hz ls H locs hl hR hS)
theorem kk_ifnonnull (hE : kw_ok E G cc nL own) {x : Nat} {off : Int} {tgt : Nat} (hd : decode cc pc = .ok (.ifnonnull off, 3)) (ht : (pc : Int) + off = (tgt : Int)) (kt : x = 0 → kw_K E G nL cs sl Q (pc + 3) L st T n r i w) (kf : ¬ x = 0 → kw_K E G nL cs sl Q tgt L st T n r i w) : kw_K E G nL cs sl Q pc L (kw_a x :: st) T n r i w := by
  obtain ⟨hx, hb, hml, hown, hts, hK⟩ := hE
  intro ls H locs hl hR hS
  have e2 : (kw_a x :: st).map (kw_v G) = kw_vr G x :: st.map (kw_v G) := rfl
  rw [e2]
  unfold kw_vr
  by_cases hz : x = 0
  · rw [if_pos hz]
    exact lv_ifnonnullN hx hb hd (kt hz ls H locs hl hR hS)
  · rw [if_neg hz]
    exact lv_ifnonnull hx hb hd ht (kf hz ls H locs hl hR hS)
/-- fewer locals -/
theorem kk_loc {L' : List (Nat × kw_A)} (ks : List Nat) (hL : ks.map (fun k => L[k]?) = L'.map some) (kk : kw_K E G nL cs sl Q pc L' st T n r i w) : kw_K E G nL cs sl Q pc L st T n r i w := by
  intro ls H locs hl hR hS
  refine kk ls H locs ⟨hl.1, hl.2.1, fun q hq => ?_⟩ hR hS
  have h1 : some q ∈ L'.map some := List.mem_map.mpr ⟨q, hq, rfl⟩
  rw [← hL] at h1
  obtain ⟨k, -, hk⟩ := List.mem_map.mp h1
  exact hl.2.2 q (List.mem_of_getElem? hk)
theorem kk_widen {cs' sl' : Nat} (h1 : cs ≤ cs') (h2 : sl ≤ sl') (kk : kw_K E G nL cs' sl' Q pc L st T n r i w) : kw_K E G nL cs sl Q pc L st T n r i w := fun ls H locs hl hR hS => W.widen h1 h2 (kk ls H locs hl hR hS)
end KW2
section KW3
variable {E : kw_E} {G : kw_G} {cc : ByteArray} {nL cs sl : Nat} {own : String} {Q : State → Prop} {pc : Nat} {L : List (Nat × kw_A)} {st : List kw_A} {T : kw_T} {n : Nat} {r : kw_R} {i : kw_I} {w : kw_L} {a k ci : Nat} {H H1 : Heap} {locs : List Loc} {H0 : Heap}
theorem kw_vr_ref (h0 : a ≠ 0) (h : a < kw_SB) : kw_vr G a = .ref (G.1 + a) := by
  unfold kw_vr kw_ad
  rw [if_neg h0, if_pos h]
theorem kw_st_same {α : Type} {f : Nat → Nat → α} {x : α} : kw_st f a k x a k = x := by simp [kw_st]
theorem kw_st_row {α : Type} {f : Nat → Nat → α} {x : α} {j : Nat} : kw_st f a k x a j = if j = k then x else f a j := by simp [kw_st]
theorem kw_st_off {α : Type} {f : Nat → Nat → α} {x : α} {b j : Nat} (h : b ≠ a) : kw_st f a k x b j = f b j := by simp [kw_st, h]
theorem kw_st_offF {α : Type} {f : Nat → Nat → α} {x : α} {b : Nat} (h : b ≠ a) : kw_st f a k x b = f b := by funext j; simp [kw_st, h]
theorem kw_Rep.in (hR : kw_Rep G T n r i w H) {t m : Nat} (ha : T a = (t, m)) (ht : t < 8) : a ≠ 0 ∧ a < kw_SB ∧ kw_cell G T r i w a H := by
  have h8 : (T a).1 < 8 := by rw [ha]; exact ht
  obtain ⟨h0, hn⟩ := hR.2.2.1 a h8
  exact ⟨by omega, Nat.lt_of_lt_of_le hn hR.2.1, hR.2.2.2 a h8⟩
theorem kw_Rep.obj (hR : kw_Rep G T n r i w H) (ha : T a = (0, ci)) : kw_vr G a = .ref (G.1 + a) ∧ ∃ q : vw_C, kw_cl[ci]? = some q ∧ t_OB (G.1 + a) (G.2.1.1 ci) q.2.2 (G.2.1.2 ci) H (fun k => kw_fv G (kw_ft ci k) (r a k) (i a k)) := by
  obtain ⟨h0, hn, hc⟩ := hR.in ha (by decide)
  unfold kw_cell at hc
  rw [ha, if_pos rfl] at hc
  exact ⟨kw_vr_ref h0 hn, hc⟩
theorem kw_Rep.int (hR : kw_Rep G T n r i w H) {t m : Nat} (ha : T a = (t, m)) (h0 : t ≠ 0) (h4 : t < 4) : kw_vr G a = .ref (G.1 + a) ∧ H[G.1 + a]? = some (arrV (G.2.2.1 t) m (fun j => .int (i a j))) := by
  obtain ⟨h1, hn, hc⟩ := hR.in ha (by omega)
  unfold kw_cell at hc
  rw [ha, if_neg h0, if_pos h4] at hc
  exact ⟨kw_vr_ref h1 hn, hc⟩
theorem kw_Rep.lon (hR : kw_Rep G T n r i w H) {m : Nat} (ha : T a = (4, m)) : kw_vr G a = .ref (G.1 + a) ∧ H[G.1 + a]? = some (arrV (G.2.2.1 4) m (fun j => .long (w a j))) := by
  obtain ⟨h1, hn, hc⟩ := hR.in ha (by omega)
  unfold kw_cell at hc
  rw [ha, if_neg (by dsimp only; decide), if_neg (by dsimp only; decide), if_pos rfl] at hc
  exact ⟨kw_vr_ref h1 hn, hc⟩
theorem kw_Rep.ref (hR : kw_Rep G T n r i w H) {t m : Nat} (ha : T a = (t, m)) (h4 : 4 < t) (h8 : t < 8) : kw_vr G a = .ref (G.1 + a) ∧ H[G.1 + a]? = some (arrV (G.2.2.1 t) m (fun j => kw_vr G (r a j))) := by
  obtain ⟨h1, hn, hc⟩ := hR.in ha h8
  unfold kw_cell at hc
  rw [ha, if_neg (by dsimp only; omega), if_neg (by dsimp only; omega), if_neg (by dsimp only; omega)] at hc
  exact ⟨kw_vr_ref h1 hn, hc⟩
/-- a cell stays where its place stays and its numbers stay -/
theorem kw_cell_kept {r' : kw_R} {i' : kw_I} {w' : kw_L} {b : Nat} (h : kw_cell G T r i w b H) (hq : H1[G.1 + b]? = H[G.1 + b]?) (hr : r' b = r b) (hi : i' b = i b) (hw : w' b = w b) : kw_cell G T r' i' w' b H1 := by
  unfold kw_cell at h ⊢
  rw [hr, hi, hw]
  split at h
  · rename_i h0
    rw [if_pos h0]
    obtain ⟨q, h1, h2⟩ := h
    exact ⟨q, h1, h2.kept hq⟩
  · rename_i h0
    rw [if_neg h0]
    split at h
    · rename_i h1
      rw [if_pos h1, hq]
      exact h
    · rename_i h1
      rw [if_neg h1]
      split at h
      · rename_i h2
        rw [if_pos h2, hq]
        exact h
      · rename_i h2
        rw [if_neg h2, hq]
        exact h
/-- a memory with one cell changed -/
theorem kw_Rep.put (hR : kw_Rep G T n r i w H) {r' : kw_R} {i' : kw_I} {w' : kw_L} (hz : H1.size = H.size) (oq : ∀ q, q ≠ G.1 + a → H1[q]? = H[q]?) (hr : ∀ b, b ≠ a → r' b = r b) (hi : ∀ b, b ≠ a → i' b = i b) (hw : ∀ b, b ≠ a → w' b = w b) (hc : kw_cell G T r' i' w' a H1) : kw_Rep G T n r' i' w' H1 := by
  refine ⟨hz.trans hR.1, hR.2.1, hR.2.2.1, fun b hb => ?_⟩
  by_cases e : b = a
  · subst e
    exact hc
  · exact kw_cell_kept (hR.2.2.2 b hb) (oq _ (by omega)) (hr b e) (hi b e) (hw b e)
theorem kw_S.put (hS : va_S (fun q : Nat => G.1 < q) H0 H locs) (h0 : a ≠ 0) (hz : H1.size = H.size) (oq : ∀ q, q ≠ G.1 + a → H1[q]? = H[q]?) {k : Nat} : va_S (fun q : Nat => G.1 < q) H0 H1 (locs ++ [⟨G.1 + a, k⟩]) := by
  refine ⟨by rw [hz]; exact hS.1, fun q h1 h2 => ?_, fun l hl => ?_⟩
  · rw [oq q (fun e => h2 (by show G.1 < q; omega))]
    exact hS.2.1 q h1 h2
  · rcases List.mem_append.mp hl with h | h
    · exact hS.2.2 l h
    · cases List.mem_singleton.mp h
      show G.1 < G.1 + a
      omega
/-- a field: class, number, whether a reference -/
def kw_F (own : String) (idx ci k : Nat) (isr : Bool) : Prop := ∃ (C : String) (TT : u_T) (N : Nat), kw_cl[ci]? = some (C, TT, N) ∧ (∀ w ∈ u_ws C TT N, w ∈ kw_tb) ∧ k < N ∧ ((Cond.fieldLink own idx (TT k).1 (TT k).2.1 (TT k).2.2.1 ∈ kw_tb) ∨ ∃ host, Cond.fieldLinkNest own idx (TT k).1 (TT k).2.1 (TT k).2.2.1 host ∈ kw_nb) ∧ kw_isR (kw_ft ci k) = isr
theorem kw_get (hE : kw_ok E G cc nL own) {idx : Nat} {isr : Bool} (hF : kw_F own idx ci k isr) (hd : decode cc pc = .ok (.getfield idx, 3)) (ha : T a = (0, ci)) {ls : Array Slot} {rest : List Value} (hR : kw_Rep G T n r i w H)
    (kk : kw_W E H locs cs sl Q (F0 E.2.2.2.2.2.1 (pc + 3) ls (kw_fv G (kw_ft ci k) (r a k) (i a k) :: rest))) : kw_W E H locs cs sl Q (F0 E.2.2.2.2.2.1 pc ls (kw_vr G a :: rest)) := by
  obtain ⟨hx, hb, hml, hown, hts, hK, hN, hX⟩ := hE
  obtain ⟨C, TT, N, hc, hin, hk, hlk, -⟩ := hF
  obtain ⟨e, q, h1, cell, q1, q2, q3, q4⟩ := hR.obj ha
  have hq : q = (C, TT, N) := Option.some.inj (h1.symm.trans hc)
  subst hq
  obtain ⟨hS, hfc, kC, hkC, hkind⟩ := hK.1 ci _ hc
  obtain ⟨cf, kf, fi, f, hi, hsl⟩ := hS k hk
  rw [e]
  rcases hlk with hlk | ⟨host, hlk⟩
  · exact W.getf hx hb hown (hts _ hlk) hi (u_facts hfc hkC (u_lays hts hin hk) hi).1 q1 (by rw [q3]; exact fun h => by cases h) (by rw [hsl]; exact q4 k hk) rfl rfl hd kk
  · exact va_Wgetf hx hb hown (va_Nw.use rfl (hN _ hlk)) hi (u_facts hfc hkC (u_lays hts hin hk) hi).1 q1 (by rw [q3]; exact fun h => by cases h) (by rw [hsl]; exact q4 k hk) rfl rfl hd kk
theorem kk_getI (hE : kw_ok E G cc nL own) {idx : Nat} (hF : kw_F own idx ci k false) (hd : decode cc pc = .ok (.getfield idx, 3)) (ha : T a = (0, ci)) (kk : kw_K E G nL cs sl Q (pc + 3) L (kw_i (i a k) :: st) T n r i w) : kw_K E G nL cs sl Q pc L (kw_a a :: st) T n r i w := by
  intro ls H locs hl hR hS
  refine kw_get hE hF hd ha hR ?_
  obtain ⟨C, TT, N, hc, hin, hk, hlk, hf⟩ := hF
  unfold kw_fv
  rw [hf, if_neg (by decide)]
  exact kk ls H locs hl hR hS
theorem kk_getR (hE : kw_ok E G cc nL own) {idx : Nat} (hF : kw_F own idx ci k true) (hd : decode cc pc = .ok (.getfield idx, 3)) (ha : T a = (0, ci)) (kk : kw_K E G nL cs sl Q (pc + 3) L (kw_a (r a k) :: st) T n r i w) : kw_K E G nL cs sl Q pc L (kw_a a :: st) T n r i w := by
  intro ls H locs hl hR hS
  refine kw_get hE hF hd ha hR ?_
  obtain ⟨C, TT, N, hc, hin, hk, hlk, hf⟩ := hF
  unfold kw_fv
  rw [hf, if_pos rfl]
  exact kk ls H locs hl hR hS
/-- a field that is written -/
def kw_Fp (own : String) (idx ci k : Nat) (ty : FieldType) (fin : Bool) : Prop := ∃ (C : String) (TT : u_T) (N : Nat) (ty0 : Nat → FieldType), kw_cl[ci]? = some (C, TT, N) ∧ (∀ w ∈ u_ws C TT N, w ∈ kw_tb) ∧ k < N ∧ ((Cond.fieldLink own idx (TT k).1 (TT k).2.1 (TT k).2.2.1 ∈ kw_tb) ∨ (fin = false ∧ ∃ host, Cond.fieldLinkNest own idx (TT k).1 (TT k).2.1 (TT k).2.2.1 host ∈ kw_nb)) ∧ kw_ft ci k = ty ∧ (∀ k, k < N → parseFieldDescriptor (TT k).2.2.1 = some (ty0 k)) ∧ (∀ a, a < N → ∀ b, b < N → a ≠ b → (TT a).2.1 ≠ (TT b).2.1) ∧ ty0 k = ty ∧ (TT k).2.2.2 = fin ∧ (fin = true → (TT k).1 = own)
theorem kw_put (hE : kw_ok E G cc nL own) {idx : Nat} {ty : FieldType} {fin : Bool} (hF : kw_Fp own idx ci k ty fin) (hin0 : fin = true → E.2.2.2.2.2.2.2.2.1.name = "<init>") (hd : decode cc pc = .ok (.putfield idx, 3)) (ha : T a = (0, ci)) {ls : Array Slot} {rest : List Value} {v : Value} (hR : kw_Rep G T n r i w H) (hn : narrow ty v = v) (hfit : fits ty v = true)
    (kk : ∀ H1 : Heap, H1.size = H.size → (∀ q, q ≠ G.1 + a → H1[q]? = H[q]?) → (∃ q : vw_C, kw_cl[ci]? = some q ∧ t_OB (G.1 + a) (G.2.1.1 ci) q.2.2 (G.2.1.2 ci) H1 (fun j => if j = k then v else kw_fv G (kw_ft ci j) (r a j) (i a j))) → ∀ kx, kw_W E H1 (locs ++ [⟨G.1 + a, kx⟩]) cs sl Q (F0 E.2.2.2.2.2.1 (pc + 3) ls rest)) : kw_W E H locs cs sl Q (F0 E.2.2.2.2.2.1 pc ls (v :: kw_vr G a :: rest)) := by
  obtain ⟨hx, hb, hml, hown, hts, hK, hN, hX⟩ := hE
  obtain ⟨C, TT, N, ty0, hc, hin, hk, hlk, hft, hty, hnm, hty0, hfin, hdecl⟩ := hF
  have hap := va_apart (own := own) hts hin ty0 hty hnm hK hc
  obtain ⟨e, q, h1, cell, q1, q2, q3, q4⟩ := hR.obj ha
  have hq : q = (C, TT, N) := Option.some.inj (h1.symm.trans hc)
  subst hq
  obtain ⟨hS, hfc, kC, hkC, hkind⟩ := hK.1 ci _ hc
  obtain ⟨cf, kf, fi, f, hi, hsl⟩ := hS k hk
  have hst := (u_facts hfc hkC (u_lays hts hin hk) hi).1
  have hpar : parseFieldDescriptor (TT k).2.2.1 = some ty := by rw [hty k hk, hty0]
  have key : ∀ H1 : Heap, H1[G.1 + a]? = some (cell.setSlot f.slot v) → H1.size = H.size → (∀ q, q ≠ G.1 + a → H1[q]? = H[q]?) → kw_W E H1 (locs ++ [⟨G.1 + a, f.slot⟩]) cs sl Q (F0 E.2.2.2.2.2.1 (pc + 3) ls rest) := by
    intro H1 e1 e2 e3
    refine kk H1 e2 e3 ⟨_, hc, ?_⟩ f.slot
    refine t_OB.to (V := updV (fun k => kw_fv G (kw_ft ci k) (r a k) (i a k)) k v) ⟨_, e1, q2, q3, ?_⟩ (fun j _ => rfl)
    rw [hsl]
    exact t_set q4 hap hk v
  rw [e]
  cases fin with
  | false =>
    have hlay := hts _ (hin _ (u_in_lay hk))
    unfold u_lay at hlay
    rw [if_neg (by rw [hfin]; decide)] at hlay
    have h6 := u_store hfc hkC hkind hlay hi hpar hn hfit
    rcases hlk with hlk | ⟨-, host, hlk⟩
    · exact W.putK hx hb (f := f) ⟨hown, hts _ hlk, ⟨_, _, _, hi⟩, hst⟩ (by rw [q2]; exact h6) q1 q3 (by rw [hsl]; exact k2_hasslot (q4 k hk)) rfl rfl hd key
    · exact va_WputK hx hb hown (va_Nw.use rfl (hN _ hlk)) hi hst (by rw [q2]; exact h6) q1 q3 (by rw [hsl]; exact k2_hasslot (q4 k hk)) rfl rfl hd key
  | true =>
    have h6 := u_fits hfc hkC hkind (u_lays hts hin hk) hi hpar hn hfit
    rcases hlk with hlk | ⟨h, -⟩
    · have hcf : E.2.2.2.2.2.1.cls = cf := by
        have hlay := hts _ (hin _ (u_in_lay hk))
        unfold u_lay at hlay
        rw [if_pos hfin] at hlay
        obtain ⟨_, _, c', _, _, _, -, -, hf', -, -, -, hown2, -⟩ := Cond.laysFinal_spec hlay
        have e1 : c' = cf := by have := hi.symm.trans hf'; simp at this; exact this.1.symm
        rw [hdecl rfl] at hown2
        rw [← e1]; exact Option.some.inj (hown.symm.trans hown2)
      exact W.putFinK hx hb hown (hts _ hlk) hi hst hcf (hin0 rfl) (by rw [q2]; exact h6) q1 q3 (by rw [hsl]; exact k2_hasslot (q4 k hk)) rfl rfl hd key
    · cases h

theorem kk_putI (hE : kw_ok E G cc nL own) {idx : Nat} (hF : kw_Fp own idx ci k .int false) (hd : decode cc pc = .ok (.putfield idx, 3)) (ha : T a = (0, ci)) {x : Int32} (kk : kw_K E G nL cs sl Q (pc + 3) L st T n r (kw_st i a k x) w) : kw_K E G nL cs sl Q pc L (kw_i x :: kw_a a :: st) T n r i w := by
  intro ls H locs hl hR hS
  refine kw_put hE hF (fun h => by cases h) hd ha hR (v := .int x) rfl rfl fun H1 z oq hc kx => ?_
  obtain ⟨-, -, -, -, -, -, -, -, hft, -⟩ := hF
  refine kk ls H1 _ hl (hR.put z oq (fun b _ => rfl) (fun b hb => kw_st_offF hb) (fun b _ => rfl) ?_) (kw_S.put hS (hR.in ha (by decide)).1 z oq)
  unfold kw_cell
  rw [ha, if_pos rfl]
  obtain ⟨q, h1, h2⟩ := hc
  refine ⟨q, h1, h2.to fun j _ => ?_⟩
  dsimp only
  rw [kw_st_row]
  by_cases hj : j = k
  · subst hj
    rw [if_pos rfl, if_pos rfl, hft]
    rfl
  · rw [if_neg hj, if_neg hj]
/-- a truth: 0 or 1 -/
def kw_b (x : Int32) : Prop := x = 0 ∨ x = 1
theorem kk_putZ (hE : kw_ok E G cc nL own) {idx : Nat} (hF : kw_Fp own idx ci k .boolean false) (hd : decode cc pc = .ok (.putfield idx, 3)) (ha : T a = (0, ci)) {x : Int32} (hb : kw_b x) (kk : kw_K E G nL cs sl Q (pc + 3) L st T n r (kw_st i a k x) w) : kw_K E G nL cs sl Q pc L (kw_i x :: kw_a a :: st) T n r i w := by
  intro ls H locs hl hR hS
  refine kw_put hE hF (fun h => by cases h) hd ha hR (v := .int x) (by rcases hb with rfl | rfl <;> rfl) (by rcases hb with rfl | rfl <;> rfl) fun H1 z oq hc kx => ?_
  obtain ⟨-, -, -, -, -, -, -, -, hft, -⟩ := hF
  refine kk ls H1 _ hl (hR.put z oq (fun b _ => rfl) (fun b hb => kw_st_offF hb) (fun b _ => rfl) ?_) (kw_S.put hS (hR.in ha (by decide)).1 z oq)
  unfold kw_cell
  rw [ha, if_pos rfl]
  obtain ⟨q, h1, h2⟩ := hc
  refine ⟨q, h1, h2.to fun j _ => ?_⟩
  dsimp only
  rw [kw_st_row]
  by_cases hj : j = k
  · subst hj
    rw [if_pos rfl, if_pos rfl, hft]
    rfl
  · rw [if_neg hj, if_neg hj]
/-- a field of ints that is final -/
theorem kk_putFI (hE : kw_ok E G cc nL own) {idx : Nat} (hF : kw_Fp own idx ci k .int true) (hin : E.2.2.2.2.2.2.2.2.1.name = "<init>") (hd : decode cc pc = .ok (.putfield idx, 3)) (ha : T a = (0, ci)) {x : Int32} (kk : kw_K E G nL cs sl Q (pc + 3) L st T n r (kw_st i a k x) w) : kw_K E G nL cs sl Q pc L (kw_i x :: kw_a a :: st) T n r i w := by
  intro ls H locs hl hR hS
  refine kw_put hE hF (fun _ => hin) hd ha hR (v := .int x) rfl rfl fun H1 z oq hc kx => ?_
  obtain ⟨-, -, -, -, -, -, -, -, hft, -⟩ := hF
  refine kk ls H1 _ hl (hR.put z oq (fun b _ => rfl) (fun b hb => kw_st_offF hb) (fun b _ => rfl) ?_) (kw_S.put hS (hR.in ha (by decide)).1 z oq)
  unfold kw_cell
  rw [ha, if_pos rfl]
  obtain ⟨q, h1, h2⟩ := hc
  refine ⟨q, h1, h2.to fun j _ => ?_⟩
  dsimp only
  rw [kw_st_row]
  by_cases hj : j = k
  · subst hj
    rw [if_pos rfl, if_pos rfl, hft]
    rfl
  · rw [if_neg hj, if_neg hj]
theorem kw_vr_nf (ty : FieldType) (h : kw_isR ty = true) : narrow ty (kw_vr G k) = kw_vr G k ∧ fits ty (kw_vr G k) = true := by
  unfold kw_vr
  cases ty <;> first | (split <;> exact ⟨rfl, rfl⟩) | cases h
/-- a field that holds a reference -/
theorem kk_putR (hE : kw_ok E G cc nL own) {idx : Nat} {ty : FieldType} {fin : Bool} (hF : kw_Fp own idx ci k ty fin) (hr : kw_isR ty = true) (hin : fin = true → E.2.2.2.2.2.2.2.2.1.name = "<init>") (hd : decode cc pc = .ok (.putfield idx, 3)) (ha : T a = (0, ci)) {x : Nat} (kk : kw_K E G nL cs sl Q (pc + 3) L st T n (kw_st r a k x) i w) : kw_K E G nL cs sl Q pc L (kw_a x :: kw_a a :: st) T n r i w := by
  intro ls H locs hl hR hS
  refine kw_put hE hF hin hd ha hR (v := kw_vr G x) (kw_vr_nf ty hr).1 (kw_vr_nf ty hr).2 fun H1 z oq hc kx => ?_
  obtain ⟨-, -, -, -, -, -, -, -, hft, -⟩ := hF
  refine kk ls H1 _ hl (hR.put z oq (fun b hb => kw_st_offF hb) (fun b _ => rfl) (fun b _ => rfl) ?_) (kw_S.put hS (hR.in ha (by decide)).1 z oq)
  unfold kw_cell
  rw [ha, if_pos rfl]
  obtain ⟨q, h1, h2⟩ := hc
  refine ⟨q, h1, h2.to fun j _ => ?_⟩
  dsimp only
  rw [kw_st_row]
  by_cases hj : j = k
  · subst hj
    rw [if_pos rfl, if_pos rfl, hft]
    unfold kw_fv
    rw [if_pos hr]
  · rw [if_neg hj, if_neg hj]
/-- an index within an array of a kind -/
def kw_in (T : kw_T) (t a : Nat) (x : Int32) : Prop := (T a).1 = t ∧ vp_in x (T a).2
theorem kw_in_T {t : Nat} {x : Int32} (h : kw_in T t a x) : T a = (t, (T a).2) := by rw [← h.1]
theorem kw_arr (hE : kw_ok E G cc nL own) (t : Nat) (h1 : t < 8) {ty : FieldType} (hty : (kw_tys G.2.2.1)[t]? = some (G.2.2.1 t, ty)) (m : Nat) (f : Nat → Value) : E.2.2.2.2.1.isArrayOf (arrV (G.2.2.1 t) m f) ty := (hE.2.2.2.2.2.1.2 t _ hty).1 m f
theorem kk_iaload (hE : kw_ok E G cc nL own) {x : Int32} (hd : decode cc pc = .ok (.iaload, 1)) (ha : kw_in T 1 a x) (kk : kw_K E G nL cs sl Q (pc + 1) L (kw_i (i a x.toNatClampNeg) :: st) T n r i w) : kw_K E G nL cs sl Q pc L (kw_i x :: kw_a a :: st) T n r i w := by
  intro ls H locs hl hR hS
  obtain ⟨e, hc⟩ := hR.int (kw_in_T ha) (by decide) (by decide)
  have hlt : x.toNatClampNeg < (T a).2 := Nat.not_le.mp fun q => ha.2 (Or.inr q)
  show kw_W E H locs cs sl Q (F0 _ pc ls (.int x :: kw_vr G a :: st.map (kw_v G)))
  rw [e]
  exact W.iald (v := .int (i a x.toNatClampNeg)) hE.1 hE.2.1 hc (kw_arr hE 1 (by decide) rfl _ _) (fun q => by cases q) (by rw [arrV_size]; exact ha.2) (by rw [arrV_read _ _ hlt]) rfl rfl hd (kk ls H locs hl hR hS)
theorem kk_baload (hE : kw_ok E G cc nL own) {x : Int32} (hd : decode cc pc = .ok (.baload, 1)) (ha : kw_in T 2 a x) (kk : kw_K E G nL cs sl Q (pc + 1) L (kw_i (i a x.toNatClampNeg) :: st) T n r i w) : kw_K E G nL cs sl Q pc L (kw_i x :: kw_a a :: st) T n r i w := by
  intro ls H locs hl hR hS
  obtain ⟨e, hc⟩ := hR.int (kw_in_T ha) (by decide) (by decide)
  have hlt : x.toNatClampNeg < (T a).2 := Nat.not_le.mp fun q => ha.2 (Or.inr q)
  show kw_W E H locs cs sl Q (F0 _ pc ls (.int x :: kw_vr G a :: st.map (kw_v G)))
  rw [e]
  exact W.bald (v := .int (i a x.toNatClampNeg)) hE.1 hE.2.1 hc (kw_arr hE 2 (by decide) rfl _ _) (fun q => by cases q) (by rw [arrV_size]; exact ha.2) (by rw [arrV_read _ _ hlt]) rfl rfl hd (kk ls H locs hl hR hS)
theorem kk_zaload (hE : kw_ok E G cc nL own) {x : Int32} (hd : decode cc pc = .ok (.baload, 1)) (ha : kw_in T 3 a x) (kk : kw_K E G nL cs sl Q (pc + 1) L (kw_i (i a x.toNatClampNeg) :: st) T n r i w) : kw_K E G nL cs sl Q pc L (kw_i x :: kw_a a :: st) T n r i w := by
  intro ls H locs hl hR hS
  obtain ⟨e, hc⟩ := hR.int (kw_in_T ha) (by decide) (by decide)
  have hlt : x.toNatClampNeg < (T a).2 := Nat.not_le.mp fun q => ha.2 (Or.inr q)
  show kw_W E H locs cs sl Q (F0 _ pc ls (.int x :: kw_vr G a :: st.map (kw_v G)))
  rw [e]
  exact W.zald (v := .int (i a x.toNatClampNeg)) hE.1 hE.2.1 hc (kw_arr hE 3 (by decide) rfl _ _) (fun q => by cases q) (by rw [arrV_size]; exact ha.2) (by rw [arrV_read _ _ hlt]) rfl rfl hd (kk ls H locs hl hR hS)
theorem kk_laload (hE : kw_ok E G cc nL own) {x : Int32} (hd : decode cc pc = .ok (.laload, 1)) (ha : kw_in T 4 a x) (kk : kw_K E G nL cs sl Q (pc + 1) L (kw_l (w a x.toNatClampNeg) :: st) T n r i w) : kw_K E G nL cs sl Q pc L (kw_i x :: kw_a a :: st) T n r i w := by
  intro ls H locs hl hR hS
  obtain ⟨e, hc⟩ := hR.lon (kw_in_T ha)
  have hlt : x.toNatClampNeg < (T a).2 := Nat.not_le.mp fun q => ha.2 (Or.inr q)
  show kw_W E H locs cs sl Q (F0 _ pc ls (.int x :: kw_vr G a :: st.map (kw_v G)))
  rw [e]
  exact W.lald (v := .long (w a x.toNatClampNeg)) hE.1 hE.2.1 hc (kw_arr hE 4 (by decide) rfl _ _) (fun q => by cases q) (by rw [arrV_size]; exact ha.2) (by rw [arrV_read _ _ hlt]) rfl rfl hd (kk ls H locs hl hR hS)
theorem kk_aaload (hE : kw_ok E G cc nL own) (t : Nat) (h4 : 4 < t) (h8 : t < 8) {ty : FieldType} (hty : (kw_tys G.2.2.1)[t]? = some (G.2.2.1 t, ty)) (htr : ty.isReference = true) {x : Int32} (hd : decode cc pc = .ok (.aaload, 1)) (ha : kw_in T t a x) (kk : kw_K E G nL cs sl Q (pc + 1) L (kw_a (r a x.toNatClampNeg) :: st) T n r i w) : kw_K E G nL cs sl Q pc L (kw_i x :: kw_a a :: st) T n r i w := by
  intro ls H locs hl hR hS
  obtain ⟨e, hc⟩ := hR.ref (kw_in_T ha) h4 h8
  have hlt : x.toNatClampNeg < (T a).2 := Nat.not_le.mp fun q => ha.2 (Or.inr q)
  show kw_W E H locs cs sl Q (F0 _ pc ls (.int x :: kw_vr G a :: st.map (kw_v G)))
  rw [e]
  exact W.aald (v := kw_vr G (r a x.toNatClampNeg)) (ty := ty) hE.1 hE.2.1 hc (kw_arr hE t h8 hty _ _) htr (fun q => by cases q) (by rw [arrV_size]; exact ha.2) (by rw [arrV_read _ _ hlt]) rfl rfl hd (kk ls H locs hl hR hS)
theorem kw_upd {α : Type} {f : Nat → Nat → α} {a k : Nat} {x : α} (g : α → Value) : updV (fun j => g (f a j)) k (g x) = fun j => g (kw_st f a k x a j) := by
  funext j
  rw [kw_st_row]
  unfold updV
  by_cases h : j = k
  · rw [if_pos h, if_pos h]
  · rw [if_neg h, if_neg h]
theorem kk_iastore (hE : kw_ok E G cc nL own) {x v : Int32} (hd : decode cc pc = .ok (.iastore, 1)) (ha : kw_in T 1 a x) (kk : kw_K E G nL cs sl Q (pc + 1) L st T n r (kw_st i a x.toNatClampNeg v) w) : kw_K E G nL cs sl Q pc L (kw_i v :: kw_i x :: kw_a a :: st) T n r i w := by
  intro ls H locs hl hR hS
  obtain ⟨e, hc⟩ := hR.int (kw_in_T ha) (by decide) (by decide)
  show kw_W E H locs cs sl Q (F0 _ pc ls (.int v :: .int x :: kw_vr G a :: st.map (kw_v G)))
  rw [e]
  refine W.iast hE.1 hE.2.1 hc (kw_arr hE 1 (by decide) rfl _ _) (fun q => by cases q) (by rw [arrV_size]; exact ha.2) rfl rfl hd fun H1 e1 z oq => ?_
  refine kk ls H1 _ hl (hR.put z oq (fun b _ => rfl) (fun b hb => kw_st_offF hb) (fun b _ => rfl) ?_) (kw_S.put hS (hR.in (kw_in_T ha) (by decide)).1 z oq)
  unfold kw_cell
  rw [if_neg (by rw [ha.1]; decide), if_pos (by rw [ha.1]; decide), e1, arrV_store, kw_upd (f := i) (fun z => Value.int z), ha.1]
theorem kk_lastore (hE : kw_ok E G cc nL own) {x : Int32} {v : Int64} (hd : decode cc pc = .ok (.lastore, 1)) (ha : kw_in T 4 a x) (kk : kw_K E G nL cs sl Q (pc + 1) L st T n r i (kw_st w a x.toNatClampNeg v)) : kw_K E G nL cs sl Q pc L (kw_l v :: kw_i x :: kw_a a :: st) T n r i w := by
  intro ls H locs hl hR hS
  obtain ⟨e, hc⟩ := hR.lon (kw_in_T ha)
  show kw_W E H locs cs sl Q (F0 _ pc ls (.long v :: .int x :: kw_vr G a :: st.map (kw_v G)))
  rw [e]
  refine W.last hE.1 hE.2.1 hc (kw_arr hE 4 (by decide) rfl _ _) (fun q => by cases q) (by rw [arrV_size]; exact ha.2) rfl rfl hd fun H1 e1 z oq => ?_
  refine kk ls H1 _ hl (hR.put z oq (fun b _ => rfl) (fun b _ => rfl) (fun b hb => kw_st_offF hb) ?_) (kw_S.put hS (hR.in (kw_in_T ha) (by decide)).1 z oq)
  unfold kw_cell
  rw [if_neg (by rw [ha.1]; decide), if_neg (by rw [ha.1]; decide), if_pos ha.1, e1, arrV_store, kw_upd (f := w) (fun z => Value.long z), ha.1]
theorem kk_bastore (hE : kw_ok E G cc nL own) {x v : Int32} (hd : decode cc pc = .ok (.bastore, 1)) (ha : kw_in T 2 a x) (kk : kw_K E G nL cs sl Q (pc + 1) L st T n r (kw_st i a x.toNatClampNeg (vp_nar .byte v)) w) : kw_K E G nL cs sl Q pc L (kw_i v :: kw_i x :: kw_a a :: st) T n r i w := by
  intro ls H locs hl hR hS
  obtain ⟨e, hc⟩ := hR.int (kw_in_T ha) (by decide) (by decide)
  show kw_W E H locs cs sl Q (F0 _ pc ls (.int v :: .int x :: kw_vr G a :: st.map (kw_v G)))
  rw [e]
  refine W.bast hE.1 hE.2.1 hc (kw_arr hE 2 (by decide) rfl _ _) (fun q => by cases q) (by rw [arrV_size]; exact ha.2) rfl rfl hd fun H1 e1 z oq => ?_
  refine kk ls H1 _ hl (hR.put z oq (fun b _ => rfl) (fun b hb => kw_st_offF hb) (fun b _ => rfl) ?_) (kw_S.put hS (hR.in (kw_in_T ha) (by decide)).1 z oq)
  unfold kw_cell
  rw [if_neg (by rw [ha.1]; decide), if_pos (by rw [ha.1]; decide), e1, arrV_store, ← kw_upd (f := i) (fun z => Value.int z), ha.1]
  rfl
theorem kk_zastore (hE : kw_ok E G cc nL own) {x v : Int32} (hd : decode cc pc = .ok (.bastore, 1)) (ha : kw_in T 3 a x) (hb : kw_b v) (kk : kw_K E G nL cs sl Q (pc + 1) L st T n r (kw_st i a x.toNatClampNeg v) w) : kw_K E G nL cs sl Q pc L (kw_i v :: kw_i x :: kw_a a :: st) T n r i w := by
  intro ls H locs hl hR hS
  obtain ⟨e, hc⟩ := hR.int (kw_in_T ha) (by decide) (by decide)
  show kw_W E H locs cs sl Q (F0 _ pc ls (.int v :: .int x :: kw_vr G a :: st.map (kw_v G)))
  rw [e]
  refine W.zast hE.1 hE.2.1 hc (kw_arr hE 3 (by decide) rfl _ _) (fun q => by cases q) (by rw [arrV_size]; exact ha.2) rfl rfl hd fun H1 e1 z oq => ?_
  refine kk ls H1 _ hl (hR.put z oq (fun b _ => rfl) (fun b hb => kw_st_offF hb) (fun b _ => rfl) ?_) (kw_S.put hS (hR.in (kw_in_T ha) (by decide)).1 z oq)
  unfold kw_cell
  rw [if_neg (by rw [ha.1]; decide), if_pos (by rw [ha.1]; decide), e1, arrV_store, ← kw_upd (f := i) (fun z => Value.int z), ha.1]
  rcases hb with rfl | rfl <;> rfl
theorem kk_alen (hE : kw_ok E G cc nL own) {ty : FieldType} (t : Nat) (h0 : 0 < t) (h8 : t < 8) (hty : (kw_tys G.2.2.1)[t]? = some (G.2.2.1 t, ty)) (hd : decode cc pc = .ok (.arraylength, 1)) (ha : (T a).1 = t) (kk : kw_K E G nL cs sl Q (pc + 1) L (kw_i (T a).2.toInt32 :: st) T n r i w) : kw_K E G nL cs sl Q pc L (kw_a a :: st) T n r i w := by
  intro ls H locs hl hR hS
  have hT : T a = (t, (T a).2) := by rw [← ha]
  obtain ⟨e, f, hc⟩ : kw_vr G a = .ref (G.1 + a) ∧ ∃ f : Nat → Value, H[G.1 + a]? = some (arrV (G.2.2.1 t) (T a).2 f) := by
    by_cases h4 : t < 4
    · exact ⟨(hR.int hT (by omega) h4).1, _, (hR.int hT (by omega) h4).2⟩
    · by_cases h5 : t = 4
      · subst h5
        exact ⟨(hR.lon hT).1, _, (hR.lon hT).2⟩
      · exact ⟨(hR.ref hT (by omega) h8).1, _, (hR.ref hT (by omega) h8).2⟩
  show kw_W E H locs cs sl Q (F0 _ pc ls (kw_vr G a :: st.map (kw_v G)))
  rw [e]
  exact W.alen hE.1 hE.2.1 hc (kw_arr hE t h8 hty _ _) (by rw [arrV_size]) rfl rfl hd (kk ls H locs hl hR hS)
end KW3
