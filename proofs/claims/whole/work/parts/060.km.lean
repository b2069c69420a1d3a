-- MAKING CELLS, AND WHAT THE LIBRARY DOES
section KW6
variable {E : kw_E} {G : kw_G} {cc : ByteArray} {nL cs sl : Nat} {own : String} {Q : State → Prop} {pc : Nat} {L : List (Nat × kw_A)} {st : List kw_A} {T : kw_T} {n : Nat} {r : kw_R} {i : kw_I} {w : kw_L} {a k ci idx : Nat} {H H1 : Heap} {locs : List Loc}
theorem kk_objInit (hE : kw_ok E G cc nL own) (hd : decode cc pc = .ok (.invokespecial idx, 3)) (hlk : Cond.methodLink own idx Lib.objectInit ∈ kw_tb) (hin : Cond.instanceMethod Lib.objectInit ∈ kw_tb) (hco : Cond.code Lib.objectInit ⟨#[0xb1]⟩ 1 none ∈ kw_tb) (ha : T a = (0, ci)) (hf : 1 ≤ E.2.2.2.1.frames) (hlo : (st.map kw_cat).sum + 12 ≤ E.2.2.2.1.locals) (kk : kw_K E G nL cs sl Q (pc + 3) L st T n r i w) : kw_K E G nL cs sl Q pc L (kw_a a :: st) T n r i w := by
  intro ls H locs hl hR hS
  obtain ⟨e, -⟩ := hR.obj ha
  show kw_W E H locs cs sl Q (F0 _ pc ls (kw_vr G a :: st.map (kw_v G)))
  rw [e]
  refine W.objInit hE.1 hE.2.1 hE.2.2.2.1 (hE.2.2.2.2.1 _ hlk) (hE.2.2.2.2.1 _ hin) (hE.2.2.2.2.1 _ hco) rfl (by rw [hE.2.2.1]; exact hl.1) rfl hd hf ?_ (kk ls H locs hl hR hS)
  show 2 * 0 + _ + 12 ≤ _
  rw [kw_sum]
  omega
theorem kk_mmax (hE : kw_ok E G cc nL own) {x y : Int32} (hd : decode cc pc = .ok (.invokestatic idx, 3)) (hlk : Cond.methodLink own idx Lib.Math.max.name ∈ kw_tb) (hst : Cond.static Lib.Math.max.name ∈ kw_tb) (hini : Cond.initialized "java/lang/Math" ∈ kw_tb) (hco : Cond.code Lib.Math.max.name Lib.Math.max.code 2 (some .int) ∈ kw_tb) (hf : 1 ≤ E.2.2.2.1.frames) (hlo : (st.map kw_cat).sum + 13 ≤ E.2.2.2.1.locals) (hc : cs ≤ E.2.2.2.1.cells) (hs : sl ≤ E.2.2.2.1.slots) (kk : kw_K E G nL cs sl Q (pc + 3) L (kw_i (if x < y then y else x) :: st) T n r i w) : kw_K E G nL cs sl Q pc L (kw_i y :: kw_i x :: st) T n r i w := by
  intro ls H locs hl hR hS
  exact va_mmax hE.1 hE.2.1 (by rw [hE.2.2.1]; exact hl.1.symm) hE.2.2.2.1 (hE.2.2.2.2.1 _ hlk) (hE.2.2.2.2.1 _ hst) (hE.2.2.2.2.1 _ hini) (hE.2.2.2.2.1 _ hco) hf (by rw [kw_sum]; exact hlo) hc hs hd (kk ls H locs hl hR hS)
theorem kk_mmin (hE : kw_ok E G cc nL own) {x y : Int32} (hd : decode cc pc = .ok (.invokestatic idx, 3)) (hlk : Cond.methodLink own idx Lib.Math.min.name ∈ kw_tb) (hst : Cond.static Lib.Math.min.name ∈ kw_tb) (hini : Cond.initialized "java/lang/Math" ∈ kw_tb) (hco : Cond.code Lib.Math.min.name Lib.Math.min.code 2 (some .int) ∈ kw_tb) (hf : 1 ≤ E.2.2.2.1.frames) (hlo : (st.map kw_cat).sum + 13 ≤ E.2.2.2.1.locals) (hc : cs ≤ E.2.2.2.1.cells) (hs : sl ≤ E.2.2.2.1.slots) (kk : kw_K E G nL cs sl Q (pc + 3) L (kw_i (if y < x then y else x) :: st) T n r i w) : kw_K E G nL cs sl Q pc L (kw_i y :: kw_i x :: st) T n r i w := by
  intro ls H locs hl hR hS
  exact va_mmin hE.1 hE.2.1 (by rw [hE.2.2.1]; exact hl.1.symm) hE.2.2.2.1 (hE.2.2.2.2.1 _ hlk) (hE.2.2.2.2.1 _ hst) (hE.2.2.2.2.1 _ hini) (hE.2.2.2.2.1 _ hco) hf (by rw [kw_sum]; exact hlo) hc hs hd (kk ls H locs hl hR hS)
theorem kk_mmaxL (hE : kw_ok E G cc nL own) {x y : Int64} (hd : decode cc pc = .ok (.invokestatic idx, 3)) (hlk : Cond.methodLink own idx Lib.MathLoose.max_long.x ∈ kw_tb) (hst : Cond.static Lib.MathLoose.max_long.x ∈ kw_tb) (hini : Cond.initialized "java/lang/Math" ∈ kw_tb) (hco : Cond.code Lib.MathLoose.max_long.x Lib.MathLoose.max_long.code 4 (some .long) ∈ kw_tb) (hf : 1 ≤ E.2.2.2.1.frames) (hlo : (st.map kw_cat).sum + 15 ≤ E.2.2.2.1.locals) (hc : cs ≤ E.2.2.2.1.cells) (hs : sl ≤ E.2.2.2.1.slots) (kk : kw_K E G nL cs sl Q (pc + 3) L (kw_l (if y < x then x else y) :: st) T n r i w) : kw_K E G nL cs sl Q pc L (kw_l y :: kw_l x :: st) T n r i w := by
  intro ls H locs hl hR hS
  exact va_mmax_long hE.1 hE.2.1 (by rw [hE.2.2.1]; exact hl.1.symm) hE.2.2.2.1 (hE.2.2.2.2.1 _ hlk) (hE.2.2.2.2.1 _ hst) (hE.2.2.2.2.1 _ hini) (hE.2.2.2.2.1 _ hco) hf (by rw [kw_sum]; exact hlo) hc hs hd (kk ls H locs hl hR hS)
theorem kk_mminL (hE : kw_ok E G cc nL own) {x y : Int64} (hd : decode cc pc = .ok (.invokestatic idx, 3)) (hlk : Cond.methodLink own idx Lib.MathLoose.min_long.x ∈ kw_tb) (hst : Cond.static Lib.MathLoose.min_long.x ∈ kw_tb) (hini : Cond.initialized "java/lang/Math" ∈ kw_tb) (hco : Cond.code Lib.MathLoose.min_long.x Lib.MathLoose.min_long.code 4 (some .long) ∈ kw_tb) (hf : 1 ≤ E.2.2.2.1.frames) (hlo : (st.map kw_cat).sum + 15 ≤ E.2.2.2.1.locals) (hc : cs ≤ E.2.2.2.1.cells) (hs : sl ≤ E.2.2.2.1.slots) (kk : kw_K E G nL cs sl Q (pc + 3) L (kw_l (if y < x then y else x) :: st) T n r i w) : kw_K E G nL cs sl Q pc L (kw_l y :: kw_l x :: st) T n r i w := by
  intro ls H locs hl hR hS
  exact va_mmin_long hE.1 hE.2.1 (by rw [hE.2.2.1]; exact hl.1.symm) hE.2.2.2.1 (hE.2.2.2.2.1 _ hlk) (hE.2.2.2.2.1 _ hst) (hE.2.2.2.2.1 _ hini) (hE.2.2.2.2.1 _ hco) hf (by rw [kw_sum]; exact hlo) hc hs hd (kk ls H locs hl hR hS)
/-- a copy of part of an array of ints -/
def kw_cpy (i : kw_I) (a b sp dp m : Nat) : kw_I := fun c => if c = b then va_cpy (i a) (i b) sp dp m else i c
/-- what a copy asks for -/
def kw_cpo (T : kw_T) (a b : Nat) (sp dp m : Int32) : Prop := (T a).1 = 1 ∧ (T b).1 = 1 ∧ ¬ sp < 0 ∧ ¬ dp < 0 ∧ ¬ m < 0 ∧ sp.toNatClampNeg + m.toNatClampNeg ≤ (T a).2 ∧ dp.toNatClampNeg + m.toNatClampNeg ≤ (T b).2
theorem kk_copy (hE : kw_ok E G cc nL own) {b : Nat} {sp dp m : Int32} (hd : decode cc pc = .ok (.invokestatic idx, 3)) (hlk : Cond.methodLink own idx arraycopyName ∈ kw_tb) (hnt : Cond.native arraycopyName ∈ kw_tb) (hst : Cond.static arraycopyName ∈ kw_tb) (hini : Cond.initialized "java/lang/System" ∈ kw_tb) (hf : 1 ≤ E.2.2.2.1.frames) (hlo : (st.map kw_cat).sum + (nativeFrameWords "java/lang/System" "arraycopy" 5 + 11) ≤ E.2.2.2.1.locals) (hc : kw_cpo T a b sp dp m) (kk : kw_K E G nL cs sl Q (pc + 3) L st T n r (kw_cpy i a b sp.toNatClampNeg dp.toNatClampNeg m.toNatClampNeg) w) : kw_K E G nL cs sl Q pc L (kw_i m :: kw_i dp :: kw_a b :: kw_i sp :: kw_a a :: st) T n r i w := by
  intro ls H locs hl hR hS
  obtain ⟨g1, g2, h1, h2, h3, h4, h5⟩ := hc
  have nn : ∀ z : Int32, ¬ z < 0 → z.toInt = (z.toNatClampNeg : Int) := by
    intro z hz
    have hz0 : (0 : Int) ≤ z.toInt := by
      have := Int32.not_lt.mp hz
      simpa using Int32.le_iff_toInt_le.mp this
    show z.toInt = ((z.toInt.toNat : Nat) : Int)
    omega
  have ta : T a = (1, (T a).2) := by rw [← g1]
  have tb : T b = (1, (T b).2) := by rw [← g2]
  obtain ⟨ea, hca⟩ := hR.int ta (by decide) (by decide)
  obtain ⟨eb, hcb⟩ := hR.int tb (by decide) (by decide)
  show kw_W E H locs cs sl Q (F0 _ pc ls (.int m :: .int dp :: kw_vr G b :: .int sp :: kw_vr G a :: st.map (kw_v G)))
  rw [ea, eb]
  obtain ⟨hx, hb0, hml, hown, hts, hK, hN, hX⟩ := hE
  intro S hT X
  obtain ⟨-, k0, hk0, cm0, hkk0⟩ := (hK.2 1 _ rfl).1 (T a).2 (fun j => .int (i a j))
  obtain ⟨-, k1, hk1, cm1, hkk1⟩ := (hK.2 1 _ rfl).1 (T b).2 (fun j => .int (i b j))
  obtain ⟨vm', X', step⟩ := X.arraycopy hx hown (hts _ hlk) (hts _ hnt) (hts _ hst) (hts _ hini) (src := G.1 + a) (dst := G.1 + b) (cs := arrV (G.2.2.1 1) (T a).2 (fun j => .int (i a j))) (cd := arrV (G.2.2.1 1) (T b).2 (fun j => .int (i b j))) (srcPos := sp) (destPos := dp) (n := m) (by rw [hT]; exact hca) (by rw [hT]; exact hcb)
    (fun _ h => by cases h) (fun _ h => by cases h) (fun h => by cases h) (fun h => by cases h) hk0 hk1 hkk0 hkk1 (by rfl) h1 h2 h3
    (by rw [nn sp h1, nn m h3, arrV_size]; omega)
    (by rw [nn dp h2, nn m h3, arrV_size]; omega)
    (fun vm₁ _ j hj => by
      have e : (arrV (G.2.2.1 1) (T a).2 (fun j => .int (i a j))).slots.getD (sp.toNatClampNeg + j) .null = .int (i a (sp.toNatClampNeg + j)) := by
        rw [Array.getD_eq_getD_getElem?, arrV_read _ _ (by omega)]
        rfl
      refine ⟨?_, ?_⟩
      · rw [e]
        rfl
      · rw [e]
        exact trivial)
    (g := F0 E.2.2.2.2.2.1 pc ls (.int m :: .int dp :: .ref (G.1 + b) :: .int sp :: .ref (G.1 + a) :: st.map (kw_v G))) rfl (by rw [hml]; exact hl.1) (rest := st.map (kw_v G)) rfl (by rw [hb0]; exact hd) hf (by show 2 * 0 + _ + _ ≤ _; rw [kw_sum]; omega)
  have e1 : copied (arrV (G.2.2.1 1) (T a).2 (fun j => .int (i a j))) (arrV (G.2.2.1 1) (T b).2 (fun j => .int (i b j))) sp dp m = arrV (G.2.2.1 1) (T b).2 (fun j => .int (va_cpy (i a) (i b) sp.toNatClampNeg dp.toNatClampNeg m.toNatClampNeg j)) := va_copied (fun z => .int z) _ _ (i a) (i b) h4
  rw [e1] at X' step
  have hlt : G.1 + b < H.size := (Array.getElem?_eq_some_iff.mp hcb).1
  generalize hCe : arrV (G.2.2.1 1) (T b).2 (fun j => .int (va_cpy (i a) (i b) sp.toNatClampNeg dp.toNatClampNeg m.toNatClampNeg j)) = C at X' step
  have oq : ∀ q : Nat, q ≠ G.1 + b → (H.setIfInBounds (G.1 + b) C)[q]? = H[q]? := fun q hq => by simp [Array.getElem?_setIfInBounds, Ne.symm hq]
  have hz : (H.setIfInBounds (G.1 + b) C).size = H.size := by simp
  have hheap : ((S.setVm vm').setCell (G.1 + b) C).heap = H.setIfInBounds (G.1 + b) C := by rw [← hT]; rfl
  obtain ⟨t, a1, b1⟩ := kk ls (H.setIfInBounds (G.1 + b) C) _ hl (hR.put (a := b) hz oq (fun c _ => rfl) (fun c hc => by unfold kw_cpy; rw [if_neg hc]) (fun c _ => rfl) (by
      unfold kw_cell
      rw [if_neg (by rw [g2]; decide), if_pos (by rw [g2]; decide), g2]
      unfold kw_cpy
      rw [if_pos rfl, hCe]
      simp [Array.getElem?_setIfInBounds, hlt])) ⟨by rw [hz]; exact hS.1, fun q u1 u2 => by
      have h0 := (hR.in tb (by decide)).1
      rw [oq q (fun e => u2 (by show G.1 < q; omega))]
      exact hS.2.1 q u1 u2, fun q hq => by
      have h0 := (hR.in tb (by decide)).1
      rcases List.mem_append.mp hq with h | h
      · exact hS.2.2 q h
      · obtain ⟨z, -, hz⟩ := List.mem_map.mp h
        rw [← hz]
        show G.1 < G.1 + b
        omega⟩ _ hheap X'
  exact ⟨t, step t a1, b1⟩

theorem kw_cell_T {T' : kw_T} {r' : kw_R} {i' : kw_I} {w' : kw_L} {b : Nat} (h : kw_cell G T r i w b H) (hT : T' b = T b) (hq : H1[G.1 + b]? = H[G.1 + b]?) (hr : r' b = r b) (hi : i' b = i b) (hw : w' b = w b) : kw_cell G T' r' i' w' b H1 := by
  have h1 := kw_cell_kept (H1 := H1) h hq hr hi hw
  unfold kw_cell at h1 ⊢
  rw [hT]
  exact h1
def kw_al (n k : Nat) : Prop := 0 < n ∧ n + k ≤ kw_SB
theorem kw_row_same {α : Type} {f : Nat → α} {x : α} : kw_row f a x a = x := by simp [kw_row]
theorem kw_row_off {α : Type} {f : Nat → α} {x : α} {b : Nat} (h : b ≠ a) : kw_row f a x b = f b := by simp [kw_row, h]
theorem kw_Rep.push (hR : kw_Rep G T n r i w H) (hz : H1.size = H.size + 1) (o1 : ∀ q : Nat, q < H.size → H1[q]? = H[q]?) (hn : kw_al n 1) {x : Nat × Nat} {r' : kw_R} {i' : kw_I} {w' : kw_L} (hr : ∀ b, b ≠ n → r' b = r b) (hi : ∀ b, b ≠ n → i' b = i b) (hw : ∀ b, b ≠ n → w' b = w b) (hc : kw_cell G (kw_row T n x) r' i' w' n H1) : kw_Rep G (kw_row T n x) (n + 1) r' i' w' H1 := by
  refine ⟨by rw [hz, hR.1]; omega, hn.2, fun b hb => ?_, fun b hb => ?_⟩
  · by_cases e : b = n
    · subst e
      exact ⟨hn.1, by omega⟩
    · rw [kw_row_off e] at hb
      have := hR.2.2.1 b hb
      omega
  · by_cases e : b = n
    · subst e
      exact hc
    · rw [kw_row_off e] at hb
      have h9 := hR.2.2.1 b hb
      exact kw_cell_T (hR.2.2.2 b hb) (kw_row_off e) (o1 _ (by rw [hR.1]; omega)) (hr b e) (hi b e) (hw b e)
theorem kw_S.push {H0 : Heap} (hS : va_S (fun q : Nat => G.1 < q) H0 H locs) (hz : H.size ≤ H1.size) (o1 : ∀ q : Nat, q < H.size → H1[q]? = H[q]?) : va_S (fun q : Nat => G.1 < q) H0 H1 locs :=
  ⟨Nat.le_trans hS.1 hz, fun q h1 h2 => (o1 q (Nat.lt_of_lt_of_le h1 hS.1)).trans (hS.2.1 q h1 h2), hS.2.2⟩
theorem kw_ref_n (hR : kw_Rep G T n r i w H) (hn : kw_al n 1) : Value.ref H.size = kw_v G (kw_a n) := by
  rw [hR.1]
  exact (kw_vr_ref (by have := hn.1; omega) (by have := hn.2; omega)).symm
/-- a class whose objects are made -/
def kw_Nw (own : String) (idx ci N : Nat) : Prop := ∃ (C : String) (TT : u_T), kw_cl[ci]? = some (C, TT, N) ∧ (∀ w ∈ u_ws C TT N, w ∈ kw_tb) ∧ (∀ k, k < N → parseFieldDescriptor (TT k).2.2.1 = some (kw_ft ci k)) ∧ (∀ k, k < N → kw_isR (kw_ft ci k) = true ∨ (kw_isR (kw_ft ci k) = false ∧ defaultValue (kw_ft ci k) = .int 0)) ∧ Cond.classLink own idx C ∈ kw_tb ∧ Cond.instantiable C N ∈ kw_tb ∧ Cond.initialized C ∈ kw_tb
theorem kk_new (hE : kw_ok E G cc nL own) {N : Nat} (hN : kw_Nw own idx ci N) (hd : decode cc pc = .ok (.new idx, 3)) (hn : kw_al n 1) (hc : cs + 1 ≤ E.2.2.2.1.cells) (hs : sl + N ≤ E.2.2.2.1.slots) (kk : kw_K E G nL (cs + 1) (sl + N) Q (pc + 3) L (kw_a n :: st) (kw_row T n (0, ci)) (n + 1) (kw_row r n (fun _ => 0)) (kw_row i n (fun _ => 0)) w) : kw_K E G nL cs sl Q pc L st T n r i w := by
  intro ls H locs hl hR hS
  obtain ⟨C, TT, h1, hin, hty, hdf, hlk, hins, hini⟩ := hN
  obtain ⟨hx, hb0, hml, hown, hts, hK, hN, hX⟩ := hE
  have hKn := hK.1 ci _ h1
  refine W.newcK hx hb0 hown (hts _ hlk) (hts _ hins) (hts _ hini) rfl hd hc hs hKn.2.1 rfl fun H1 kC hkC e1 z1 o1 => ?_
  rw [show ({ F0 E.2.2.2.2.2.1 pc ls (st.map (kw_v G)) with pc := (F0 E.2.2.2.2.2.1 pc ls (st.map (kw_v G))).pc + 3, stack := .ref H.size :: (F0 E.2.2.2.2.2.1 pc ls (st.map (kw_v G))).stack } : JFrame) = F0 E.2.2.2.2.2.1 (pc + 3) ls ((kw_a n :: st).map (kw_v G)) from by rw [kw_ref_n hR hn]; rfl]
  refine kk ls H1 locs hl (hR.push z1 o1 hn (fun b hb => kw_row_off hb) (fun b hb => kw_row_off hb) (fun b _ => rfl) ?_) (kw_S.push hS (by omega) o1)
  unfold kw_cell
  rw [kw_row_same, if_pos rfl]
  refine ⟨_, h1, ?_⟩
  have e2 : H1[G.1 + n]? = some (blank (G.2.1.1 ci) kC) := by rw [← hR.1]; exact e1
  refine (u_born (kw_ft ci) hts hin hKn hkC e2 hty).to fun j hj => ?_
  rw [kw_row_same, kw_row_same]
  unfold kw_fv
  rcases hdf j hj with h | ⟨h, h'⟩
  · rw [if_pos h]
    cases hf : kw_ft ci j <;> first | rfl | (rw [hf] at h; cases h)
  · rw [if_neg (by rw [h]; decide)]
    exact h'
theorem kk_newaI (hE : kw_ok E G cc nL own) (t : Nat) (h0 : 0 < t) (h4 : t < 4) {at0 : ArrayType} (hat : newarray.typeOf at0 = kw_tyof t) (hw : Cond.arrayClass (kw_tyof t) ∈ kw_tb) (hd : decode cc pc = .ok (.newarray at0, 2)) {x : Int32} {m : Nat} (hx0 : ¬ x < 0) (hm : x.toNatClampNeg = m) (hm2 : m ≤ 100000) (hn : kw_al n 1) (hc : cs + 1 ≤ E.2.2.2.1.cells) (hs : sl + m ≤ E.2.2.2.1.slots) (kk : kw_K E G nL (cs + 1) (sl + m) Q (pc + 2) L (kw_a n :: st) (kw_row T n (t, m)) (n + 1) r (kw_row i n (fun _ => 0)) w) : kw_K E G nL cs sl Q pc L (kw_i x :: st) T n r i w := by
  intro ls H locs hl hR hS
  obtain ⟨hx, hb0, hml, hown, hts, hK, hN, hX⟩ := hE
  subst hm
  have hcb : componentBytes (newarray.typeOf at0) ≤ 8 := by
    rw [hat]
    rcases (show t = 1 ∨ t = 2 ∨ t = 3 by omega) with rfl | rfl | rfl <;> decide
  refine W.newa hx hb0 (by rw [hat]; exact hts _ hw) rfl hd rfl hx0 ?_ hc hs fun cA kA comp h1 h2 h3 => ?_
  · exact Nat.le_trans (Nat.mul_le_mul hm2 hcb) (by decide)
  rw [show ({ F0 E.2.2.2.2.2.1 pc ls ((kw_i x :: st).map (kw_v G)) with pc := (F0 E.2.2.2.2.2.1 pc ls ((kw_i x :: st).map (kw_v G))).pc + 2, stack := .ref H.size :: st.map (kw_v G) } : JFrame) = F0 E.2.2.2.2.2.1 (pc + 2) ls ((kw_a n :: st).map (kw_v G)) from by rw [kw_ref_n hR hn]; rfl]
  have hcA : cA = G.2.2.1 t := by
    rw [hat] at h1
    rcases (show t = 1 ∨ t = 2 ∨ t = 3 by omega) with rfl | rfl | rfl
    · exact Option.some.inj (h1.symm.trans (hK.2 1 _ rfl).2)
    · exact Option.some.inj (h1.symm.trans (hK.2 2 _ rfl).2)
    · exact Option.some.inj (h1.symm.trans (hK.2 3 _ rfl).2)
  have hdv : defaultValue (newarray.typeOf at0) = .int 0 := by
    rw [hat]
    rcases (show t = 1 ∨ t = 2 ∨ t = 3 by omega) with rfl | rfl | rfl <;> rfl
  generalize hH1 : H.push { cls := cA, slots := Array.replicate x.toNatClampNeg (defaultValue (newarray.typeOf at0)), vm := .none } = H1
  have z1 : H1.size = H.size + 1 := by rw [← hH1, Array.size_push]
  have e1 : H1[H.size]? = some { cls := cA, slots := Array.replicate x.toNatClampNeg (defaultValue (newarray.typeOf at0)), vm := .none } := by rw [← hH1, Array.getElem?_push_size]
  have o1 : ∀ q : Nat, q < H.size → H1[q]? = H[q]? := fun q hq => by rw [← hH1, Array.getElem?_push, if_neg (Nat.ne_of_lt hq)]
  refine kk ls H1 locs hl (hR.push z1 o1 hn (fun b hb => rfl) (fun b hb => kw_row_off hb) (fun b _ => rfl) ?_) (kw_S.push hS (by omega) o1)
  unfold kw_cell
  rw [kw_row_same, if_neg (by dsimp only; omega), if_pos h4, ← hR.1, e1, hdv, hcA, arrV_new, kw_row_same]
theorem kk_newaL (hE : kw_ok E G cc nL own) (hw : Cond.arrayClass .long ∈ kw_tb) (hd : decode cc pc = .ok (.newarray .long, 2)) {x : Int32} {m : Nat} (hx0 : ¬ x < 0) (hm : x.toNatClampNeg = m) (hm2 : m ≤ 100000) (hn : kw_al n 1) (hc : cs + 1 ≤ E.2.2.2.1.cells) (hs : sl + m ≤ E.2.2.2.1.slots) (kk : kw_K E G nL (cs + 1) (sl + m) Q (pc + 2) L (kw_a n :: st) (kw_row T n (4, m)) (n + 1) r i (kw_row w n (fun _ => 0))) : kw_K E G nL cs sl Q pc L (kw_i x :: st) T n r i w := by
  intro ls H locs hl hR hS
  obtain ⟨hx, hb0, hml, hown, hts, hK, hN, hX⟩ := hE
  subst hm
  refine W.newa (atype := .long) hx hb0 (hts _ hw) rfl hd rfl hx0 ?_ hc hs fun cA kA comp h1 h2 h3 => ?_
  · exact Nat.le_trans (Nat.mul_le_mul hm2 (Nat.le_refl 8)) (by decide)
  rw [show ({ F0 E.2.2.2.2.2.1 pc ls ((kw_i x :: st).map (kw_v G)) with pc := (F0 E.2.2.2.2.2.1 pc ls ((kw_i x :: st).map (kw_v G))).pc + 2, stack := .ref H.size :: st.map (kw_v G) } : JFrame) = F0 E.2.2.2.2.2.1 (pc + 2) ls ((kw_a n :: st).map (kw_v G)) from by rw [kw_ref_n hR hn]; rfl]
  have hcA : cA = G.2.2.1 4 := Option.some.inj (h1.symm.trans (hK.2 4 _ rfl).2)
  generalize hH1 : H.push { cls := cA, slots := Array.replicate x.toNatClampNeg (defaultValue (newarray.typeOf .long)), vm := .none } = H1
  have z1 : H1.size = H.size + 1 := by rw [← hH1, Array.size_push]
  have e1 : H1[H.size]? = some { cls := cA, slots := Array.replicate x.toNatClampNeg (defaultValue (newarray.typeOf .long)), vm := .none } := by rw [← hH1, Array.getElem?_push_size]
  have o1 : ∀ q : Nat, q < H.size → H1[q]? = H[q]? := fun q hq => by rw [← hH1, Array.getElem?_push, if_neg (Nat.ne_of_lt hq)]
  refine kk ls H1 locs hl (hR.push z1 o1 hn (fun b hb => rfl) (fun b hb => rfl) (fun b hb => kw_row_off hb) ?_) (kw_S.push hS (by omega) o1)
  unfold kw_cell
  rw [kw_row_same, if_neg (by dsimp only; decide), if_neg (by dsimp only; decide), if_pos rfl, ← hR.1, e1, hcA, arrV_new, kw_row_same]
  rfl
theorem kk_anew (hE : kw_ok E G cc nL own) (t : Nat) {C : String} (ht : (t = 6 ∧ C = RX6) ∨ (t = 7 ∧ C = RX1)) (hlk : Cond.classLink own idx C ∈ kw_tb) (hd : decode cc pc = .ok (.anewarray idx, 3)) {x : Int32} {m : Nat} (hx0 : ¬ x < 0) (hm : x.toNatClampNeg = m) (hm2 : m ≤ 100000) (hn : kw_al n 1) (hc : cs + 1 ≤ E.2.2.2.1.cells) (hs : sl + m ≤ E.2.2.2.1.slots) (kk : kw_K E G nL (cs + 1) (sl + m) Q (pc + 3) L (kw_a n :: st) (kw_row T n (t, m)) (n + 1) (kw_row r n (fun _ => 0)) i w) : kw_K E G nL cs sl Q pc L (kw_i x :: st) T n r i w := by
  intro ls H locs hl hR hS
  obtain ⟨hx, hb0, hml, hown, hts, hK, hN, x1, x2, x3, hX⟩ := hE
  subst hm
  have hov : (Cond.arrayOver (.object C)).before E.2.2.2.2.2.2.1 E.2.2.2.2.1 = true := by
    rcases ht with ⟨rfl, rfl⟩ | ⟨rfl, rfl⟩
    · exact Cond.arrayOver_alike (Vm.Alike.refl _) x1
    · exact Cond.arrayOver_alike (Vm.Alike.refl _) x2
  refine W.anew hx hb0 hown (hts _ hlk) hov rfl hd rfl hx0 ?_ hc hs fun cA kA comp h1 h2 h3 h5 => ?_
  · exact Nat.le_trans (Nat.mul_le_mul hm2 (Nat.le_refl 4)) (by decide)
  rw [show ({ F0 E.2.2.2.2.2.1 pc ls ((kw_i x :: st).map (kw_v G)) with pc := (F0 E.2.2.2.2.2.1 pc ls ((kw_i x :: st).map (kw_v G))).pc + 3, stack := .ref H.size :: st.map (kw_v G) } : JFrame) = F0 E.2.2.2.2.2.1 (pc + 3) ls ((kw_a n :: st).map (kw_v G)) from by rw [kw_ref_n hR hn]; rfl]
  have hcA : cA = G.2.2.1 t := by
    rcases ht with ⟨rfl, rfl⟩ | ⟨rfl, rfl⟩
    · obtain ⟨_, _, -, -, -, k4⟩ := (hK.2 6 _ rfl).2
      exact Option.some.inj (h1.symm.trans k4)
    · obtain ⟨_, _, -, -, -, k4⟩ := (hK.2 7 _ rfl).2
      exact Option.some.inj (h1.symm.trans k4)
  have ht5 : 5 < t ∧ t < 8 := by rcases ht with ⟨rfl, -⟩ | ⟨rfl, -⟩ <;> decide
  generalize hH1 : H.push { cls := cA, slots := Array.replicate x.toNatClampNeg .null, vm := .none } = H1
  have z1 : H1.size = H.size + 1 := by rw [← hH1, Array.size_push]
  have e1 : H1[H.size]? = some { cls := cA, slots := Array.replicate x.toNatClampNeg .null, vm := .none } := by rw [← hH1, Array.getElem?_push_size]
  have o1 : ∀ q : Nat, q < H.size → H1[q]? = H[q]? := fun q hq => by rw [← hH1, Array.getElem?_push, if_neg (Nat.ne_of_lt hq)]
  refine kk ls H1 locs hl (hR.push z1 o1 hn (fun b hb => kw_row_off hb) (fun b hb => rfl) (fun b hb => rfl) ?_) (kw_S.push hS (by omega) o1)
  unfold kw_cell
  rw [kw_row_same, if_neg (by dsimp only; omega), if_neg (by dsimp only; omega), if_neg (by dsimp only; omega), ← hR.1, e1, hcA, arrV_new, kw_row_same]
  rfl
/-- a reference that an array of objects takes: null, or an object of its class -/
def kw_el (T : kw_T) (ci v : Nat) : Prop := v = 0 ∨ T v = (0, ci)
theorem kk_aastore (hE : kw_ok E G cc nL own) (t : Nat) (ht : (t = 6 ∧ ci = 6) ∨ (t = 7 ∧ ci = 1)) {x : Int32} {v : Nat} (hd : decode cc pc = .ok (.aastore, 1)) (ha : kw_in T t a x) (hv : kw_el T ci v) (kk : kw_K E G nL cs sl Q (pc + 1) L st T n (kw_st r a x.toNatClampNeg v) i w) : kw_K E G nL cs sl Q pc L (kw_a v :: kw_i x :: kw_a a :: st) T n r i w := by
  intro ls H locs hl hR hS
  have ht5 : 5 < t ∧ t < 8 := by rcases ht with ⟨rfl, -⟩ | ⟨rfl, -⟩ <;> decide
  obtain ⟨e, hc⟩ := hR.ref (kw_in_T ha) (by omega) (by omega)
  have hlt : x.toNatClampNeg < (T a).2 := Nat.not_le.mp fun q => ha.2 (Or.inr q)
  have h0 : ¬ x < 0 := fun q => ha.2 (Or.inl q)
  show kw_W E H locs cs sl Q (F0 _ pc ls (kw_vr G v :: .int x :: kw_vr G a :: st.map (kw_v G)))
  obtain ⟨hx, hb0, hml, hown, hts, hK, hN, hX⟩ := hE
  obtain ⟨C, TT, N, hcl, hty⟩ : ∃ (C : String) (TT : u_T) (N : Nat), kw_cl[ci]? = some (C, TT, N) ∧ (kw_tys G.2.2.1)[t]? = some (G.2.2.1 t, .object C) := by
    rcases ht with ⟨rfl, rfl⟩ | ⟨rfl, rfl⟩
    · exact ⟨_, _, _, rfl, rfl⟩
    · exact ⟨_, _, _, rfl, rfl⟩
  have fin : ∀ H1 : Heap, H1[G.1 + a]? = some ((arrV (G.2.2.1 t) (T a).2 (fun j => kw_vr G (r a j))).setSlot x.toNatClampNeg (kw_vr G v)) → H1.size = H.size → (∀ q, q ≠ G.1 + a → H1[q]? = H[q]?) → kw_W E H1 (locs ++ [⟨G.1 + a, x.toNatClampNeg⟩]) cs sl Q (F0 E.2.2.2.2.2.1 (pc + 1) ls (st.map (kw_v G))) := by
    intro H1 e1 z oq
    refine kk ls H1 _ hl (hR.put z oq (fun b hb => kw_st_offF hb) (fun b _ => rfl) (fun b _ => rfl) ?_) (kw_S.put hS (hR.in (kw_in_T ha) (by omega)).1 z oq)
    unfold kw_cell
    rw [if_neg (by rw [ha.1]; omega), if_neg (by rw [ha.1]; omega), if_neg (by rw [ha.1]; omega), e1, arrV_store, kw_upd (f := r) (fun z => kw_vr G z), ha.1]
  rw [e]
  rcases hv with rfl | hv
  · exact va_WaastN (C := C) hx hb0 hc ((hK.2 t _ hty).1 _ _) (fun q => by cases q) (by rw [arrV_size]; exact ha.2) rfl rfl hd fin
  · obtain ⟨ev, q, hq, cellV, g1, g2, g3, -⟩ := hR.obj hv
    have hcls := (hK.1 ci _ hcl).2
    obtain ⟨kA, comp, k1, k2, k3, -⟩ := (hK.2 t _ hty).2
    have hcomp : comp = G.2.1.1 ci := Option.some.inj (k3.symm.trans hcls.1)
    subst hcomp
    obtain ⟨kC, hkC, -⟩ := hcls.2
    rw [ev] at fin ⊢
    exact W.aast hx hb0 hc (fun q h => by cases h) (fun h => by cases h) k1 k2 rfl hkC ⟨h0, by rw [arrV_size]; exact hlt⟩ g1 (fun q h => by rw [g3] at h; cases h) (by rw [g2]; exact hkC) (by rw [g2]; exact va_assign hcls) rfl rfl hd fin
theorem kk_tin (hE : kw_ok E G cc nL own) {dflt lo hi : Int} {offs : Array Int} {len : Nat} {x : Int32} {off : Int} {tgt : Nat} (hd : decode cc pc = .ok (.tableswitch dflt lo hi offs, len)) (h1 : ¬ x.toInt < lo) (h2 : ¬ hi < x.toInt) (ho : offs[(x.toInt - lo).toNat]? = some off) (ht : (pc : Int) + off = (tgt : Int)) (kk : kw_K E G nL cs sl Q tgt L st T n r i w) : kw_K E G nL cs sl Q pc L (kw_i x :: st) T n r i w :=
  fun ls H locs hl hR hS => lv_tableIn hE.1 hE.2.1 hd h1 h2 ho ht (kk ls H locs hl hR hS)
theorem kk_tout (hE : kw_ok E G cc nL own) {dflt lo hi : Int} {offs : Array Int} {len : Nat} {x : Int32} {tgt : Nat} (hd : decode cc pc = .ok (.tableswitch dflt lo hi offs, len)) (h : x.toInt < lo ∨ hi < x.toInt) (ht : (pc : Int) + dflt = (tgt : Int)) (kk : kw_K E G nL cs sl Q tgt L st T n r i w) : kw_K E G nL cs sl Q pc L (kw_i x :: st) T n r i w :=
  fun ls H locs hl hR hS => lv_tableOut hE.1 hE.2.1 hd h ht (kk ls H locs hl hR hS)

def kw_mT (T : kw_T) (n N K : Nat) : kw_T := fun b => if b = n then (5, N) else if n < b ∧ b ≤ n + N then (1, K) else T b
def kw_mR (r : kw_R) (n N : Nat) : kw_R := kw_row r n (fun j => if j < N then n + 1 + j else 0)
def kw_mI (i : kw_I) (n N : Nat) : kw_I := fun b => if n < b ∧ b ≤ n + N then (fun _ => 0) else i b
theorem kw_outer (c : ClassId) (N h0 : Nat) : ∀ m : Nat, Jvm.Free.Multi.outerC c N h0 m = arrV c N (fun j => if j < m then .ref (h0 + 1 + j) else .null)
  | 0 => by
    show ({ cls := c, slots := Array.replicate N .null, vm := .none } : Cell) = _
    rw [arrV_new]
    refine congrArg (arrV c N) (funext fun j => ?_)
    rw [if_neg (Nat.not_lt_zero j)]
  | m + 1 => by
    show (Jvm.Free.Multi.outerC c N h0 m).setSlot m (.ref (h0 + 1 + m)) = _
    rw [kw_outer c N h0 m, arrV_store]
    refine congrArg (arrV c N) (funext fun j => ?_)
    unfold updV
    by_cases e : j = m
    · subst e
      rw [if_pos rfl, if_pos (Nat.lt_succ_self j)]
    · rw [if_neg e]
      by_cases h : j < m
      · dsimp only
        rw [if_pos h, if_pos (by omega)]
      · dsimp only
        rw [if_neg h, if_neg (by omega)]
theorem kk_mna (hE : kw_ok E G cc nL own) (hlk : Cond.classLink own idx "[[I" ∈ kw_tb) (harr : Cond.arrayClass .int ∈ kw_tb) (hd : decode cc pc = .ok (.multianewarray idx 2, 4)) {x y : Int32} {N K : Nat} (hx0 : ¬ x < 0) (hy0 : ¬ y < 0) (hN0 : x.toNatClampNeg = N) (hK0 : y.toNatClampNeg = K) (hN2 : N ≤ 10000) (hK2 : K ≤ 10000) (hn : kw_al n (1 + N)) (hc : cs + (1 + N) ≤ E.2.2.2.1.cells) (hs : sl + (N + N * K) ≤ E.2.2.2.1.slots)
    (kk : kw_K E G nL (cs + 1 + N) (sl + N + N * K) Q (pc + 4) L (kw_a n :: st) (kw_mT T n N K) (n + 1 + N) (kw_mR r n N) (kw_mI i n N) w) : kw_K E G nL cs sl Q pc L (kw_i y :: kw_i x :: st) T n r i w := by
  intro ls H locs hl hR hS
  obtain ⟨hx, hb0, hml, hown, hts, hK, hN, x1, x2, x3, hX⟩ := hE
  subst hN0
  subst hK0
  intro S hT X
  have hov : (Cond.arrayOver (.array .int)).before E.2.2.2.2.2.2.1 E.2.2.2.2.1 = true := arrayOver_alikeB (Vm.Alike.refl _) x3
  obtain ⟨vm₁, cA, comp, -, fA, fC, -, -, X', step⟩ := X.multianewarray2F hx hown (ty := .int) (hts _ hlk) hov (hts _ harr) (g := F0 E.2.2.2.2.2.1 pc ls (.int y :: .int x :: st.map (kw_v G))) rfl (by rw [hb0]; exact hd) (n := x) (k := y) (rest := st.map (kw_v G)) rfl hx0 hy0 (by omega) (by show y.toNatClampNeg * 4 ≤ _; omega) (by omega) rfl rfl hc hs
  generalize hF : Jvm.Free.Multi.fill (S.setVm vm₁) cA comp x.toNatClampNeg y.toNatClampNeg (defaultValue .int) x.toNatClampNeg = F at X' step
  have hTh : (S.setVm vm₁).heap = H := hT
  obtain ⟨f1, f2, -, -⟩ := Jvm.Free.Multi.fill_facts (S.setVm vm₁) cA comp x.toNatClampNeg y.toNatClampNeg (defaultValue .int) x.toNatClampNeg
  have fo : ∀ q : Nat, q < H.size → F.heap[q]? = H[q]? := fun q hq => by
    have := Jvm.Free.Multi.fill_old (S.setVm vm₁) cA comp x.toNatClampNeg y.toNatClampNeg (defaultValue .int) (a := q) (by rw [hTh]; exact hq) x.toNatClampNeg
    rw [hF, hTh] at this
    exact this
  have fi : ∀ j : Nat, j < x.toNatClampNeg → F.heap[H.size + 1 + j]? = some (arrV comp y.toNatClampNeg (fun _ => .int 0)) := fun j hj => by
    have := Jvm.Free.Multi.fill_inner (S.setVm vm₁) cA comp x.toNatClampNeg y.toNatClampNeg (defaultValue .int) x.toNatClampNeg j hj
    rw [hF, hTh] at this
    rw [this, ← arrV_new]
    rfl
  rw [hF, hTh] at f1 f2
  rw [kw_outer] at f2
  have hcA : cA = G.2.2.1 5 := Option.some.inj (fA.symm.trans (hK.2 5 _ rfl).2)
  have hco : comp = G.2.2.1 1 := Option.some.inj (fC.symm.trans (hK.2 1 _ rfl).2)
  have hz := hR.1
  have hn1 := hn.1
  have hn2 := hn.2
  have hrep : kw_Rep G (kw_mT T n x.toNatClampNeg y.toNatClampNeg) (n + 1 + x.toNatClampNeg) (kw_mR r n x.toNatClampNeg) (kw_mI i n x.toNatClampNeg) w F.heap := by
    refine ⟨by rw [f1, hz]; omega, by omega, fun b hb => ?_, fun b hb => ?_⟩
    · unfold kw_mT at hb
      split at hb
      · omega
      · split at hb
        · omega
        · have := hR.2.2.1 b hb
          omega
    · by_cases e : b = n
      · subst e
        unfold kw_cell kw_mT kw_mR
        rw [if_pos rfl, if_neg (by dsimp only; decide), if_neg (by dsimp only; decide), if_neg (by dsimp only; decide), kw_row_same, ← hz, f2, hcA]
        refine congrArg some (congrArg (arrV (G.2.2.1 5) x.toNatClampNeg) (funext fun j => ?_))
        by_cases hj : j < x.toNatClampNeg
        · rw [if_pos hj, if_pos hj, kw_vr_ref (by omega) (by omega)]
          have e7 : (H.size + 1 + j : Nat) = G.1 + (b + 1 + j) := by omega
          exact congrArg Value.ref e7
        · rw [if_neg hj, if_neg hj]
          rfl
      · by_cases e2 : n < b ∧ b ≤ n + x.toNatClampNeg
        · unfold kw_cell kw_mT kw_mI
          rw [if_neg e, if_pos e2, if_neg (by dsimp only; decide), if_pos (by dsimp only; decide), if_pos e2]
          have := fi (b - n - 1) (by omega)
          rw [show H.size + 1 + (b - n - 1) = G.1 + b by omega, hco] at this
          exact this
        · have eT : kw_mT T n x.toNatClampNeg y.toNatClampNeg b = T b := by
            unfold kw_mT
            rw [if_neg e, if_neg e2]
          rw [eT] at hb
          have h9 := hR.2.2.1 b hb
          refine kw_cell_T (hR.2.2.2 b hb) eT (fo _ (by rw [hz]; omega)) ?_ ?_ rfl
          · unfold kw_mR
            rw [kw_row_off e]
          · unfold kw_mI
            rw [if_neg e2]
  obtain ⟨t, a1, b1⟩ := kk ls F.heap locs hl hrep (kw_S.push hS (by rw [f1]; omega) fo) F rfl X'
  refine ⟨t, step t ?_, b1⟩
  have e9 : Value.ref S.heap.size = kw_v G (kw_a n) := by
    rw [hT, hz]
    exact (kw_vr_ref (by omega) (by omega)).symm
  rw [show ({ F0 E.2.2.2.2.2.1 pc ls (.int y :: .int x :: st.map (kw_v G)) with pc := (F0 E.2.2.2.2.2.1 pc ls (.int y :: .int x :: st.map (kw_v G))).pc + 4, stack := .ref S.heap.size :: st.map (kw_v G) } : JFrame) = F0 E.2.2.2.2.2.1 (pc + 4) ls ((kw_a n :: st).map (kw_v G)) from by rw [e9]; rfl]
  exact a1
theorem kk_castI (hE : kw_ok E G cc nL own) (hlk : Cond.classLink own idx "[I" ∈ kw_tb) (hd : decode cc pc = .ok (.checkcast idx, 3)) {m : Nat} (ha : T a = (1, m)) (kk : kw_K E G nL cs sl Q (pc + 3) L (kw_a a :: st) T n r i w) : kw_K E G nL cs sl Q pc L (kw_a a :: st) T n r i w := by
  intro ls H locs hl hR hS
  obtain ⟨e, hc⟩ := hR.int ha (by decide) (by decide)
  obtain ⟨hx, hb0, hml, hown, hts, hK, hN, hX⟩ := hE
  have hk2 := kk ls H locs hl hR hS
  have e2 : (kw_a a :: st).map (kw_v G) = kw_vr G a :: st.map (kw_v G) := rfl
  rw [e2, e] at hk2 ⊢
  exact va_castA (D := G.2.1) (cl := kw_cl) (ws := [(G.1 + a, .inl (G.2.2.1 1, m, .inl (i a)))]) hx hb0 hown (hts _ hlk) (fun k q h => by
    have hz : k < 1 := (List.getElem?_eq_some_iff.mp h).1
    rw [show k = 0 by omega] at h
    cases h
    exact hc) 0 rfl (hK.2 1 _ rfl).2 hd hk2
theorem kk_clone (hE : kw_ok E G cc nL own) (hlk : Cond.methodLink own idx ⟨"[I", "clone", "()Ljava/lang/Object;"⟩ ∈ kw_tb) (hsm : Cond.sameMethod "[I" "java/lang/Object" "clone" "()Ljava/lang/Object;" ∈ kw_tb) (hnt : Cond.native ⟨"java/lang/Object", "clone", "()Ljava/lang/Object;"⟩ ∈ kw_tb) (hins : Cond.instanceMethod ⟨"java/lang/Object", "clone", "()Ljava/lang/Object;"⟩ ∈ kw_tb) (hsel : Cond.selects "[I" ⟨"[I", "clone", "()Ljava/lang/Object;"⟩ ⟨"java/lang/Object", "clone", "()Ljava/lang/Object;"⟩ ∈ kw_tb) (hcs : Cond.castable "[I" "java/lang/Cloneable" ∈ kw_nb)
    (hd : decode cc pc = .ok (.invokevirtual idx, 3)) {m : Nat} (ha : T a = (1, m)) (hn : kw_al n 1) (hf : 1 ≤ E.2.2.2.1.frames) (hlo : (st.map kw_cat).sum + 14 ≤ E.2.2.2.1.locals) (hc : cs + 1 ≤ E.2.2.2.1.cells) (hs : sl + m ≤ E.2.2.2.1.slots) (kk : kw_K E G nL (cs + 1) (sl + m) Q (pc + 3) L (kw_a n :: st) (kw_row T n (1, m)) (n + 1) r (kw_row i n (i a)) w) : kw_K E G nL cs sl Q pc L (kw_a a :: st) T n r i w := by
  intro ls H locs hl hR hS
  obtain ⟨e, hca⟩ := hR.int ha (by decide) (by decide)
  obtain ⟨hx, hb0, hml, hown, hts, hK, hN, hX⟩ := hE
  show kw_W E H locs cs sl Q (F0 _ pc ls (kw_vr G a :: st.map (kw_v G)))
  rw [e]
  obtain ⟨c0, t0', f1, f2, f3⟩ := Cond.castable_spec (va_Nw.use (A := #[]) rfl (hN _ hcs))
  have hnm : E.2.2.2.2.1.vm.findClass "[I" = some (G.2.2.1 1) := (hK.2 1 _ rfl).2
  cases hnm.symm.trans f1
  intro S hT X
  have hcellT : S.heap[G.1 + a]? = some (arrV (G.2.2.1 1) m (fun j => .int (i a j))) := by rw [hT]; exact hca
  obtain ⟨-, kA, hkA, comp, hkind⟩ := State.isArrayOf_alike X.warmed.alike ((hK.2 1 _ rfl).1 0 (fun _ => .null))
  obtain ⟨-, kS, hkS, compS, hkindS⟩ := (hK.2 1 _ rfl).1 0 (fun _ => .null)
  obtain ⟨vm', X', stp⟩ := X.cloneArray hx hown (hts _ hlk) (hts _ hsm) (hts _ hnt) (hts _ hins) (hts _ hsel) (a := G.1 + a) (cell := arrV (G.2.2.1 1) m (fun j => .int (i a j))) hcellT (fun k h => by cases h) (fun h => by cases h) hnm f2 f3
    (fun j v hv => by
      have hk' : S.vm.classes[G.2.2.1 1]? = some kA := hkA
      have hfit : fits .int v = true := by
        by_cases hj : j < m
        · rw [arrV_read _ _ hj] at hv
          cases hv
          rfl
        · have hsz : (arrV (G.2.2.1 1) m (fun j => .int (i a j))).slots.size ≤ j := by rw [arrV_size]; omega
          rw [Array.getElem?_eq_none hsz] at hv
          cases hv
      have hk'' : S.vm.classes[(arrV (G.2.2.1 1) m (fun j => .int (i a j))).cls]? = some kA := hkA
      simpa [State.fitsSlot, State.slotType?, hk'', hkind] using hfit)
    (g := F0 E.2.2.2.2.2.1 pc ls (.ref (G.1 + a) :: st.map (kw_v G))) rfl (by rw [hml]; exact hl.1) rfl (by rw [hb0]; exact hd) hf (by show 2 * 0 + _ + 14 ≤ _; rw [kw_sum]; omega) hc (by rw [arrV_size]; exact hs) (hloader := Vm.clonesLoader_of_array hkS hkindS)
  have hcellE : ({ cls := (arrV (G.2.2.1 1) m (fun j => .int (i a j))).cls, slots := (arrV (G.2.2.1 1) m (fun j => .int (i a j))).slots } : Cell) = arrV (G.2.2.1 1) m (fun j => .int (i a j)) := rfl
  rw [hcellE, arrV_size] at X'
  generalize hH1 : H.push (arrV (G.2.2.1 1) m (fun j => .int (i a j))) = H1
  have z1 : H1.size = H.size + 1 := by rw [← hH1, Array.size_push]
  have e1 : H1[H.size]? = some (arrV (G.2.2.1 1) m (fun j => .int (i a j))) := by rw [← hH1, Array.getElem?_push_size]
  have o1 : ∀ q : Nat, q < H.size → H1[q]? = H[q]? := fun q hq => by rw [← hH1, Array.getElem?_push, if_neg (Nat.ne_of_lt hq)]
  obtain ⟨t, b1, b2⟩ := kk ls H1 locs hl (hR.push z1 o1 hn (fun b hb => rfl) (fun b hb => kw_row_off hb) (fun b hb => rfl) (by
    unfold kw_cell
    rw [kw_row_same, if_neg (by dsimp only; decide), if_pos (by dsimp only; decide), ← hR.1, e1, kw_row_same])) (kw_S.push hS (by omega) o1) _ (by rw [← hH1, ← hT]; rfl) X'
  refine ⟨t, stp t ?_, b2⟩
  have e9 : Value.ref S.heap.size = kw_v G (kw_a n) := by
    rw [hT]
    exact kw_ref_n hR hn
  rw [show ({ F0 E.2.2.2.2.2.1 pc ls (.ref (G.1 + a) :: st.map (kw_v G)) with pc := (F0 E.2.2.2.2.2.1 pc ls (.ref (G.1 + a) :: st.map (kw_v G))).pc + 3, stack := .ref S.heap.size :: st.map (kw_v G) } : JFrame) = F0 E.2.2.2.2.2.1 (pc + 3) ls ((kw_a n :: st).map (kw_v G)) from by rw [e9]; rfl]
  exact b1
end KW6
