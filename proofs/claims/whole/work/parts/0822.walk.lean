def w_X10_mend_403 (a0 : Nat) (x1 : Int32) (x2 : Int32) (x3 : Int32) (x4 : Int32) (x5 : Int32) (x6 : Int32) (T : kw_T) (n : Nat) (r : kw_R) (w : kw_L) (Q : Int32 → kw_I → Prop) (k315 : Int32 → Int32 → Int32 → Int32 → kw_I → Prop) (x8 : Int32) (x9 : Int32) (x10 : Int32) (x11 : Int32) (i : kw_I) : Prop :=
  k315 x8 x9 x10 ((x11 + (1 : Int32))) i
def w_X10_mend_395 (a0 : Nat) (x1 : Int32) (x2 : Int32) (x3 : Int32) (x4 : Int32) (x5 : Int32) (x6 : Int32) (T : kw_T) (n : Nat) (r : kw_R) (w : kw_L) (Q : Int32 → kw_I → Prop) (k315 : Int32 → Int32 → Int32 → Int32 → kw_I → Prop) (x8 : Int32) (x11 : Int32) (x13 : Int32) (i : kw_I) : Prop :=
  w_X10_mend_403 a0 x1 x2 x3 x4 x5 x6 T n r w Q k315 x8 x11 x13 x11 i
def s_X10_mend_334 (a0 : Nat) (x1 : Int32) (x2 : Int32) (x3 : Int32) (x4 : Int32) (x5 : Int32) (x6 : Int32) (T : kw_T) (n : Nat) (r : kw_R) (w : kw_L) (Q : Int32 → kw_I → Prop) (k315 : Int32 → Int32 → Int32 → Int32 → kw_I → Prop) (k334 : Int32 → Int32 → Int32 → Int32 → Int32 → Int32 → kw_I → Prop) (x8 : Int32) (x9 : Int32) (x10 : Int32) (x11 : Int32) (x12 : Int32) (x13 : Int32) (i : kw_I) : Prop :=
  (x13 < 0 → w_X10_seamsOf (r a0 34) (0 : Int32) T n r i w (fun v374 => (x9 = (-1 : Int32) → w_X10_mend_395 a0 x1 x2 x3 x4 x5 x6 T n r w Q k315 x8 x11 v374 i) ∧ (¬ x9 = (-1 : Int32) → (v374 < x10 → w_X10_mend_395 a0 x1 x2 x3 x4 x5 x6 T n r w Q k315 x8 x11 v374 i) ∧ (¬ v374 < x10 → w_X10_mend_403 a0 x1 x2 x3 x4 x5 x6 T n r w Q k315 x8 x9 x10 x11 i)))) ∧ (¬ x13 < 0 → kw_in T 1 (r a0 33) x13 ∧ (kw_in T 1 (r a0 34) (i (r a0 33) (x13).toNatClampNeg) ∧ (∀ i355 : kw_I, i355 = kw_st i (r a0 34) ((i (r a0 33) (x13).toNatClampNeg)).toNatClampNeg (x12 - x12 / (8 : Int32) * (8 : Int32)) → (k334 x8 x9 x10 x11 ((x12 / (8 : Int32))) ((x13 + (-1 : Int32))) i355))))
def w_X10_mend_334 (a0 : Nat) (x1 : Int32) (x2 : Int32) (x3 : Int32) (x4 : Int32) (x5 : Int32) (x6 : Int32) (T : kw_T) (n : Nat) (r : kw_R) (w : kw_L) (Q : Int32 → kw_I → Prop) (k315 : Int32 → Int32 → Int32 → Int32 → kw_I → Prop) : Nat → Int32 → Int32 → Int32 → Int32 → Int32 → Int32 → kw_I → Prop
  | 0 => fun _ _ _ _ _ _ _ => False
  | N + 1 => s_X10_mend_334 a0 x1 x2 x3 x4 x5 x6 T n r w Q k315 (w_X10_mend_334 a0 x1 x2 x3 x4 x5 x6 T n r w Q k315 N)
def s_X10_mend_423 (a0 : Nat) (x1 : Int32) (x2 : Int32) (x3 : Int32) (x4 : Int32) (x5 : Int32) (x6 : Int32) (T : kw_T) (n : Nat) (r : kw_R) (w : kw_L) (Q : Int32 → kw_I → Prop)  (k423 : Int32 → Int32 → kw_I → Prop) (x9 : Int32) (x11 : Int32) (i : kw_I) : Prop :=
  (x11 ≤ x6 → Q (x9 - x9 / (8 : Int32) * (8 : Int32)) i) ∧ (¬ x11 ≤ x6 → k423 ((x9 / (8 : Int32))) ((x11 + (-1 : Int32))) i)
def w_X10_mend_423 (a0 : Nat) (x1 : Int32) (x2 : Int32) (x3 : Int32) (x4 : Int32) (x5 : Int32) (x6 : Int32) (T : kw_T) (n : Nat) (r : kw_R) (w : kw_L) (Q : Int32 → kw_I → Prop)  : Nat → Int32 → Int32 → kw_I → Prop
  | 0 => fun _ _ _ => False
  | N + 1 => s_X10_mend_423 a0 x1 x2 x3 x4 x5 x6 T n r w Q  (w_X10_mend_423 a0 x1 x2 x3 x4 x5 x6 T n r w Q  N)
def s_X10_mend_315 (a0 : Nat) (x1 : Int32) (x2 : Int32) (x3 : Int32) (x4 : Int32) (x5 : Int32) (x6 : Int32) (T : kw_T) (n : Nat) (r : kw_R) (w : kw_L) (Q : Int32 → kw_I → Prop)  (k315 : Int32 → Int32 → Int32 → Int32 → kw_I → Prop) (x8 : Int32) (x9 : Int32) (x10 : Int32) (x11 : Int32) (i : kw_I) : Prop :=
  (x8 ≤ x11 → (¬ x6 = 0 → ∃ N, w_X10_mend_423 a0 x1 x2 x3 x4 x5 x6 T n r w Q  N x9 ((i a0 35)) i) ∧ (x6 = 0 → Q x10 i)) ∧ (¬ x8 ≤ x11 → ∃ N, w_X10_mend_334 a0 x1 x2 x3 x4 x5 x6 T n r w Q k315 N x8 x9 x10 x11 x11 (((i a0 35) - (1 : Int32))) i)
def w_X10_mend_315 (a0 : Nat) (x1 : Int32) (x2 : Int32) (x3 : Int32) (x4 : Int32) (x5 : Int32) (x6 : Int32) (T : kw_T) (n : Nat) (r : kw_R) (w : kw_L) (Q : Int32 → kw_I → Prop)  : Nat → Int32 → Int32 → Int32 → Int32 → kw_I → Prop
  | 0 => fun _ _ _ _ _ => False
  | N + 1 => s_X10_mend_315 a0 x1 x2 x3 x4 x5 x6 T n r w Q  (w_X10_mend_315 a0 x1 x2 x3 x4 x5 x6 T n r w Q  N)
def s_X10_mend_284 (a0 : Nat) (x1 : Int32) (x2 : Int32) (x3 : Int32) (x4 : Int32) (x5 : Int32) (x6 : Int32) (T : kw_T) (n : Nat) (r : kw_R) (w : kw_L) (Q : Int32 → kw_I → Prop)  (k284 : Int32 → Int32 → kw_I → Prop) (x8 : Int32) (x9 : Int32) (i : kw_I) : Prop :=
  ((i a0 35) ≤ x9 → ∃ N, w_X10_mend_315 a0 x1 x2 x3 x4 x5 x6 T n r w Q  N x8 ((-1 : Int32)) ((0 : Int32)) ((0 : Int32)) i) ∧ (¬ (i a0 35) ≤ x9 → k284 ((x8 * (8 : Int32))) ((x9 + (1 : Int32))) i)
def w_X10_mend_284 (a0 : Nat) (x1 : Int32) (x2 : Int32) (x3 : Int32) (x4 : Int32) (x5 : Int32) (x6 : Int32) (T : kw_T) (n : Nat) (r : kw_R) (w : kw_L) (Q : Int32 → kw_I → Prop)  : Nat → Int32 → Int32 → kw_I → Prop
  | 0 => fun _ _ _ => False
  | N + 1 => s_X10_mend_284 a0 x1 x2 x3 x4 x5 x6 T n r w Q  (w_X10_mend_284 a0 x1 x2 x3 x4 x5 x6 T n r w Q  N)
def s_X10_mend_246 (a0 : Nat) (x1 : Int32) (x2 : Int32) (x3 : Int32) (x4 : Int32) (x5 : Int32) (x6 : Int32) (T : kw_T) (n : Nat) (r : kw_R) (w : kw_L) (Q : Int32 → kw_I → Prop)  (k246 : Int32 → kw_I → Prop) (x8 : Int32) (i : kw_I) : Prop :=
  ((36 : Int32) ≤ x8 → ∃ N, w_X10_mend_284 a0 x1 x2 x3 x4 x5 x6 T n r w Q  N ((1 : Int32)) ((0 : Int32)) i) ∧ (¬ (36 : Int32) ≤ x8 → w_X10_endOf a0 T n r i w (fun v264 => kw_in T 1 (r a0 22) (v264 + x8) ∧ (kw_in T 1 (r a0 34) x8 ∧ (∀ i271 : kw_I, i271 = kw_st i (r a0 34) (x8).toNatClampNeg (i (r a0 22) ((v264 + x8)).toNatClampNeg) → (k246 ((x8 + (1 : Int32))) i271)))))
def w_X10_mend_246 (a0 : Nat) (x1 : Int32) (x2 : Int32) (x3 : Int32) (x4 : Int32) (x5 : Int32) (x6 : Int32) (T : kw_T) (n : Nat) (r : kw_R) (w : kw_L) (Q : Int32 → kw_I → Prop)  : Nat → Int32 → kw_I → Prop
  | 0 => fun _ _ => False
  | N + 1 => s_X10_mend_246 a0 x1 x2 x3 x4 x5 x6 T n r w Q  (w_X10_mend_246 a0 x1 x2 x3 x4 x5 x6 T n r w Q  N)
def w_X10_mend_224 (a0 : Nat) (x1 : Int32) (x2 : Int32) (x3 : Int32) (x4 : Int32) (x5 : Int32) (x6 : Int32) (T : kw_T) (n : Nat) (r : kw_R) (w : kw_L) (Q : Int32 → kw_I → Prop)  (i : kw_I) : Prop :=
  w_X10_lies x6 (0 : Int32) (i a0 35) T n r i w (fun v231 => (¬ v231 = 0 → w_X10_looks a0 T n r i w (fun i240 => ∃ N, w_X10_mend_246 a0 x1 x2 x3 x4 x5 x6 T n r w Q  N ((0 : Int32)) i240)) ∧ (v231 = 0 → Q (-1 : Int32) i))
def w_X10_mend_207 (a0 : Nat) (x1 : Int32) (x2 : Int32) (x3 : Int32) (x4 : Int32) (x5 : Int32) (x6 : Int32) (T : kw_T) (n : Nat) (r : kw_R) (w : kw_L) (Q : Int32 → kw_I → Prop)  (i : kw_I) : Prop :=
  (x5 = (-1 : Int32) → w_X10_mend_224 a0 x1 x2 x3 x4 x5 x6 T n r w Q  i) ∧ (¬ x5 = (-1 : Int32) → w_X10_eats a0 x5 T n r i w (fun v216 i216 => (¬ v216 = 0 → w_X10_mend_224 a0 x1 x2 x3 x4 x5 x6 T n r w Q  i216) ∧ (v216 = 0 → Q (-1 : Int32) i216)))
def w_X10_mend_194 (a0 : Nat) (x1 : Int32) (x2 : Int32) (x3 : Int32) (x4 : Int32) (x5 : Int32) (x6 : Int32) (T : kw_T) (n : Nat) (r : kw_R) (w : kw_L) (Q : Int32 → kw_I → Prop)  (x7 : Int32) (i : kw_I) : Prop :=
  (¬ x7 = 0 → w_X10_mend_207 a0 x1 x2 x3 x4 x5 x6 T n r w Q  i) ∧ (x7 = 0 → (x5 = (-1 : Int32) → w_X10_mend_207 a0 x1 x2 x3 x4 x5 x6 T n r w Q  i) ∧ (¬ x5 = (-1 : Int32) → Q (-1 : Int32) i))
def w_X10_mend_178 (a0 : Nat) (x1 : Int32) (x2 : Int32) (x3 : Int32) (x4 : Int32) (x5 : Int32) (x6 : Int32) (T : kw_T) (n : Nat) (r : kw_R) (w : kw_L) (Q : Int32 → kw_I → Prop)  (s0 : Int32) (i : kw_I) : Prop :=
  (s0 = 0 → w_X10_mend_194 a0 x1 x2 x3 x4 x5 x6 T n r w Q  s0 i) ∧ (¬ s0 = 0 → w_X10_eats a0 x4 T n r i w (fun v188 i188 => (v188 = 0 → Q (-1 : Int32) i188) ∧ (¬ v188 = 0 → w_X10_mend_194 a0 x1 x2 x3 x4 x5 x6 T n r w Q  s0 i188)))
def w_X10_mend_177 (a0 : Nat) (x1 : Int32) (x2 : Int32) (x3 : Int32) (x4 : Int32) (x5 : Int32) (x6 : Int32) (T : kw_T) (n : Nat) (r : kw_R) (w : kw_L) (Q : Int32 → kw_I → Prop)  (i : kw_I) : Prop :=
  w_X10_mend_178 a0 x1 x2 x3 x4 x5 x6 T n r w Q  ((0 : Int32)) i
def w_X10_mend_162 (a0 : Nat) (x1 : Int32) (x2 : Int32) (x3 : Int32) (x4 : Int32) (x5 : Int32) (x6 : Int32) (T : kw_T) (n : Nat) (r : kw_R) (w : kw_L) (Q : Int32 → kw_I → Prop)  (x7 : Int32) (i : kw_I) : Prop :=
  (x7 = 0 → w_X10_mend_177 a0 x1 x2 x3 x4 x5 x6 T n r w Q  i) ∧ (¬ x7 = 0 → (x4 = (-1 : Int32) → w_X10_mend_177 a0 x1 x2 x3 x4 x5 x6 T n r w Q  i) ∧ (¬ x4 = (-1 : Int32) → w_X10_mend_178 a0 x1 x2 x3 x4 x5 x6 T n r w Q  ((1 : Int32)) i))
def w_X10_mend_143 (a0 : Nat) (x1 : Int32) (x2 : Int32) (x3 : Int32) (x4 : Int32) (x5 : Int32) (x6 : Int32) (T : kw_T) (n : Nat) (r : kw_R) (w : kw_L) (Q : Int32 → kw_I → Prop)  (x7 : Int32) (i : kw_I) : Prop :=
  (¬ x7 = 0 → w_X10_mend_162 a0 x1 x2 x3 x4 x5 x6 T n r w Q  x7 i) ∧ (x7 = 0 → (¬ x4 = (-1 : Int32) → Q (-1 : Int32) i) ∧ (x4 = (-1 : Int32) → (x5 = (-1 : Int32) → w_X10_mend_162 a0 x1 x2 x3 x4 x5 x6 T n r w Q  x7 i) ∧ (¬ x5 = (-1 : Int32) → Q (-1 : Int32) i)))
def w_X10_mend_128 (a0 : Nat) (x1 : Int32) (x2 : Int32) (x3 : Int32) (x4 : Int32) (x5 : Int32) (x6 : Int32) (T : kw_T) (n : Nat) (r : kw_R) (w : kw_L) (Q : Int32 → kw_I → Prop)  (s0 : Int32) (i : kw_I) : Prop :=
  (s0 = 0 → w_X10_mend_143 a0 x1 x2 x3 x4 x5 x6 T n r w Q  s0 i) ∧ (¬ s0 = 0 → w_X10_eats a0 x3 T n r i w (fun v137 i137 => (v137 = 0 → Q (-1 : Int32) i137) ∧ (¬ v137 = 0 → w_X10_mend_143 a0 x1 x2 x3 x4 x5 x6 T n r w Q  s0 i137)))
def w_X10_mend_127 (a0 : Nat) (x1 : Int32) (x2 : Int32) (x3 : Int32) (x4 : Int32) (x5 : Int32) (x6 : Int32) (T : kw_T) (n : Nat) (r : kw_R) (w : kw_L) (Q : Int32 → kw_I → Prop)  (i : kw_I) : Prop :=
  w_X10_mend_128 a0 x1 x2 x3 x4 x5 x6 T n r w Q  ((0 : Int32)) i
def w_X10_mend_113 (a0 : Nat) (x1 : Int32) (x2 : Int32) (x3 : Int32) (x4 : Int32) (x5 : Int32) (x6 : Int32) (T : kw_T) (n : Nat) (r : kw_R) (w : kw_L) (Q : Int32 → kw_I → Prop)  (x7 : Int32) (i : kw_I) : Prop :=
  (x7 = 0 → w_X10_mend_127 a0 x1 x2 x3 x4 x5 x6 T n r w Q  i) ∧ (¬ x7 = 0 → (x3 = (-1 : Int32) → w_X10_mend_127 a0 x1 x2 x3 x4 x5 x6 T n r w Q  i) ∧ (¬ x3 = (-1 : Int32) → w_X10_mend_128 a0 x1 x2 x3 x4 x5 x6 T n r w Q  ((1 : Int32)) i))
def w_X10_mend_89 (a0 : Nat) (x1 : Int32) (x2 : Int32) (x3 : Int32) (x4 : Int32) (x5 : Int32) (x6 : Int32) (T : kw_T) (n : Nat) (r : kw_R) (w : kw_L) (Q : Int32 → kw_I → Prop)  (x7 : Int32) (i : kw_I) : Prop :=
  (¬ x7 = 0 → w_X10_mend_113 a0 x1 x2 x3 x4 x5 x6 T n r w Q  x7 i) ∧ (x7 = 0 → (¬ x3 = (-1 : Int32) → Q (-1 : Int32) i) ∧ (x3 = (-1 : Int32) → (¬ x4 = (-1 : Int32) → Q (-1 : Int32) i) ∧ (x4 = (-1 : Int32) → (x5 = (-1 : Int32) → w_X10_mend_113 a0 x1 x2 x3 x4 x5 x6 T n r w Q  x7 i) ∧ (¬ x5 = (-1 : Int32) → Q (-1 : Int32) i))))
def w_X10_mend_74 (a0 : Nat) (x1 : Int32) (x2 : Int32) (x3 : Int32) (x4 : Int32) (x5 : Int32) (x6 : Int32) (T : kw_T) (n : Nat) (r : kw_R) (w : kw_L) (Q : Int32 → kw_I → Prop)  (s0 : Int32) (i : kw_I) : Prop :=
  (s0 = 0 → w_X10_mend_89 a0 x1 x2 x3 x4 x5 x6 T n r w Q  s0 i) ∧ (¬ s0 = 0 → w_X10_eats a0 x2 T n r i w (fun v83 i83 => (v83 = 0 → Q (-1 : Int32) i83) ∧ (¬ v83 = 0 → w_X10_mend_89 a0 x1 x2 x3 x4 x5 x6 T n r w Q  s0 i83)))
def w_X10_mend_73 (a0 : Nat) (x1 : Int32) (x2 : Int32) (x3 : Int32) (x4 : Int32) (x5 : Int32) (x6 : Int32) (T : kw_T) (n : Nat) (r : kw_R) (w : kw_L) (Q : Int32 → kw_I → Prop)  (i : kw_I) : Prop :=
  w_X10_mend_74 a0 x1 x2 x3 x4 x5 x6 T n r w Q  ((0 : Int32)) i
def w_X10_mend_59 (a0 : Nat) (x1 : Int32) (x2 : Int32) (x3 : Int32) (x4 : Int32) (x5 : Int32) (x6 : Int32) (T : kw_T) (n : Nat) (r : kw_R) (w : kw_L) (Q : Int32 → kw_I → Prop)  (x7 : Int32) (i : kw_I) : Prop :=
  (x7 = 0 → w_X10_mend_73 a0 x1 x2 x3 x4 x5 x6 T n r w Q  i) ∧ (¬ x7 = 0 → (x2 = (-1 : Int32) → w_X10_mend_73 a0 x1 x2 x3 x4 x5 x6 T n r w Q  i) ∧ (¬ x2 = (-1 : Int32) → w_X10_mend_74 a0 x1 x2 x3 x4 x5 x6 T n r w Q  ((1 : Int32)) i))
def w_X10_mend_30 (a0 : Nat) (x1 : Int32) (x2 : Int32) (x3 : Int32) (x4 : Int32) (x5 : Int32) (x6 : Int32) (T : kw_T) (n : Nat) (r : kw_R) (w : kw_L) (Q : Int32 → kw_I → Prop)  (x7 : Int32) (i : kw_I) : Prop :=
  (¬ x7 = 0 → w_X10_mend_59 a0 x1 x2 x3 x4 x5 x6 T n r w Q  x7 i) ∧ (x7 = 0 → (¬ x2 = (-1 : Int32) → Q (-1 : Int32) i) ∧ (x2 = (-1 : Int32) → (¬ x3 = (-1 : Int32) → Q (-1 : Int32) i) ∧ (x3 = (-1 : Int32) → (¬ x4 = (-1 : Int32) → Q (-1 : Int32) i) ∧ (x4 = (-1 : Int32) → (x5 = (-1 : Int32) → w_X10_mend_59 a0 x1 x2 x3 x4 x5 x6 T n r w Q  x7 i) ∧ (¬ x5 = (-1 : Int32) → Q (-1 : Int32) i)))))
def w_X10_mend_15 (a0 : Nat) (x1 : Int32) (x2 : Int32) (x3 : Int32) (x4 : Int32) (x5 : Int32) (x6 : Int32) (T : kw_T) (n : Nat) (r : kw_R) (w : kw_L) (Q : Int32 → kw_I → Prop)  (s0 : Int32) (i : kw_I) : Prop :=
  (s0 = 0 → w_X10_mend_30 a0 x1 x2 x3 x4 x5 x6 T n r w Q  s0 i) ∧ (¬ s0 = 0 → w_X10_eats a0 x1 T n r i w (fun v24 i24 => (v24 = 0 → Q (-1 : Int32) i24) ∧ (¬ v24 = 0 → w_X10_mend_30 a0 x1 x2 x3 x4 x5 x6 T n r w Q  s0 i24)))
def w_X10_mend  (a0 : Nat) (x1 : Int32) (x2 : Int32) (x3 : Int32) (x4 : Int32) (x5 : Int32) (x6 : Int32) (T : kw_T) (n : Nat) (r : kw_R) (i : kw_I) (w : kw_L) (Q : Int32 → kw_I → Prop) : Prop :=
  ∀ i2 : kw_I, i2 = kw_st i a0 35 (0 : Int32) → ((x1 = (-1 : Int32) → w_X10_mend_15 a0 x1 x2 x3 x4 x5 x6 T n r w Q  ((0 : Int32)) i2) ∧ (¬ x1 = (-1 : Int32) → w_X10_mend_15 a0 x1 x2 x3 x4 x5 x6 T n r w Q  ((1 : Int32)) i2))
abbrev rm_X10_mend : Room := { frames := 129, cells := 0, slots := 0, locals := 6253 }
set_option maxHeartbeats 4000000 in
set_option maxRecDepth 100000 in
theorem q_X10_mend_403 {a0 : Nat} {x1 : Int32} {x2 : Int32} {x3 : Int32} {x4 : Int32} {x5 : Int32} {x6 : Int32} {T : kw_T} {n : Nat} {r : kw_R} {w : kw_L} {Q : Int32 → kw_I → Prop} {E : kw_E} {G : kw_G} (hm : kw_m E G cX10_mend 14 RX10 (some .int) rm_X10_mend "mend")  (h0 : T a0 = (0, 10))  {k315 : Int32 → Int32 → Int32 → Int32 → kw_I → Prop} (hk315 : ∀ (x8 : Int32) (x9 : Int32) (x10 : Int32) (x11 : Int32) (i : kw_I), k315 x8 x9 x10 x11 i → kw_K E G 14 0 0 (kw_Z E G 0 0 (kw_PI (fun v T' n' r' i' w' => T = T' ∧ n = n' ∧ r = r' ∧ w = w' ∧ Q v i'))) 315 [(0, kw_a a0), (1, kw_i x1), (2, kw_i x2), (3, kw_i x3), (4, kw_i x4), (5, kw_i x5), (6, kw_i x6), (8, kw_i x8), (9, kw_i x9), (10, kw_i x10), (11, kw_i x11)] [] T n r i w) (x8 : Int32) (x9 : Int32) (x10 : Int32) (x11 : Int32) (i : kw_I) (h : w_X10_mend_403 a0 x1 x2 x3 x4 x5 x6 T n r w Q k315 x8 x9 x10 x11 i) : kw_K E G 14 0 0 (kw_Z E G 0 0 (kw_PI (fun v T' n' r' i' w' => T = T' ∧ n = n' ∧ r = r' ∧ w = w' ∧ Q v i'))) 403 [(0, kw_a a0), (1, kw_i x1), (2, kw_i x2), (3, kw_i x3), (4, kw_i x4), (5, kw_i x5), (6, kw_i x6), (8, kw_i x8), (9, kw_i x9), (10, kw_i x10), (11, kw_i x11)] [] T n r i w := by
  refine kk_iinc (v := (x11 + (1 : Int32))) (L' := [(11, kw_i (x11 + (1 : Int32))), (0, kw_a a0), (1, kw_i x1), (2, kw_i x2), (3, kw_i x3), (4, kw_i x4), (5, kw_i x5), (6, kw_i x6), (8, kw_i x8), (9, kw_i x9), (10, kw_i x10)]) hm.1 10 dX10_mend_403 rfl rfl (by decide) rfl ?_
  refine kk_goto (tgt := 315) hm.1 dX10_mend_406 (by decide) ?_
  refine kk_loc (L' := [(0, kw_a a0), (1, kw_i x1), (2, kw_i x2), (3, kw_i x3), (4, kw_i x4), (5, kw_i x5), (6, kw_i x6), (8, kw_i x8), (9, kw_i x9), (10, kw_i x10), (11, kw_i (x11 + (1 : Int32)))]) [1, 2, 3, 4, 5, 6, 7, 8, 9, 10, 0] rfl ?_
  exact hk315 x8 x9 x10 ((x11 + (1 : Int32))) i h
set_option maxHeartbeats 4000000 in
set_option maxRecDepth 100000 in
theorem q_X10_mend_395 {a0 : Nat} {x1 : Int32} {x2 : Int32} {x3 : Int32} {x4 : Int32} {x5 : Int32} {x6 : Int32} {T : kw_T} {n : Nat} {r : kw_R} {w : kw_L} {Q : Int32 → kw_I → Prop} {E : kw_E} {G : kw_G} (hm : kw_m E G cX10_mend 14 RX10 (some .int) rm_X10_mend "mend")  (h0 : T a0 = (0, 10))  {k315 : Int32 → Int32 → Int32 → Int32 → kw_I → Prop} (hk315 : ∀ (x8 : Int32) (x9 : Int32) (x10 : Int32) (x11 : Int32) (i : kw_I), k315 x8 x9 x10 x11 i → kw_K E G 14 0 0 (kw_Z E G 0 0 (kw_PI (fun v T' n' r' i' w' => T = T' ∧ n = n' ∧ r = r' ∧ w = w' ∧ Q v i'))) 315 [(0, kw_a a0), (1, kw_i x1), (2, kw_i x2), (3, kw_i x3), (4, kw_i x4), (5, kw_i x5), (6, kw_i x6), (8, kw_i x8), (9, kw_i x9), (10, kw_i x10), (11, kw_i x11)] [] T n r i w) (x8 : Int32) (x11 : Int32) (x13 : Int32) (i : kw_I) (h : w_X10_mend_395 a0 x1 x2 x3 x4 x5 x6 T n r w Q k315 x8 x11 x13 i) : kw_K E G 14 0 0 (kw_Z E G 0 0 (kw_PI (fun v T' n' r' i' w' => T = T' ∧ n = n' ∧ r = r' ∧ w = w' ∧ Q v i'))) 395 [(0, kw_a a0), (1, kw_i x1), (2, kw_i x2), (3, kw_i x3), (4, kw_i x4), (5, kw_i x5), (6, kw_i x6), (8, kw_i x8), (11, kw_i x11), (13, kw_i x13)] [] T n r i w := by
  refine kk_iload hm.1 9 dX10_mend_395 rfl ?_
  refine kk_istore (L' := [(10, kw_i x13), (0, kw_a a0), (1, kw_i x1), (2, kw_i x2), (3, kw_i x3), (4, kw_i x4), (5, kw_i x5), (6, kw_i x6), (8, kw_i x8), (11, kw_i x11), (13, kw_i x13)]) hm.1 dX10_mend_397 (by decide) rfl ?_
  refine kk_iload hm.1 9 dX10_mend_399 rfl ?_
  refine kk_istore (L' := [(9, kw_i x11), (10, kw_i x13), (0, kw_a a0), (1, kw_i x1), (2, kw_i x2), (3, kw_i x3), (4, kw_i x4), (5, kw_i x5), (6, kw_i x6), (8, kw_i x8), (11, kw_i x11), (13, kw_i x13)]) hm.1 dX10_mend_401 (by decide) rfl ?_
  refine kk_loc (L' := [(0, kw_a a0), (1, kw_i x1), (2, kw_i x2), (3, kw_i x3), (4, kw_i x4), (5, kw_i x5), (6, kw_i x6), (8, kw_i x8), (9, kw_i x11), (10, kw_i x13), (11, kw_i x11)]) [2, 3, 4, 5, 6, 7, 8, 9, 0, 1, 10] rfl ?_
  exact q_X10_mend_403 hm  h0  hk315 x8 x11 x13 x11 i h
set_option maxHeartbeats 4000000 in
set_option maxRecDepth 100000 in
theorem qs_X10_mend_334 {a0 : Nat} {x1 : Int32} {x2 : Int32} {x3 : Int32} {x4 : Int32} {x5 : Int32} {x6 : Int32} {T : kw_T} {n : Nat} {r : kw_R} {w : kw_L} {Q : Int32 → kw_I → Prop} {E : kw_E} {G : kw_G} (hm : kw_m E G cX10_mend 14 RX10 (some .int) rm_X10_mend "mend")  (h0 : T a0 = (0, 10))  {k315 : Int32 → Int32 → Int32 → Int32 → kw_I → Prop} (hk315 : ∀ (x8 : Int32) (x9 : Int32) (x10 : Int32) (x11 : Int32) (i : kw_I), k315 x8 x9 x10 x11 i → kw_K E G 14 0 0 (kw_Z E G 0 0 (kw_PI (fun v T' n' r' i' w' => T = T' ∧ n = n' ∧ r = r' ∧ w = w' ∧ Q v i'))) 315 [(0, kw_a a0), (1, kw_i x1), (2, kw_i x2), (3, kw_i x3), (4, kw_i x4), (5, kw_i x5), (6, kw_i x6), (8, kw_i x8), (9, kw_i x9), (10, kw_i x10), (11, kw_i x11)] [] T n r i w) {k334 : Int32 → Int32 → Int32 → Int32 → Int32 → Int32 → kw_I → Prop} (hk334 : ∀ (x8 : Int32) (x9 : Int32) (x10 : Int32) (x11 : Int32) (x12 : Int32) (x13 : Int32) (i : kw_I), k334 x8 x9 x10 x11 x12 x13 i → kw_K E G 14 0 0 (kw_Z E G 0 0 (kw_PI (fun v T' n' r' i' w' => T = T' ∧ n = n' ∧ r = r' ∧ w = w' ∧ Q v i'))) 334 [(0, kw_a a0), (1, kw_i x1), (2, kw_i x2), (3, kw_i x3), (4, kw_i x4), (5, kw_i x5), (6, kw_i x6), (8, kw_i x8), (9, kw_i x9), (10, kw_i x10), (11, kw_i x11), (12, kw_i x12), (13, kw_i x13)] [] T n r i w) (x8 : Int32) (x9 : Int32) (x10 : Int32) (x11 : Int32) (x12 : Int32) (x13 : Int32) (i : kw_I) (h : s_X10_mend_334 a0 x1 x2 x3 x4 x5 x6 T n r w Q k315 k334 x8 x9 x10 x11 x12 x13 i) : kw_K E G 14 0 0 (kw_Z E G 0 0 (kw_PI (fun v T' n' r' i' w' => T = T' ∧ n = n' ∧ r = r' ∧ w = w' ∧ Q v i'))) 334 [(0, kw_a a0), (1, kw_i x1), (2, kw_i x2), (3, kw_i x3), (4, kw_i x4), (5, kw_i x5), (6, kw_i x6), (8, kw_i x8), (9, kw_i x9), (10, kw_i x10), (11, kw_i x11), (12, kw_i x12), (13, kw_i x13)] [] T n r i w := by
  refine kk_iload hm.1 12 dX10_mend_334 rfl ?_
  refine kk_if_lt (tgt := 369) hm.1 dX10_mend_336 (by decide) (fun c336 => ?_) (fun c336 => ?_)
  · have h := h.1 c336
    refine kk_aload_n hm.1 0 dX10_mend_369 rfl rfl ?_
    refine kk_getR hm.1 ff_X10_70 dX10_mend_370 h0 ?_
    refine kk_iconst (v := (0 : Int32)) hm.1 dX10_mend_373 (by decide) ?_
    refine kk_callSi (cs' := 0) (sl' := 0) (st := []) hm.1 cs_X10_303 (t_X10_seamsOf h) dX10_mend_374 rfl hm.2.2.1 ⟨by decide, by decide⟩ ⟨by decide, by decide⟩ rfl rfl (Nat.le_of_ble_eq_true rfl) rfl ?_
    rintro v374 _ _ _ _ _ ⟨rfl, rfl, rfl, rfl, rfl, h⟩
    refine kk_istore (L' := [(13, kw_i v374), (0, kw_a a0), (1, kw_i x1), (2, kw_i x2), (3, kw_i x3), (4, kw_i x4), (5, kw_i x5), (6, kw_i x6), (8, kw_i x8), (9, kw_i x9), (10, kw_i x10), (11, kw_i x11), (12, kw_i x12)]) hm.1 dX10_mend_377 (by decide) rfl ?_
    refine kk_iload hm.1 9 dX10_mend_379 rfl ?_
    refine kk_iconst (v := (-1 : Int32)) hm.1 dX10_mend_381 (by decide) ?_
    refine kk_icmp_eq (tgt := 395) hm.1 dX10_mend_382 (by decide) (fun c382 => ?_) (fun c382 => ?_)
    · have h := h.1 c382
      refine kk_loc (L' := [(0, kw_a a0), (1, kw_i x1), (2, kw_i x2), (3, kw_i x3), (4, kw_i x4), (5, kw_i x5), (6, kw_i x6), (8, kw_i x8), (11, kw_i x11), (13, kw_i v374)]) [1, 2, 3, 4, 5, 6, 7, 8, 11, 0] rfl ?_
      exact q_X10_mend_395 hm  h0  hk315 x8 x11 v374 i h
    · have h := h.2 c382
      refine kk_iload hm.1 0 dX10_mend_385 rfl ?_
      refine kk_iload hm.1 10 dX10_mend_387 rfl ?_
      refine kk_icmp_lt (tgt := 395) hm.1 dX10_mend_389 (by decide) (fun c389 => ?_) (fun c389 => ?_)
      · have h := h.1 c389
        refine kk_loc (L' := [(0, kw_a a0), (1, kw_i x1), (2, kw_i x2), (3, kw_i x3), (4, kw_i x4), (5, kw_i x5), (6, kw_i x6), (8, kw_i x8), (11, kw_i x11), (13, kw_i v374)]) [1, 2, 3, 4, 5, 6, 7, 8, 11, 0] rfl ?_
        exact q_X10_mend_395 hm  h0  hk315 x8 x11 v374 i h
      · have h := h.2 c389
        refine kk_goto (tgt := 403) hm.1 dX10_mend_392 (by decide) ?_
        refine kk_loc (L' := [(0, kw_a a0), (1, kw_i x1), (2, kw_i x2), (3, kw_i x3), (4, kw_i x4), (5, kw_i x5), (6, kw_i x6), (8, kw_i x8), (9, kw_i x9), (10, kw_i x10), (11, kw_i x11)]) [1, 2, 3, 4, 5, 6, 7, 8, 9, 10, 11] rfl ?_
        exact q_X10_mend_403 hm  h0  hk315 x8 x9 x10 x11 i h
  · have h := h.2 c336
    refine kk_aload_n hm.1 0 dX10_mend_339 rfl rfl ?_
    refine kk_getR hm.1 ff_X10_70 dX10_mend_340 h0 ?_
    refine kk_aload_n hm.1 0 dX10_mend_343 rfl rfl ?_
    refine kk_getR hm.1 ff_X10_67 dX10_mend_344 h0 ?_
    refine kk_iload hm.1 12 dX10_mend_347 rfl ?_
    obtain ⟨o349, h⟩ := h
    refine kk_iaload hm.1 dX10_mend_349 o349 ?_
    refine kk_iload hm.1 11 dX10_mend_350 rfl ?_
    refine kk_bipush (v := (8 : Int32)) hm.1 dX10_mend_352 (by decide) ?_
    refine kk_irem hm.1 dX10_mend_354 (by decide) ?_
    obtain ⟨o355, h⟩ := h
    refine kn_iastore hm.1 dX10_mend_355 o355 (fun i355 e355 => ?_)
    have h := h i355 e355
    refine kk_iload hm.1 11 dX10_mend_356 rfl ?_
    refine kk_bipush (v := (8 : Int32)) hm.1 dX10_mend_358 (by decide) ?_
    refine kk_idiv hm.1 dX10_mend_360 (by decide) ?_
    refine kk_istore (L' := [(12, kw_i (x12 / (8 : Int32))), (0, kw_a a0), (1, kw_i x1), (2, kw_i x2), (3, kw_i x3), (4, kw_i x4), (5, kw_i x5), (6, kw_i x6), (8, kw_i x8), (9, kw_i x9), (10, kw_i x10), (11, kw_i x11), (13, kw_i x13)]) hm.1 dX10_mend_361 (by decide) rfl ?_
    refine kk_iinc (v := (x13 + (-1 : Int32))) (L' := [(13, kw_i (x13 + (-1 : Int32))), (12, kw_i (x12 / (8 : Int32))), (0, kw_a a0), (1, kw_i x1), (2, kw_i x2), (3, kw_i x3), (4, kw_i x4), (5, kw_i x5), (6, kw_i x6), (8, kw_i x8), (9, kw_i x9), (10, kw_i x10), (11, kw_i x11)]) hm.1 12 dX10_mend_363 rfl rfl (by decide) rfl ?_
    refine kk_goto (tgt := 334) hm.1 dX10_mend_366 (by decide) ?_
    refine kk_loc (L' := [(0, kw_a a0), (1, kw_i x1), (2, kw_i x2), (3, kw_i x3), (4, kw_i x4), (5, kw_i x5), (6, kw_i x6), (8, kw_i x8), (9, kw_i x9), (10, kw_i x10), (11, kw_i x11), (12, kw_i (x12 / (8 : Int32))), (13, kw_i (x13 + (-1 : Int32)))]) [2, 3, 4, 5, 6, 7, 8, 9, 10, 11, 12, 1, 0] rfl ?_
    exact hk334 x8 x9 x10 x11 ((x12 / (8 : Int32))) ((x13 + (-1 : Int32))) i355 h
set_option maxHeartbeats 4000000 in
set_option maxRecDepth 100000 in
theorem q_X10_mend_334 {a0 : Nat} {x1 : Int32} {x2 : Int32} {x3 : Int32} {x4 : Int32} {x5 : Int32} {x6 : Int32} {T : kw_T} {n : Nat} {r : kw_R} {w : kw_L} {Q : Int32 → kw_I → Prop} {E : kw_E} {G : kw_G} (hm : kw_m E G cX10_mend 14 RX10 (some .int) rm_X10_mend "mend")  (h0 : T a0 = (0, 10))  {k315 : Int32 → Int32 → Int32 → Int32 → kw_I → Prop} (hk315 : ∀ (x8 : Int32) (x9 : Int32) (x10 : Int32) (x11 : Int32) (i : kw_I), k315 x8 x9 x10 x11 i → kw_K E G 14 0 0 (kw_Z E G 0 0 (kw_PI (fun v T' n' r' i' w' => T = T' ∧ n = n' ∧ r = r' ∧ w = w' ∧ Q v i'))) 315 [(0, kw_a a0), (1, kw_i x1), (2, kw_i x2), (3, kw_i x3), (4, kw_i x4), (5, kw_i x5), (6, kw_i x6), (8, kw_i x8), (9, kw_i x9), (10, kw_i x10), (11, kw_i x11)] [] T n r i w) : ∀ (N : Nat) (x8 : Int32) (x9 : Int32) (x10 : Int32) (x11 : Int32) (x12 : Int32) (x13 : Int32) (i : kw_I), w_X10_mend_334 a0 x1 x2 x3 x4 x5 x6 T n r w Q k315 N x8 x9 x10 x11 x12 x13 i → kw_K E G 14 0 0 (kw_Z E G 0 0 (kw_PI (fun v T' n' r' i' w' => T = T' ∧ n = n' ∧ r = r' ∧ w = w' ∧ Q v i'))) 334 [(0, kw_a a0), (1, kw_i x1), (2, kw_i x2), (3, kw_i x3), (4, kw_i x4), (5, kw_i x5), (6, kw_i x6), (8, kw_i x8), (9, kw_i x9), (10, kw_i x10), (11, kw_i x11), (12, kw_i x12), (13, kw_i x13)] [] T n r i w := by
  intro N
  induction N with
  | zero => intro x8 x9 x10 x11 x12 x13 i h; exact h.elim
  | succ N ih => intro x8 x9 x10 x11 x12 x13 i h; exact qs_X10_mend_334 hm  h0 hk315 ih x8 x9 x10 x11 x12 x13 i h
set_option maxHeartbeats 4000000 in
set_option maxRecDepth 100000 in
theorem qs_X10_mend_423 {a0 : Nat} {x1 : Int32} {x2 : Int32} {x3 : Int32} {x4 : Int32} {x5 : Int32} {x6 : Int32} {T : kw_T} {n : Nat} {r : kw_R} {w : kw_L} {Q : Int32 → kw_I → Prop} {E : kw_E} {G : kw_G} (hm : kw_m E G cX10_mend 14 RX10 (some .int) rm_X10_mend "mend")  (h0 : T a0 = (0, 10))    {k423 : Int32 → Int32 → kw_I → Prop} (hk423 : ∀ (x9 : Int32) (x11 : Int32) (i : kw_I), k423 x9 x11 i → kw_K E G 14 0 0 (kw_Z E G 0 0 (kw_PI (fun v T' n' r' i' w' => T = T' ∧ n = n' ∧ r = r' ∧ w = w' ∧ Q v i'))) 423 [(0, kw_a a0), (1, kw_i x1), (2, kw_i x2), (3, kw_i x3), (4, kw_i x4), (5, kw_i x5), (6, kw_i x6), (9, kw_i x9), (11, kw_i x11)] [] T n r i w) (x9 : Int32) (x11 : Int32) (i : kw_I) (h : s_X10_mend_423 a0 x1 x2 x3 x4 x5 x6 T n r w Q  k423 x9 x11 i) : kw_K E G 14 0 0 (kw_Z E G 0 0 (kw_PI (fun v T' n' r' i' w' => T = T' ∧ n = n' ∧ r = r' ∧ w = w' ∧ Q v i'))) 423 [(0, kw_a a0), (1, kw_i x1), (2, kw_i x2), (3, kw_i x3), (4, kw_i x4), (5, kw_i x5), (6, kw_i x6), (9, kw_i x9), (11, kw_i x11)] [] T n r i w := by
  refine kk_iload hm.1 8 dX10_mend_423 rfl ?_
  refine kk_iload hm.1 6 dX10_mend_425 rfl ?_
  refine kk_icmp_le (tgt := 443) hm.1 dX10_mend_427 (by decide) (fun c427 => ?_) (fun c427 => ?_)
  · have h := h.1 c427
    refine kk_iload hm.1 7 dX10_mend_443 rfl ?_
    refine kk_bipush (v := (8 : Int32)) hm.1 dX10_mend_445 (by decide) ?_
    refine kk_irem hm.1 dX10_mend_447 (by decide) ?_
    exact kk_iret hm.1 hm.2.1 dX10_mend_448 ⟨_, rfl, rfl, rfl, rfl, rfl, h⟩
  · have h := h.2 c427
    refine kk_iload hm.1 7 dX10_mend_430 rfl ?_
    refine kk_bipush (v := (8 : Int32)) hm.1 dX10_mend_432 (by decide) ?_
    refine kk_idiv hm.1 dX10_mend_434 (by decide) ?_
    refine kk_istore (L' := [(9, kw_i (x9 / (8 : Int32))), (0, kw_a a0), (1, kw_i x1), (2, kw_i x2), (3, kw_i x3), (4, kw_i x4), (5, kw_i x5), (6, kw_i x6), (11, kw_i x11)]) hm.1 dX10_mend_435 (by decide) rfl ?_
    refine kk_iinc (v := (x11 + (-1 : Int32))) (L' := [(11, kw_i (x11 + (-1 : Int32))), (9, kw_i (x9 / (8 : Int32))), (0, kw_a a0), (1, kw_i x1), (2, kw_i x2), (3, kw_i x3), (4, kw_i x4), (5, kw_i x5), (6, kw_i x6)]) hm.1 8 dX10_mend_437 rfl rfl (by decide) rfl ?_
    refine kk_goto (tgt := 423) hm.1 dX10_mend_440 (by decide) ?_
    refine kk_loc (L' := [(0, kw_a a0), (1, kw_i x1), (2, kw_i x2), (3, kw_i x3), (4, kw_i x4), (5, kw_i x5), (6, kw_i x6), (9, kw_i (x9 / (8 : Int32))), (11, kw_i (x11 + (-1 : Int32)))]) [2, 3, 4, 5, 6, 7, 8, 1, 0] rfl ?_
    exact hk423 ((x9 / (8 : Int32))) ((x11 + (-1 : Int32))) i h
set_option maxHeartbeats 4000000 in
set_option maxRecDepth 100000 in
theorem q_X10_mend_423 {a0 : Nat} {x1 : Int32} {x2 : Int32} {x3 : Int32} {x4 : Int32} {x5 : Int32} {x6 : Int32} {T : kw_T} {n : Nat} {r : kw_R} {w : kw_L} {Q : Int32 → kw_I → Prop} {E : kw_E} {G : kw_G} (hm : kw_m E G cX10_mend 14 RX10 (some .int) rm_X10_mend "mend")  (h0 : T a0 = (0, 10))    : ∀ (N : Nat) (x9 : Int32) (x11 : Int32) (i : kw_I), w_X10_mend_423 a0 x1 x2 x3 x4 x5 x6 T n r w Q  N x9 x11 i → kw_K E G 14 0 0 (kw_Z E G 0 0 (kw_PI (fun v T' n' r' i' w' => T = T' ∧ n = n' ∧ r = r' ∧ w = w' ∧ Q v i'))) 423 [(0, kw_a a0), (1, kw_i x1), (2, kw_i x2), (3, kw_i x3), (4, kw_i x4), (5, kw_i x5), (6, kw_i x6), (9, kw_i x9), (11, kw_i x11)] [] T n r i w := by
  intro N
  induction N with
  | zero => intro x9 x11 i h; exact h.elim
  | succ N ih => intro x9 x11 i h; exact qs_X10_mend_423 hm  h0  ih x9 x11 i h
set_option maxHeartbeats 4000000 in
set_option maxRecDepth 100000 in
theorem qs_X10_mend_315 {a0 : Nat} {x1 : Int32} {x2 : Int32} {x3 : Int32} {x4 : Int32} {x5 : Int32} {x6 : Int32} {T : kw_T} {n : Nat} {r : kw_R} {w : kw_L} {Q : Int32 → kw_I → Prop} {E : kw_E} {G : kw_G} (hm : kw_m E G cX10_mend 14 RX10 (some .int) rm_X10_mend "mend")  (h0 : T a0 = (0, 10))    {k315 : Int32 → Int32 → Int32 → Int32 → kw_I → Prop} (hk315 : ∀ (x8 : Int32) (x9 : Int32) (x10 : Int32) (x11 : Int32) (i : kw_I), k315 x8 x9 x10 x11 i → kw_K E G 14 0 0 (kw_Z E G 0 0 (kw_PI (fun v T' n' r' i' w' => T = T' ∧ n = n' ∧ r = r' ∧ w = w' ∧ Q v i'))) 315 [(0, kw_a a0), (1, kw_i x1), (2, kw_i x2), (3, kw_i x3), (4, kw_i x4), (5, kw_i x5), (6, kw_i x6), (8, kw_i x8), (9, kw_i x9), (10, kw_i x10), (11, kw_i x11)] [] T n r i w) (x8 : Int32) (x9 : Int32) (x10 : Int32) (x11 : Int32) (i : kw_I) (h : s_X10_mend_315 a0 x1 x2 x3 x4 x5 x6 T n r w Q  k315 x8 x9 x10 x11 i) : kw_K E G 14 0 0 (kw_Z E G 0 0 (kw_PI (fun v T' n' r' i' w' => T = T' ∧ n = n' ∧ r = r' ∧ w = w' ∧ Q v i'))) 315 [(0, kw_a a0), (1, kw_i x1), (2, kw_i x2), (3, kw_i x3), (4, kw_i x4), (5, kw_i x5), (6, kw_i x6), (8, kw_i x8), (9, kw_i x9), (10, kw_i x10), (11, kw_i x11)] [] T n r i w := by
  refine kk_iload hm.1 10 dX10_mend_315 rfl ?_
  refine kk_iload hm.1 7 dX10_mend_317 rfl ?_
  refine kk_icmp_ge (tgt := 409) hm.1 dX10_mend_319 (by decide) (fun c319 => ?_) (fun c319 => ?_)
  · have h := h.1 c319
    refine kk_iload hm.1 6 dX10_mend_409 rfl ?_
    refine kk_if_ne (tgt := 417) hm.1 dX10_mend_411 (by decide) (fun c411 => ?_) (fun c411 => ?_)
    · have h := h.1 c411
      refine kk_aload_n hm.1 0 dX10_mend_417 rfl rfl ?_
      refine kk_getI hm.1 ff_X10_307 dX10_mend_418 h0 ?_
      refine kk_istore (L' := [(11, kw_i (i a0 35)), (0, kw_a a0), (1, kw_i x1), (2, kw_i x2), (3, kw_i x3), (4, kw_i x4), (5, kw_i x5), (6, kw_i x6), (8, kw_i x8), (9, kw_i x9), (10, kw_i x10)]) hm.1 dX10_mend_421 (by decide) rfl ?_
      refine kk_loc (L' := [(0, kw_a a0), (1, kw_i x1), (2, kw_i x2), (3, kw_i x3), (4, kw_i x4), (5, kw_i x5), (6, kw_i x6), (9, kw_i x9), (11, kw_i (i a0 35))]) [1, 2, 3, 4, 5, 6, 7, 9, 0] rfl ?_
      obtain ⟨N, h⟩ := h
      exact q_X10_mend_423 hm  h0   N x9 ((i a0 35)) i h
    · have h := h.2 c411
      refine kk_iload hm.1 9 dX10_mend_414 rfl ?_
      exact kk_iret hm.1 hm.2.1 dX10_mend_416 ⟨_, rfl, rfl, rfl, rfl, rfl, h⟩
  · have h := h.2 c319
    refine kk_iload hm.1 10 dX10_mend_322 rfl ?_
    refine kk_istore (L' := [(12, kw_i x11), (0, kw_a a0), (1, kw_i x1), (2, kw_i x2), (3, kw_i x3), (4, kw_i x4), (5, kw_i x5), (6, kw_i x6), (8, kw_i x8), (9, kw_i x9), (10, kw_i x10), (11, kw_i x11)]) hm.1 dX10_mend_324 (by decide) rfl ?_
    refine kk_aload_n hm.1 1 dX10_mend_326 rfl rfl ?_
    refine kk_getI hm.1 ff_X10_307 dX10_mend_327 h0 ?_
    refine kk_iconst (v := (1 : Int32)) hm.1 dX10_mend_330 (by decide) ?_
    refine kk_isub hm.1 dX10_mend_331 ?_
    refine kk_istore (L' := [(13, kw_i ((i a0 35) - (1 : Int32))), (12, kw_i x11), (0, kw_a a0), (1, kw_i x1), (2, kw_i x2), (3, kw_i x3), (4, kw_i x4), (5, kw_i x5), (6, kw_i x6), (8, kw_i x8), (9, kw_i x9), (10, kw_i x10), (11, kw_i x11)]) hm.1 dX10_mend_332 (by decide) rfl ?_
    refine kk_loc (L' := [(0, kw_a a0), (1, kw_i x1), (2, kw_i x2), (3, kw_i x3), (4, kw_i x4), (5, kw_i x5), (6, kw_i x6), (8, kw_i x8), (9, kw_i x9), (10, kw_i x10), (11, kw_i x11), (12, kw_i x11), (13, kw_i ((i a0 35) - (1 : Int32)))]) [2, 3, 4, 5, 6, 7, 8, 9, 10, 11, 12, 1, 0] rfl ?_
    obtain ⟨N, h⟩ := h
    exact q_X10_mend_334 hm  h0  hk315 N x8 x9 x10 x11 x11 (((i a0 35) - (1 : Int32))) i h
set_option maxHeartbeats 4000000 in
set_option maxRecDepth 100000 in
theorem q_X10_mend_315 {a0 : Nat} {x1 : Int32} {x2 : Int32} {x3 : Int32} {x4 : Int32} {x5 : Int32} {x6 : Int32} {T : kw_T} {n : Nat} {r : kw_R} {w : kw_L} {Q : Int32 → kw_I → Prop} {E : kw_E} {G : kw_G} (hm : kw_m E G cX10_mend 14 RX10 (some .int) rm_X10_mend "mend")  (h0 : T a0 = (0, 10))    : ∀ (N : Nat) (x8 : Int32) (x9 : Int32) (x10 : Int32) (x11 : Int32) (i : kw_I), w_X10_mend_315 a0 x1 x2 x3 x4 x5 x6 T n r w Q  N x8 x9 x10 x11 i → kw_K E G 14 0 0 (kw_Z E G 0 0 (kw_PI (fun v T' n' r' i' w' => T = T' ∧ n = n' ∧ r = r' ∧ w = w' ∧ Q v i'))) 315 [(0, kw_a a0), (1, kw_i x1), (2, kw_i x2), (3, kw_i x3), (4, kw_i x4), (5, kw_i x5), (6, kw_i x6), (8, kw_i x8), (9, kw_i x9), (10, kw_i x10), (11, kw_i x11)] [] T n r i w := by
  intro N
  induction N with
  | zero => intro x8 x9 x10 x11 i h; exact h.elim
  | succ N ih => intro x8 x9 x10 x11 i h; exact qs_X10_mend_315 hm  h0  ih x8 x9 x10 x11 i h
set_option maxHeartbeats 4000000 in
set_option maxRecDepth 100000 in
theorem qs_X10_mend_284 {a0 : Nat} {x1 : Int32} {x2 : Int32} {x3 : Int32} {x4 : Int32} {x5 : Int32} {x6 : Int32} {T : kw_T} {n : Nat} {r : kw_R} {w : kw_L} {Q : Int32 → kw_I → Prop} {E : kw_E} {G : kw_G} (hm : kw_m E G cX10_mend 14 RX10 (some .int) rm_X10_mend "mend")  (h0 : T a0 = (0, 10))    {k284 : Int32 → Int32 → kw_I → Prop} (hk284 : ∀ (x8 : Int32) (x9 : Int32) (i : kw_I), k284 x8 x9 i → kw_K E G 14 0 0 (kw_Z E G 0 0 (kw_PI (fun v T' n' r' i' w' => T = T' ∧ n = n' ∧ r = r' ∧ w = w' ∧ Q v i'))) 284 [(0, kw_a a0), (1, kw_i x1), (2, kw_i x2), (3, kw_i x3), (4, kw_i x4), (5, kw_i x5), (6, kw_i x6), (8, kw_i x8), (9, kw_i x9)] [] T n r i w) (x8 : Int32) (x9 : Int32) (i : kw_I) (h : s_X10_mend_284 a0 x1 x2 x3 x4 x5 x6 T n r w Q  k284 x8 x9 i) : kw_K E G 14 0 0 (kw_Z E G 0 0 (kw_PI (fun v T' n' r' i' w' => T = T' ∧ n = n' ∧ r = r' ∧ w = w' ∧ Q v i'))) 284 [(0, kw_a a0), (1, kw_i x1), (2, kw_i x2), (3, kw_i x3), (4, kw_i x4), (5, kw_i x5), (6, kw_i x6), (8, kw_i x8), (9, kw_i x9)] [] T n r i w := by
  refine kk_iload hm.1 8 dX10_mend_284 rfl ?_
  refine kk_aload_n hm.1 0 dX10_mend_286 rfl rfl ?_
  refine kk_getI hm.1 ff_X10_307 dX10_mend_287 h0 ?_
  refine kk_icmp_ge (tgt := 306) hm.1 dX10_mend_290 (by decide) (fun c290 => ?_) (fun c290 => ?_)
  · have h := h.1 c290
    refine kk_iconst (v := (-1 : Int32)) hm.1 dX10_mend_306 (by decide) ?_
    refine kk_istore (L' := [(9, kw_i (-1 : Int32)), (0, kw_a a0), (1, kw_i x1), (2, kw_i x2), (3, kw_i x3), (4, kw_i x4), (5, kw_i x5), (6, kw_i x6), (8, kw_i x8)]) hm.1 dX10_mend_307 (by decide) rfl ?_
    refine kk_iconst (v := (0 : Int32)) hm.1 dX10_mend_309 (by decide) ?_
    refine kk_istore (L' := [(10, kw_i (0 : Int32)), (9, kw_i (-1 : Int32)), (0, kw_a a0), (1, kw_i x1), (2, kw_i x2), (3, kw_i x3), (4, kw_i x4), (5, kw_i x5), (6, kw_i x6), (8, kw_i x8)]) hm.1 dX10_mend_310 (by decide) rfl ?_
    refine kk_iconst (v := (0 : Int32)) hm.1 dX10_mend_312 (by decide) ?_
    refine kk_istore (L' := [(11, kw_i (0 : Int32)), (10, kw_i (0 : Int32)), (9, kw_i (-1 : Int32)), (0, kw_a a0), (1, kw_i x1), (2, kw_i x2), (3, kw_i x3), (4, kw_i x4), (5, kw_i x5), (6, kw_i x6), (8, kw_i x8)]) hm.1 dX10_mend_313 (by decide) rfl ?_
    refine kk_loc (L' := [(0, kw_a a0), (1, kw_i x1), (2, kw_i x2), (3, kw_i x3), (4, kw_i x4), (5, kw_i x5), (6, kw_i x6), (8, kw_i x8), (9, kw_i (-1 : Int32)), (10, kw_i (0 : Int32)), (11, kw_i (0 : Int32))]) [3, 4, 5, 6, 7, 8, 9, 10, 2, 1, 0] rfl ?_
    obtain ⟨N, h⟩ := h
    exact q_X10_mend_315 hm  h0   N x8 ((-1 : Int32)) ((0 : Int32)) ((0 : Int32)) i h
  · have h := h.2 c290
    refine kk_iload hm.1 7 dX10_mend_293 rfl ?_
    refine kk_bipush (v := (8 : Int32)) hm.1 dX10_mend_295 (by decide) ?_
    refine kk_imul hm.1 dX10_mend_297 ?_
    refine kk_istore (L' := [(8, kw_i (x8 * (8 : Int32))), (0, kw_a a0), (1, kw_i x1), (2, kw_i x2), (3, kw_i x3), (4, kw_i x4), (5, kw_i x5), (6, kw_i x6), (9, kw_i x9)]) hm.1 dX10_mend_298 (by decide) rfl ?_
    refine kk_iinc (v := (x9 + (1 : Int32))) (L' := [(9, kw_i (x9 + (1 : Int32))), (8, kw_i (x8 * (8 : Int32))), (0, kw_a a0), (1, kw_i x1), (2, kw_i x2), (3, kw_i x3), (4, kw_i x4), (5, kw_i x5), (6, kw_i x6)]) hm.1 8 dX10_mend_300 rfl rfl (by decide) rfl ?_
    refine kk_goto (tgt := 284) hm.1 dX10_mend_303 (by decide) ?_
    refine kk_loc (L' := [(0, kw_a a0), (1, kw_i x1), (2, kw_i x2), (3, kw_i x3), (4, kw_i x4), (5, kw_i x5), (6, kw_i x6), (8, kw_i (x8 * (8 : Int32))), (9, kw_i (x9 + (1 : Int32)))]) [2, 3, 4, 5, 6, 7, 8, 1, 0] rfl ?_
    exact hk284 ((x8 * (8 : Int32))) ((x9 + (1 : Int32))) i h
set_option maxHeartbeats 4000000 in
set_option maxRecDepth 100000 in
theorem q_X10_mend_284 {a0 : Nat} {x1 : Int32} {x2 : Int32} {x3 : Int32} {x4 : Int32} {x5 : Int32} {x6 : Int32} {T : kw_T} {n : Nat} {r : kw_R} {w : kw_L} {Q : Int32 → kw_I → Prop} {E : kw_E} {G : kw_G} (hm : kw_m E G cX10_mend 14 RX10 (some .int) rm_X10_mend "mend")  (h0 : T a0 = (0, 10))    : ∀ (N : Nat) (x8 : Int32) (x9 : Int32) (i : kw_I), w_X10_mend_284 a0 x1 x2 x3 x4 x5 x6 T n r w Q  N x8 x9 i → kw_K E G 14 0 0 (kw_Z E G 0 0 (kw_PI (fun v T' n' r' i' w' => T = T' ∧ n = n' ∧ r = r' ∧ w = w' ∧ Q v i'))) 284 [(0, kw_a a0), (1, kw_i x1), (2, kw_i x2), (3, kw_i x3), (4, kw_i x4), (5, kw_i x5), (6, kw_i x6), (8, kw_i x8), (9, kw_i x9)] [] T n r i w := by
  intro N
  induction N with
  | zero => intro x8 x9 i h; exact h.elim
  | succ N ih => intro x8 x9 i h; exact qs_X10_mend_284 hm  h0  ih x8 x9 i h
set_option maxHeartbeats 4000000 in
set_option maxRecDepth 100000 in
theorem qs_X10_mend_246 {a0 : Nat} {x1 : Int32} {x2 : Int32} {x3 : Int32} {x4 : Int32} {x5 : Int32} {x6 : Int32} {T : kw_T} {n : Nat} {r : kw_R} {w : kw_L} {Q : Int32 → kw_I → Prop} {E : kw_E} {G : kw_G} (hm : kw_m E G cX10_mend 14 RX10 (some .int) rm_X10_mend "mend")  (h0 : T a0 = (0, 10))    {k246 : Int32 → kw_I → Prop} (hk246 : ∀ (x8 : Int32) (i : kw_I), k246 x8 i → kw_K E G 14 0 0 (kw_Z E G 0 0 (kw_PI (fun v T' n' r' i' w' => T = T' ∧ n = n' ∧ r = r' ∧ w = w' ∧ Q v i'))) 246 [(0, kw_a a0), (1, kw_i x1), (2, kw_i x2), (3, kw_i x3), (4, kw_i x4), (5, kw_i x5), (6, kw_i x6), (8, kw_i x8)] [] T n r i w) (x8 : Int32) (i : kw_I) (h : s_X10_mend_246 a0 x1 x2 x3 x4 x5 x6 T n r w Q  k246 x8 i) : kw_K E G 14 0 0 (kw_Z E G 0 0 (kw_PI (fun v T' n' r' i' w' => T = T' ∧ n = n' ∧ r = r' ∧ w = w' ∧ Q v i'))) 246 [(0, kw_a a0), (1, kw_i x1), (2, kw_i x2), (3, kw_i x3), (4, kw_i x4), (5, kw_i x5), (6, kw_i x6), (8, kw_i x8)] [] T n r i w := by
  refine kk_iload hm.1 7 dX10_mend_246 rfl ?_
  refine kk_bipush (v := (36 : Int32)) hm.1 dX10_mend_248 (by decide) ?_
  refine kk_icmp_ge (tgt := 278) hm.1 dX10_mend_250 (by decide) (fun c250 => ?_) (fun c250 => ?_)
  · have h := h.1 c250
    refine kk_iconst (v := (1 : Int32)) hm.1 dX10_mend_278 (by decide) ?_
    refine kk_istore (L' := [(8, kw_i (1 : Int32)), (0, kw_a a0), (1, kw_i x1), (2, kw_i x2), (3, kw_i x3), (4, kw_i x4), (5, kw_i x5), (6, kw_i x6)]) hm.1 dX10_mend_279 (by decide) rfl ?_
    refine kk_iconst (v := (0 : Int32)) hm.1 dX10_mend_281 (by decide) ?_
    refine kk_istore (L' := [(9, kw_i (0 : Int32)), (8, kw_i (1 : Int32)), (0, kw_a a0), (1, kw_i x1), (2, kw_i x2), (3, kw_i x3), (4, kw_i x4), (5, kw_i x5), (6, kw_i x6)]) hm.1 dX10_mend_282 (by decide) rfl ?_
    refine kk_loc (L' := [(0, kw_a a0), (1, kw_i x1), (2, kw_i x2), (3, kw_i x3), (4, kw_i x4), (5, kw_i x5), (6, kw_i x6), (8, kw_i (1 : Int32)), (9, kw_i (0 : Int32))]) [2, 3, 4, 5, 6, 7, 8, 1, 0] rfl ?_
    obtain ⟨N, h⟩ := h
    exact q_X10_mend_284 hm  h0   N ((1 : Int32)) ((0 : Int32)) i h
  · have h := h.2 c250
    refine kk_aload_n hm.1 0 dX10_mend_253 rfl rfl ?_
    refine kk_getR hm.1 ff_X10_70 dX10_mend_254 h0 ?_
    refine kk_iload hm.1 7 dX10_mend_257 rfl ?_
    refine kk_aload_n hm.1 0 dX10_mend_259 rfl rfl ?_
    refine kk_getR hm.1 ff_X10_52 dX10_mend_260 h0 ?_
    refine kk_aload_n hm.1 0 dX10_mend_263 rfl rfl ?_
    refine kk_callVi (cs' := 0) (sl' := 0) (st := [kw_a (r a0 22), kw_i x8, kw_a (r a0 34)]) hm.1 cv_X10_293 (t_X10_endOf h0 h) dX10_mend_264 h0 rfl rfl hm.2.2.1 ⟨by decide, by decide⟩ ⟨by decide, by decide⟩ rfl rfl (Nat.le_of_ble_eq_true rfl) rfl ?_
    rintro v264 _ _ _ _ _ ⟨rfl, rfl, rfl, rfl, rfl, h⟩
    refine kk_iload hm.1 7 dX10_mend_267 rfl ?_
    refine kk_iadd hm.1 dX10_mend_269 ?_
    obtain ⟨o270, h⟩ := h
    refine kk_iaload hm.1 dX10_mend_270 o270 ?_
    obtain ⟨o271, h⟩ := h
    refine kn_iastore hm.1 dX10_mend_271 o271 (fun i271 e271 => ?_)
    have h := h i271 e271
    refine kk_iinc (v := (x8 + (1 : Int32))) (L' := [(8, kw_i (x8 + (1 : Int32))), (0, kw_a a0), (1, kw_i x1), (2, kw_i x2), (3, kw_i x3), (4, kw_i x4), (5, kw_i x5), (6, kw_i x6)]) hm.1 7 dX10_mend_272 rfl rfl (by decide) rfl ?_
    refine kk_goto (tgt := 246) hm.1 dX10_mend_275 (by decide) ?_
    refine kk_loc (L' := [(0, kw_a a0), (1, kw_i x1), (2, kw_i x2), (3, kw_i x3), (4, kw_i x4), (5, kw_i x5), (6, kw_i x6), (8, kw_i (x8 + (1 : Int32)))]) [1, 2, 3, 4, 5, 6, 7, 0] rfl ?_
    exact hk246 ((x8 + (1 : Int32))) i271 h
set_option maxHeartbeats 4000000 in
set_option maxRecDepth 100000 in
theorem q_X10_mend_246 {a0 : Nat} {x1 : Int32} {x2 : Int32} {x3 : Int32} {x4 : Int32} {x5 : Int32} {x6 : Int32} {T : kw_T} {n : Nat} {r : kw_R} {w : kw_L} {Q : Int32 → kw_I → Prop} {E : kw_E} {G : kw_G} (hm : kw_m E G cX10_mend 14 RX10 (some .int) rm_X10_mend "mend")  (h0 : T a0 = (0, 10))    : ∀ (N : Nat) (x8 : Int32) (i : kw_I), w_X10_mend_246 a0 x1 x2 x3 x4 x5 x6 T n r w Q  N x8 i → kw_K E G 14 0 0 (kw_Z E G 0 0 (kw_PI (fun v T' n' r' i' w' => T = T' ∧ n = n' ∧ r = r' ∧ w = w' ∧ Q v i'))) 246 [(0, kw_a a0), (1, kw_i x1), (2, kw_i x2), (3, kw_i x3), (4, kw_i x4), (5, kw_i x5), (6, kw_i x6), (8, kw_i x8)] [] T n r i w := by
  intro N
  induction N with
  | zero => intro x8 i h; exact h.elim
  | succ N ih => intro x8 i h; exact qs_X10_mend_246 hm  h0  ih x8 i h
set_option maxHeartbeats 4000000 in
set_option maxRecDepth 100000 in
theorem q_X10_mend_224 {a0 : Nat} {x1 : Int32} {x2 : Int32} {x3 : Int32} {x4 : Int32} {x5 : Int32} {x6 : Int32} {T : kw_T} {n : Nat} {r : kw_R} {w : kw_L} {Q : Int32 → kw_I → Prop} {E : kw_E} {G : kw_G} (hm : kw_m E G cX10_mend 14 RX10 (some .int) rm_X10_mend "mend")  (h0 : T a0 = (0, 10))    (i : kw_I) (h : w_X10_mend_224 a0 x1 x2 x3 x4 x5 x6 T n r w Q  i) : kw_K E G 14 0 0 (kw_Z E G 0 0 (kw_PI (fun v T' n' r' i' w' => T = T' ∧ n = n' ∧ r = r' ∧ w = w' ∧ Q v i'))) 224 [(0, kw_a a0), (1, kw_i x1), (2, kw_i x2), (3, kw_i x3), (4, kw_i x4), (5, kw_i x5), (6, kw_i x6)] [] T n r i w := by
  refine kk_iload hm.1 6 dX10_mend_224 rfl ?_
  refine kk_iconst (v := (0 : Int32)) hm.1 dX10_mend_226 (by decide) ?_
  refine kk_aload_n hm.1 0 dX10_mend_227 rfl rfl ?_
  refine kk_getI hm.1 ff_X10_307 dX10_mend_228 h0 ?_
  refine kk_callSi (cs' := 0) (sl' := 0) (st := []) hm.1 cs_X10_73 (t_X10_lies h) dX10_mend_231 rfl hm.2.2.1 ⟨by decide, by decide⟩ ⟨by decide, by decide⟩ rfl rfl (Nat.le_of_ble_eq_true rfl) rfl ?_
  rintro v231 _ _ _ _ _ ⟨rfl, rfl, rfl, rfl, rfl, h⟩
  refine kk_if_ne (tgt := 239) hm.1 dX10_mend_234 (by decide) (fun c234 => ?_) (fun c234 => ?_)
  · have h := h.1 c234
    refine kk_aload_n hm.1 0 dX10_mend_239 rfl rfl ?_
    refine kk_callVv (cs' := 0) (sl' := 0) (st := []) hm.1 cv_X10_280 (t_X10_looks h0 h) dX10_mend_240 h0 rfl rfl hm.2.2.1 ⟨by decide, by decide⟩ ⟨by decide, by decide⟩ rfl rfl (Nat.le_of_ble_eq_true rfl) rfl ?_
    rintro _ _ _ i240 _ ⟨rfl, rfl, rfl, rfl, h⟩
    refine kk_iconst (v := (0 : Int32)) hm.1 dX10_mend_243 (by decide) ?_
    refine kk_istore (L' := [(8, kw_i (0 : Int32)), (0, kw_a a0), (1, kw_i x1), (2, kw_i x2), (3, kw_i x3), (4, kw_i x4), (5, kw_i x5), (6, kw_i x6)]) hm.1 dX10_mend_244 (by decide) rfl ?_
    refine kk_loc (L' := [(0, kw_a a0), (1, kw_i x1), (2, kw_i x2), (3, kw_i x3), (4, kw_i x4), (5, kw_i x5), (6, kw_i x6), (8, kw_i (0 : Int32))]) [1, 2, 3, 4, 5, 6, 7, 0] rfl ?_
    obtain ⟨N, h⟩ := h
    exact q_X10_mend_246 hm  h0   N ((0 : Int32)) i240 h
  · have h := h.2 c234
    refine kk_iconst (v := (-1 : Int32)) hm.1 dX10_mend_237 (by decide) ?_
    exact kk_iret hm.1 hm.2.1 dX10_mend_238 ⟨_, rfl, rfl, rfl, rfl, rfl, h⟩
set_option maxHeartbeats 4000000 in
set_option maxRecDepth 100000 in
theorem q_X10_mend_207 {a0 : Nat} {x1 : Int32} {x2 : Int32} {x3 : Int32} {x4 : Int32} {x5 : Int32} {x6 : Int32} {T : kw_T} {n : Nat} {r : kw_R} {w : kw_L} {Q : Int32 → kw_I → Prop} {E : kw_E} {G : kw_G} (hm : kw_m E G cX10_mend 14 RX10 (some .int) rm_X10_mend "mend")  (h0 : T a0 = (0, 10))    (i : kw_I) (h : w_X10_mend_207 a0 x1 x2 x3 x4 x5 x6 T n r w Q  i) : kw_K E G 14 0 0 (kw_Z E G 0 0 (kw_PI (fun v T' n' r' i' w' => T = T' ∧ n = n' ∧ r = r' ∧ w = w' ∧ Q v i'))) 207 [(0, kw_a a0), (1, kw_i x1), (2, kw_i x2), (3, kw_i x3), (4, kw_i x4), (5, kw_i x5), (6, kw_i x6)] [] T n r i w := by
  refine kk_iload hm.1 5 dX10_mend_207 rfl ?_
  refine kk_iconst (v := (-1 : Int32)) hm.1 dX10_mend_209 (by decide) ?_
  refine kk_icmp_eq (tgt := 224) hm.1 dX10_mend_210 (by decide) (fun c210 => ?_) (fun c210 => ?_)
  · have h := h.1 c210
    exact q_X10_mend_224 hm  h0   i h
  · have h := h.2 c210
    refine kk_aload_n hm.1 0 dX10_mend_213 rfl rfl ?_
    refine kk_iload hm.1 5 dX10_mend_214 rfl ?_
    refine kk_callVi (cs' := 0) (sl' := 0) (st := []) hm.1 cv_X10_310 (t_X10_eats h0 h) dX10_mend_216 h0 rfl rfl hm.2.2.1 ⟨by decide, by decide⟩ ⟨by decide, by decide⟩ rfl rfl (Nat.le_of_ble_eq_true rfl) rfl ?_
    rintro v216 _ _ _ i216 _ ⟨rfl, rfl, rfl, rfl, h⟩
    refine kk_if_ne (tgt := 224) hm.1 dX10_mend_219 (by decide) (fun c219 => ?_) (fun c219 => ?_)
    · have h := h.1 c219
      exact q_X10_mend_224 hm  h0   i216 h
    · have h := h.2 c219
      refine kk_iconst (v := (-1 : Int32)) hm.1 dX10_mend_222 (by decide) ?_
      exact kk_iret hm.1 hm.2.1 dX10_mend_223 ⟨_, rfl, rfl, rfl, rfl, rfl, h⟩
set_option maxHeartbeats 4000000 in
set_option maxRecDepth 100000 in
theorem q_X10_mend_194 {a0 : Nat} {x1 : Int32} {x2 : Int32} {x3 : Int32} {x4 : Int32} {x5 : Int32} {x6 : Int32} {T : kw_T} {n : Nat} {r : kw_R} {w : kw_L} {Q : Int32 → kw_I → Prop} {E : kw_E} {G : kw_G} (hm : kw_m E G cX10_mend 14 RX10 (some .int) rm_X10_mend "mend")  (h0 : T a0 = (0, 10))    (x7 : Int32) (i : kw_I) (h : w_X10_mend_194 a0 x1 x2 x3 x4 x5 x6 T n r w Q  x7 i) : kw_K E G 14 0 0 (kw_Z E G 0 0 (kw_PI (fun v T' n' r' i' w' => T = T' ∧ n = n' ∧ r = r' ∧ w = w' ∧ Q v i'))) 194 [(0, kw_a a0), (1, kw_i x1), (2, kw_i x2), (3, kw_i x3), (4, kw_i x4), (5, kw_i x5), (6, kw_i x6), (7, kw_i x7)] [] T n r i w := by
  refine kk_iload hm.1 7 dX10_mend_194 rfl ?_
  refine kk_if_ne (tgt := 207) hm.1 dX10_mend_196 (by decide) (fun c196 => ?_) (fun c196 => ?_)
  · have h := h.1 c196
    refine kk_loc (L' := [(0, kw_a a0), (1, kw_i x1), (2, kw_i x2), (3, kw_i x3), (4, kw_i x4), (5, kw_i x5), (6, kw_i x6)]) [0, 1, 2, 3, 4, 5, 6] rfl ?_
    exact q_X10_mend_207 hm  h0   i h
  · have h := h.2 c196
    refine kk_iload hm.1 5 dX10_mend_199 rfl ?_
    refine kk_iconst (v := (-1 : Int32)) hm.1 dX10_mend_201 (by decide) ?_
    refine kk_icmp_eq (tgt := 207) hm.1 dX10_mend_202 (by decide) (fun c202 => ?_) (fun c202 => ?_)
    · have h := h.1 c202
      refine kk_loc (L' := [(0, kw_a a0), (1, kw_i x1), (2, kw_i x2), (3, kw_i x3), (4, kw_i x4), (5, kw_i x5), (6, kw_i x6)]) [0, 1, 2, 3, 4, 5, 6] rfl ?_
      exact q_X10_mend_207 hm  h0   i h
    · have h := h.2 c202
      refine kk_iconst (v := (-1 : Int32)) hm.1 dX10_mend_205 (by decide) ?_
      exact kk_iret hm.1 hm.2.1 dX10_mend_206 ⟨_, rfl, rfl, rfl, rfl, rfl, h⟩
set_option maxHeartbeats 4000000 in
set_option maxRecDepth 100000 in
theorem q_X10_mend_178 {a0 : Nat} {x1 : Int32} {x2 : Int32} {x3 : Int32} {x4 : Int32} {x5 : Int32} {x6 : Int32} {T : kw_T} {n : Nat} {r : kw_R} {w : kw_L} {Q : Int32 → kw_I → Prop} {E : kw_E} {G : kw_G} (hm : kw_m E G cX10_mend 14 RX10 (some .int) rm_X10_mend "mend")  (h0 : T a0 = (0, 10))    (s0 : Int32) (i : kw_I) (h : w_X10_mend_178 a0 x1 x2 x3 x4 x5 x6 T n r w Q  s0 i) : kw_K E G 14 0 0 (kw_Z E G 0 0 (kw_PI (fun v T' n' r' i' w' => T = T' ∧ n = n' ∧ r = r' ∧ w = w' ∧ Q v i'))) 178 [(0, kw_a a0), (1, kw_i x1), (2, kw_i x2), (3, kw_i x3), (4, kw_i x4), (5, kw_i x5), (6, kw_i x6)] [kw_i s0] T n r i w := by
  refine kk_istore (L' := [(7, kw_i s0), (0, kw_a a0), (1, kw_i x1), (2, kw_i x2), (3, kw_i x3), (4, kw_i x4), (5, kw_i x5), (6, kw_i x6)]) hm.1 dX10_mend_178 (by decide) rfl ?_
  refine kk_iload hm.1 0 dX10_mend_180 rfl ?_
  refine kk_if_eq (tgt := 194) hm.1 dX10_mend_182 (by decide) (fun c182 => ?_) (fun c182 => ?_)
  · have h := h.1 c182
    refine kk_loc (L' := [(0, kw_a a0), (1, kw_i x1), (2, kw_i x2), (3, kw_i x3), (4, kw_i x4), (5, kw_i x5), (6, kw_i x6), (7, kw_i s0)]) [1, 2, 3, 4, 5, 6, 7, 0] rfl ?_
    exact q_X10_mend_194 hm  h0   s0 i h
  · have h := h.2 c182
    refine kk_aload_n hm.1 1 dX10_mend_185 rfl rfl ?_
    refine kk_iload hm.1 5 dX10_mend_186 rfl ?_
    refine kk_callVi (cs' := 0) (sl' := 0) (st := []) hm.1 cv_X10_310 (t_X10_eats h0 h) dX10_mend_188 h0 rfl rfl hm.2.2.1 ⟨by decide, by decide⟩ ⟨by decide, by decide⟩ rfl rfl (Nat.le_of_ble_eq_true rfl) rfl ?_
    rintro v188 _ _ _ i188 _ ⟨rfl, rfl, rfl, rfl, h⟩
    refine kk_if_eq (tgt := 205) hm.1 dX10_mend_191 (by decide) (fun c191 => ?_) (fun c191 => ?_)
    · have h := h.1 c191
      refine kk_iconst (v := (-1 : Int32)) hm.1 dX10_mend_205 (by decide) ?_
      exact kk_iret hm.1 hm.2.1 dX10_mend_206 ⟨_, rfl, rfl, rfl, rfl, rfl, h⟩
    · have h := h.2 c191
      refine kk_loc (L' := [(0, kw_a a0), (1, kw_i x1), (2, kw_i x2), (3, kw_i x3), (4, kw_i x4), (5, kw_i x5), (6, kw_i x6), (7, kw_i s0)]) [1, 2, 3, 4, 5, 6, 7, 0] rfl ?_
      exact q_X10_mend_194 hm  h0   s0 i188 h
set_option maxHeartbeats 4000000 in
set_option maxRecDepth 100000 in
theorem q_X10_mend_177 {a0 : Nat} {x1 : Int32} {x2 : Int32} {x3 : Int32} {x4 : Int32} {x5 : Int32} {x6 : Int32} {T : kw_T} {n : Nat} {r : kw_R} {w : kw_L} {Q : Int32 → kw_I → Prop} {E : kw_E} {G : kw_G} (hm : kw_m E G cX10_mend 14 RX10 (some .int) rm_X10_mend "mend")  (h0 : T a0 = (0, 10))    (i : kw_I) (h : w_X10_mend_177 a0 x1 x2 x3 x4 x5 x6 T n r w Q  i) : kw_K E G 14 0 0 (kw_Z E G 0 0 (kw_PI (fun v T' n' r' i' w' => T = T' ∧ n = n' ∧ r = r' ∧ w = w' ∧ Q v i'))) 177 [(0, kw_a a0), (1, kw_i x1), (2, kw_i x2), (3, kw_i x3), (4, kw_i x4), (5, kw_i x5), (6, kw_i x6)] [] T n r i w := by
  refine kk_iconst (v := (0 : Int32)) hm.1 dX10_mend_177 (by decide) ?_
  exact q_X10_mend_178 hm  h0   ((0 : Int32)) i h
set_option maxHeartbeats 4000000 in
set_option maxRecDepth 100000 in
theorem q_X10_mend_162 {a0 : Nat} {x1 : Int32} {x2 : Int32} {x3 : Int32} {x4 : Int32} {x5 : Int32} {x6 : Int32} {T : kw_T} {n : Nat} {r : kw_R} {w : kw_L} {Q : Int32 → kw_I → Prop} {E : kw_E} {G : kw_G} (hm : kw_m E G cX10_mend 14 RX10 (some .int) rm_X10_mend "mend")  (h0 : T a0 = (0, 10))    (x7 : Int32) (i : kw_I) (h : w_X10_mend_162 a0 x1 x2 x3 x4 x5 x6 T n r w Q  x7 i) : kw_K E G 14 0 0 (kw_Z E G 0 0 (kw_PI (fun v T' n' r' i' w' => T = T' ∧ n = n' ∧ r = r' ∧ w = w' ∧ Q v i'))) 162 [(0, kw_a a0), (1, kw_i x1), (2, kw_i x2), (3, kw_i x3), (4, kw_i x4), (5, kw_i x5), (6, kw_i x6), (7, kw_i x7)] [] T n r i w := by
  refine kk_iload hm.1 7 dX10_mend_162 rfl ?_
  refine kk_if_eq (tgt := 177) hm.1 dX10_mend_164 (by decide) (fun c164 => ?_) (fun c164 => ?_)
  · have h := h.1 c164
    refine kk_loc (L' := [(0, kw_a a0), (1, kw_i x1), (2, kw_i x2), (3, kw_i x3), (4, kw_i x4), (5, kw_i x5), (6, kw_i x6)]) [0, 1, 2, 3, 4, 5, 6] rfl ?_
    exact q_X10_mend_177 hm  h0   i h
  · have h := h.2 c164
    refine kk_iload hm.1 4 dX10_mend_167 rfl ?_
    refine kk_iconst (v := (-1 : Int32)) hm.1 dX10_mend_169 (by decide) ?_
    refine kk_icmp_eq (tgt := 177) hm.1 dX10_mend_170 (by decide) (fun c170 => ?_) (fun c170 => ?_)
    · have h := h.1 c170
      refine kk_loc (L' := [(0, kw_a a0), (1, kw_i x1), (2, kw_i x2), (3, kw_i x3), (4, kw_i x4), (5, kw_i x5), (6, kw_i x6)]) [0, 1, 2, 3, 4, 5, 6] rfl ?_
      exact q_X10_mend_177 hm  h0   i h
    · have h := h.2 c170
      refine kk_iconst (v := (1 : Int32)) hm.1 dX10_mend_173 (by decide) ?_
      refine kk_goto (tgt := 178) hm.1 dX10_mend_174 (by decide) ?_
      refine kk_loc (L' := [(0, kw_a a0), (1, kw_i x1), (2, kw_i x2), (3, kw_i x3), (4, kw_i x4), (5, kw_i x5), (6, kw_i x6)]) [0, 1, 2, 3, 4, 5, 6] rfl ?_
      exact q_X10_mend_178 hm  h0   ((1 : Int32)) i h
set_option maxHeartbeats 4000000 in
set_option maxRecDepth 100000 in
theorem q_X10_mend_143 {a0 : Nat} {x1 : Int32} {x2 : Int32} {x3 : Int32} {x4 : Int32} {x5 : Int32} {x6 : Int32} {T : kw_T} {n : Nat} {r : kw_R} {w : kw_L} {Q : Int32 → kw_I → Prop} {E : kw_E} {G : kw_G} (hm : kw_m E G cX10_mend 14 RX10 (some .int) rm_X10_mend "mend")  (h0 : T a0 = (0, 10))    (x7 : Int32) (i : kw_I) (h : w_X10_mend_143 a0 x1 x2 x3 x4 x5 x6 T n r w Q  x7 i) : kw_K E G 14 0 0 (kw_Z E G 0 0 (kw_PI (fun v T' n' r' i' w' => T = T' ∧ n = n' ∧ r = r' ∧ w = w' ∧ Q v i'))) 143 [(0, kw_a a0), (1, kw_i x1), (2, kw_i x2), (3, kw_i x3), (4, kw_i x4), (5, kw_i x5), (6, kw_i x6), (7, kw_i x7)] [] T n r i w := by
  refine kk_iload hm.1 7 dX10_mend_143 rfl ?_
  refine kk_if_ne (tgt := 162) hm.1 dX10_mend_145 (by decide) (fun c145 => ?_) (fun c145 => ?_)
  · have h := h.1 c145
    exact q_X10_mend_162 hm  h0   x7 i h
  · have h := h.2 c145
    refine kk_iload hm.1 4 dX10_mend_148 rfl ?_
    refine kk_iconst (v := (-1 : Int32)) hm.1 dX10_mend_150 (by decide) ?_
    refine kk_icmp_ne (tgt := 160) hm.1 dX10_mend_151 (by decide) (fun c151 => ?_) (fun c151 => ?_)
    · have h := h.1 c151
      refine kk_iconst (v := (-1 : Int32)) hm.1 dX10_mend_160 (by decide) ?_
      exact kk_iret hm.1 hm.2.1 dX10_mend_161 ⟨_, rfl, rfl, rfl, rfl, rfl, h⟩
    · have h := h.2 c151
      refine kk_iload hm.1 5 dX10_mend_154 rfl ?_
      refine kk_iconst (v := (-1 : Int32)) hm.1 dX10_mend_156 (by decide) ?_
      refine kk_icmp_eq (tgt := 162) hm.1 dX10_mend_157 (by decide) (fun c157 => ?_) (fun c157 => ?_)
      · have h := h.1 c157
        exact q_X10_mend_162 hm  h0   x7 i h
      · have h := h.2 c157
        refine kk_iconst (v := (-1 : Int32)) hm.1 dX10_mend_160 (by decide) ?_
        exact kk_iret hm.1 hm.2.1 dX10_mend_161 ⟨_, rfl, rfl, rfl, rfl, rfl, h⟩
set_option maxHeartbeats 4000000 in
set_option maxRecDepth 100000 in
theorem q_X10_mend_128 {a0 : Nat} {x1 : Int32} {x2 : Int32} {x3 : Int32} {x4 : Int32} {x5 : Int32} {x6 : Int32} {T : kw_T} {n : Nat} {r : kw_R} {w : kw_L} {Q : Int32 → kw_I → Prop} {E : kw_E} {G : kw_G} (hm : kw_m E G cX10_mend 14 RX10 (some .int) rm_X10_mend "mend")  (h0 : T a0 = (0, 10))    (s0 : Int32) (i : kw_I) (h : w_X10_mend_128 a0 x1 x2 x3 x4 x5 x6 T n r w Q  s0 i) : kw_K E G 14 0 0 (kw_Z E G 0 0 (kw_PI (fun v T' n' r' i' w' => T = T' ∧ n = n' ∧ r = r' ∧ w = w' ∧ Q v i'))) 128 [(0, kw_a a0), (1, kw_i x1), (2, kw_i x2), (3, kw_i x3), (4, kw_i x4), (5, kw_i x5), (6, kw_i x6)] [kw_i s0] T n r i w := by
  refine kk_istore (L' := [(7, kw_i s0), (0, kw_a a0), (1, kw_i x1), (2, kw_i x2), (3, kw_i x3), (4, kw_i x4), (5, kw_i x5), (6, kw_i x6)]) hm.1 dX10_mend_128 (by decide) rfl ?_
  refine kk_iload hm.1 0 dX10_mend_130 rfl ?_
  refine kk_if_eq (tgt := 143) hm.1 dX10_mend_132 (by decide) (fun c132 => ?_) (fun c132 => ?_)
  · have h := h.1 c132
    refine kk_loc (L' := [(0, kw_a a0), (1, kw_i x1), (2, kw_i x2), (3, kw_i x3), (4, kw_i x4), (5, kw_i x5), (6, kw_i x6), (7, kw_i s0)]) [1, 2, 3, 4, 5, 6, 7, 0] rfl ?_
    exact q_X10_mend_143 hm  h0   s0 i h
  · have h := h.2 c132
    refine kk_aload_n hm.1 1 dX10_mend_135 rfl rfl ?_
    refine kk_iload_n hm.1 4 dX10_mend_136 rfl rfl ?_
    refine kk_callVi (cs' := 0) (sl' := 0) (st := []) hm.1 cv_X10_310 (t_X10_eats h0 h) dX10_mend_137 h0 rfl rfl hm.2.2.1 ⟨by decide, by decide⟩ ⟨by decide, by decide⟩ rfl rfl (Nat.le_of_ble_eq_true rfl) rfl ?_
    rintro v137 _ _ _ i137 _ ⟨rfl, rfl, rfl, rfl, h⟩
    refine kk_if_eq (tgt := 160) hm.1 dX10_mend_140 (by decide) (fun c140 => ?_) (fun c140 => ?_)
    · have h := h.1 c140
      refine kk_iconst (v := (-1 : Int32)) hm.1 dX10_mend_160 (by decide) ?_
      exact kk_iret hm.1 hm.2.1 dX10_mend_161 ⟨_, rfl, rfl, rfl, rfl, rfl, h⟩
    · have h := h.2 c140
      refine kk_loc (L' := [(0, kw_a a0), (1, kw_i x1), (2, kw_i x2), (3, kw_i x3), (4, kw_i x4), (5, kw_i x5), (6, kw_i x6), (7, kw_i s0)]) [1, 2, 3, 4, 5, 6, 7, 0] rfl ?_
      exact q_X10_mend_143 hm  h0   s0 i137 h
set_option maxHeartbeats 4000000 in
set_option maxRecDepth 100000 in
theorem q_X10_mend_127 {a0 : Nat} {x1 : Int32} {x2 : Int32} {x3 : Int32} {x4 : Int32} {x5 : Int32} {x6 : Int32} {T : kw_T} {n : Nat} {r : kw_R} {w : kw_L} {Q : Int32 → kw_I → Prop} {E : kw_E} {G : kw_G} (hm : kw_m E G cX10_mend 14 RX10 (some .int) rm_X10_mend "mend")  (h0 : T a0 = (0, 10))    (i : kw_I) (h : w_X10_mend_127 a0 x1 x2 x3 x4 x5 x6 T n r w Q  i) : kw_K E G 14 0 0 (kw_Z E G 0 0 (kw_PI (fun v T' n' r' i' w' => T = T' ∧ n = n' ∧ r = r' ∧ w = w' ∧ Q v i'))) 127 [(0, kw_a a0), (1, kw_i x1), (2, kw_i x2), (3, kw_i x3), (4, kw_i x4), (5, kw_i x5), (6, kw_i x6)] [] T n r i w := by
  refine kk_iconst (v := (0 : Int32)) hm.1 dX10_mend_127 (by decide) ?_
  exact q_X10_mend_128 hm  h0   ((0 : Int32)) i h
set_option maxHeartbeats 4000000 in
set_option maxRecDepth 100000 in
theorem q_X10_mend_113 {a0 : Nat} {x1 : Int32} {x2 : Int32} {x3 : Int32} {x4 : Int32} {x5 : Int32} {x6 : Int32} {T : kw_T} {n : Nat} {r : kw_R} {w : kw_L} {Q : Int32 → kw_I → Prop} {E : kw_E} {G : kw_G} (hm : kw_m E G cX10_mend 14 RX10 (some .int) rm_X10_mend "mend")  (h0 : T a0 = (0, 10))    (x7 : Int32) (i : kw_I) (h : w_X10_mend_113 a0 x1 x2 x3 x4 x5 x6 T n r w Q  x7 i) : kw_K E G 14 0 0 (kw_Z E G 0 0 (kw_PI (fun v T' n' r' i' w' => T = T' ∧ n = n' ∧ r = r' ∧ w = w' ∧ Q v i'))) 113 [(0, kw_a a0), (1, kw_i x1), (2, kw_i x2), (3, kw_i x3), (4, kw_i x4), (5, kw_i x5), (6, kw_i x6), (7, kw_i x7)] [] T n r i w := by
  refine kk_iload hm.1 7 dX10_mend_113 rfl ?_
  refine kk_if_eq (tgt := 127) hm.1 dX10_mend_115 (by decide) (fun c115 => ?_) (fun c115 => ?_)
  · have h := h.1 c115
    refine kk_loc (L' := [(0, kw_a a0), (1, kw_i x1), (2, kw_i x2), (3, kw_i x3), (4, kw_i x4), (5, kw_i x5), (6, kw_i x6)]) [0, 1, 2, 3, 4, 5, 6] rfl ?_
    exact q_X10_mend_127 hm  h0   i h
  · have h := h.2 c115
    refine kk_iload_n hm.1 3 dX10_mend_118 rfl rfl ?_
    refine kk_iconst (v := (-1 : Int32)) hm.1 dX10_mend_119 (by decide) ?_
    refine kk_icmp_eq (tgt := 127) hm.1 dX10_mend_120 (by decide) (fun c120 => ?_) (fun c120 => ?_)
    · have h := h.1 c120
      refine kk_loc (L' := [(0, kw_a a0), (1, kw_i x1), (2, kw_i x2), (3, kw_i x3), (4, kw_i x4), (5, kw_i x5), (6, kw_i x6)]) [0, 1, 2, 3, 4, 5, 6] rfl ?_
      exact q_X10_mend_127 hm  h0   i h
    · have h := h.2 c120
      refine kk_iconst (v := (1 : Int32)) hm.1 dX10_mend_123 (by decide) ?_
      refine kk_goto (tgt := 128) hm.1 dX10_mend_124 (by decide) ?_
      refine kk_loc (L' := [(0, kw_a a0), (1, kw_i x1), (2, kw_i x2), (3, kw_i x3), (4, kw_i x4), (5, kw_i x5), (6, kw_i x6)]) [0, 1, 2, 3, 4, 5, 6] rfl ?_
      exact q_X10_mend_128 hm  h0   ((1 : Int32)) i h
set_option maxHeartbeats 4000000 in
set_option maxRecDepth 100000 in
theorem q_X10_mend_89 {a0 : Nat} {x1 : Int32} {x2 : Int32} {x3 : Int32} {x4 : Int32} {x5 : Int32} {x6 : Int32} {T : kw_T} {n : Nat} {r : kw_R} {w : kw_L} {Q : Int32 → kw_I → Prop} {E : kw_E} {G : kw_G} (hm : kw_m E G cX10_mend 14 RX10 (some .int) rm_X10_mend "mend")  (h0 : T a0 = (0, 10))    (x7 : Int32) (i : kw_I) (h : w_X10_mend_89 a0 x1 x2 x3 x4 x5 x6 T n r w Q  x7 i) : kw_K E G 14 0 0 (kw_Z E G 0 0 (kw_PI (fun v T' n' r' i' w' => T = T' ∧ n = n' ∧ r = r' ∧ w = w' ∧ Q v i'))) 89 [(0, kw_a a0), (1, kw_i x1), (2, kw_i x2), (3, kw_i x3), (4, kw_i x4), (5, kw_i x5), (6, kw_i x6), (7, kw_i x7)] [] T n r i w := by
  refine kk_iload hm.1 7 dX10_mend_89 rfl ?_
  refine kk_if_ne (tgt := 113) hm.1 dX10_mend_91 (by decide) (fun c91 => ?_) (fun c91 => ?_)
  · have h := h.1 c91
    exact q_X10_mend_113 hm  h0   x7 i h
  · have h := h.2 c91
    refine kk_iload_n hm.1 3 dX10_mend_94 rfl rfl ?_
    refine kk_iconst (v := (-1 : Int32)) hm.1 dX10_mend_95 (by decide) ?_
    refine kk_icmp_ne (tgt := 111) hm.1 dX10_mend_96 (by decide) (fun c96 => ?_) (fun c96 => ?_)
    · have h := h.1 c96
      refine kk_iconst (v := (-1 : Int32)) hm.1 dX10_mend_111 (by decide) ?_
      exact kk_iret hm.1 hm.2.1 dX10_mend_112 ⟨_, rfl, rfl, rfl, rfl, rfl, h⟩
    · have h := h.2 c96
      refine kk_iload hm.1 4 dX10_mend_99 rfl ?_
      refine kk_iconst (v := (-1 : Int32)) hm.1 dX10_mend_101 (by decide) ?_
      refine kk_icmp_ne (tgt := 111) hm.1 dX10_mend_102 (by decide) (fun c102 => ?_) (fun c102 => ?_)
      · have h := h.1 c102
        refine kk_iconst (v := (-1 : Int32)) hm.1 dX10_mend_111 (by decide) ?_
        exact kk_iret hm.1 hm.2.1 dX10_mend_112 ⟨_, rfl, rfl, rfl, rfl, rfl, h⟩
      · have h := h.2 c102
        refine kk_iload hm.1 5 dX10_mend_105 rfl ?_
        refine kk_iconst (v := (-1 : Int32)) hm.1 dX10_mend_107 (by decide) ?_
        refine kk_icmp_eq (tgt := 113) hm.1 dX10_mend_108 (by decide) (fun c108 => ?_) (fun c108 => ?_)
        · have h := h.1 c108
          exact q_X10_mend_113 hm  h0   x7 i h
        · have h := h.2 c108
          refine kk_iconst (v := (-1 : Int32)) hm.1 dX10_mend_111 (by decide) ?_
          exact kk_iret hm.1 hm.2.1 dX10_mend_112 ⟨_, rfl, rfl, rfl, rfl, rfl, h⟩
set_option maxHeartbeats 4000000 in
set_option maxRecDepth 100000 in
theorem q_X10_mend_74 {a0 : Nat} {x1 : Int32} {x2 : Int32} {x3 : Int32} {x4 : Int32} {x5 : Int32} {x6 : Int32} {T : kw_T} {n : Nat} {r : kw_R} {w : kw_L} {Q : Int32 → kw_I → Prop} {E : kw_E} {G : kw_G} (hm : kw_m E G cX10_mend 14 RX10 (some .int) rm_X10_mend "mend")  (h0 : T a0 = (0, 10))    (s0 : Int32) (i : kw_I) (h : w_X10_mend_74 a0 x1 x2 x3 x4 x5 x6 T n r w Q  s0 i) : kw_K E G 14 0 0 (kw_Z E G 0 0 (kw_PI (fun v T' n' r' i' w' => T = T' ∧ n = n' ∧ r = r' ∧ w = w' ∧ Q v i'))) 74 [(0, kw_a a0), (1, kw_i x1), (2, kw_i x2), (3, kw_i x3), (4, kw_i x4), (5, kw_i x5), (6, kw_i x6)] [kw_i s0] T n r i w := by
  refine kk_istore (L' := [(7, kw_i s0), (0, kw_a a0), (1, kw_i x1), (2, kw_i x2), (3, kw_i x3), (4, kw_i x4), (5, kw_i x5), (6, kw_i x6)]) hm.1 dX10_mend_74 (by decide) rfl ?_
  refine kk_iload hm.1 0 dX10_mend_76 rfl ?_
  refine kk_if_eq (tgt := 89) hm.1 dX10_mend_78 (by decide) (fun c78 => ?_) (fun c78 => ?_)
  · have h := h.1 c78
    refine kk_loc (L' := [(0, kw_a a0), (1, kw_i x1), (2, kw_i x2), (3, kw_i x3), (4, kw_i x4), (5, kw_i x5), (6, kw_i x6), (7, kw_i s0)]) [1, 2, 3, 4, 5, 6, 7, 0] rfl ?_
    exact q_X10_mend_89 hm  h0   s0 i h
  · have h := h.2 c78
    refine kk_aload_n hm.1 1 dX10_mend_81 rfl rfl ?_
    refine kk_iload_n hm.1 3 dX10_mend_82 rfl rfl ?_
    refine kk_callVi (cs' := 0) (sl' := 0) (st := []) hm.1 cv_X10_310 (t_X10_eats h0 h) dX10_mend_83 h0 rfl rfl hm.2.2.1 ⟨by decide, by decide⟩ ⟨by decide, by decide⟩ rfl rfl (Nat.le_of_ble_eq_true rfl) rfl ?_
    rintro v83 _ _ _ i83 _ ⟨rfl, rfl, rfl, rfl, h⟩
    refine kk_if_eq (tgt := 111) hm.1 dX10_mend_86 (by decide) (fun c86 => ?_) (fun c86 => ?_)
    · have h := h.1 c86
      refine kk_iconst (v := (-1 : Int32)) hm.1 dX10_mend_111 (by decide) ?_
      exact kk_iret hm.1 hm.2.1 dX10_mend_112 ⟨_, rfl, rfl, rfl, rfl, rfl, h⟩
    · have h := h.2 c86
      refine kk_loc (L' := [(0, kw_a a0), (1, kw_i x1), (2, kw_i x2), (3, kw_i x3), (4, kw_i x4), (5, kw_i x5), (6, kw_i x6), (7, kw_i s0)]) [1, 2, 3, 4, 5, 6, 7, 0] rfl ?_
      exact q_X10_mend_89 hm  h0   s0 i83 h
set_option maxHeartbeats 4000000 in
set_option maxRecDepth 100000 in
theorem q_X10_mend_73 {a0 : Nat} {x1 : Int32} {x2 : Int32} {x3 : Int32} {x4 : Int32} {x5 : Int32} {x6 : Int32} {T : kw_T} {n : Nat} {r : kw_R} {w : kw_L} {Q : Int32 → kw_I → Prop} {E : kw_E} {G : kw_G} (hm : kw_m E G cX10_mend 14 RX10 (some .int) rm_X10_mend "mend")  (h0 : T a0 = (0, 10))    (i : kw_I) (h : w_X10_mend_73 a0 x1 x2 x3 x4 x5 x6 T n r w Q  i) : kw_K E G 14 0 0 (kw_Z E G 0 0 (kw_PI (fun v T' n' r' i' w' => T = T' ∧ n = n' ∧ r = r' ∧ w = w' ∧ Q v i'))) 73 [(0, kw_a a0), (1, kw_i x1), (2, kw_i x2), (3, kw_i x3), (4, kw_i x4), (5, kw_i x5), (6, kw_i x6)] [] T n r i w := by
  refine kk_iconst (v := (0 : Int32)) hm.1 dX10_mend_73 (by decide) ?_
  exact q_X10_mend_74 hm  h0   ((0 : Int32)) i h
set_option maxHeartbeats 4000000 in
set_option maxRecDepth 100000 in
theorem q_X10_mend_59 {a0 : Nat} {x1 : Int32} {x2 : Int32} {x3 : Int32} {x4 : Int32} {x5 : Int32} {x6 : Int32} {T : kw_T} {n : Nat} {r : kw_R} {w : kw_L} {Q : Int32 → kw_I → Prop} {E : kw_E} {G : kw_G} (hm : kw_m E G cX10_mend 14 RX10 (some .int) rm_X10_mend "mend")  (h0 : T a0 = (0, 10))    (x7 : Int32) (i : kw_I) (h : w_X10_mend_59 a0 x1 x2 x3 x4 x5 x6 T n r w Q  x7 i) : kw_K E G 14 0 0 (kw_Z E G 0 0 (kw_PI (fun v T' n' r' i' w' => T = T' ∧ n = n' ∧ r = r' ∧ w = w' ∧ Q v i'))) 59 [(0, kw_a a0), (1, kw_i x1), (2, kw_i x2), (3, kw_i x3), (4, kw_i x4), (5, kw_i x5), (6, kw_i x6), (7, kw_i x7)] [] T n r i w := by
  refine kk_iload hm.1 7 dX10_mend_59 rfl ?_
  refine kk_if_eq (tgt := 73) hm.1 dX10_mend_61 (by decide) (fun c61 => ?_) (fun c61 => ?_)
  · have h := h.1 c61
    refine kk_loc (L' := [(0, kw_a a0), (1, kw_i x1), (2, kw_i x2), (3, kw_i x3), (4, kw_i x4), (5, kw_i x5), (6, kw_i x6)]) [0, 1, 2, 3, 4, 5, 6] rfl ?_
    exact q_X10_mend_73 hm  h0   i h
  · have h := h.2 c61
    refine kk_iload_n hm.1 2 dX10_mend_64 rfl rfl ?_
    refine kk_iconst (v := (-1 : Int32)) hm.1 dX10_mend_65 (by decide) ?_
    refine kk_icmp_eq (tgt := 73) hm.1 dX10_mend_66 (by decide) (fun c66 => ?_) (fun c66 => ?_)
    · have h := h.1 c66
      refine kk_loc (L' := [(0, kw_a a0), (1, kw_i x1), (2, kw_i x2), (3, kw_i x3), (4, kw_i x4), (5, kw_i x5), (6, kw_i x6)]) [0, 1, 2, 3, 4, 5, 6] rfl ?_
      exact q_X10_mend_73 hm  h0   i h
    · have h := h.2 c66
      refine kk_iconst (v := (1 : Int32)) hm.1 dX10_mend_69 (by decide) ?_
      refine kk_goto (tgt := 74) hm.1 dX10_mend_70 (by decide) ?_
      refine kk_loc (L' := [(0, kw_a a0), (1, kw_i x1), (2, kw_i x2), (3, kw_i x3), (4, kw_i x4), (5, kw_i x5), (6, kw_i x6)]) [0, 1, 2, 3, 4, 5, 6] rfl ?_
      exact q_X10_mend_74 hm  h0   ((1 : Int32)) i h
set_option maxHeartbeats 4000000 in
set_option maxRecDepth 100000 in
theorem q_X10_mend_30 {a0 : Nat} {x1 : Int32} {x2 : Int32} {x3 : Int32} {x4 : Int32} {x5 : Int32} {x6 : Int32} {T : kw_T} {n : Nat} {r : kw_R} {w : kw_L} {Q : Int32 → kw_I → Prop} {E : kw_E} {G : kw_G} (hm : kw_m E G cX10_mend 14 RX10 (some .int) rm_X10_mend "mend")  (h0 : T a0 = (0, 10))    (x7 : Int32) (i : kw_I) (h : w_X10_mend_30 a0 x1 x2 x3 x4 x5 x6 T n r w Q  x7 i) : kw_K E G 14 0 0 (kw_Z E G 0 0 (kw_PI (fun v T' n' r' i' w' => T = T' ∧ n = n' ∧ r = r' ∧ w = w' ∧ Q v i'))) 30 [(0, kw_a a0), (1, kw_i x1), (2, kw_i x2), (3, kw_i x3), (4, kw_i x4), (5, kw_i x5), (6, kw_i x6), (7, kw_i x7)] [] T n r i w := by
  refine kk_iload hm.1 7 dX10_mend_30 rfl ?_
  refine kk_if_ne (tgt := 59) hm.1 dX10_mend_32 (by decide) (fun c32 => ?_) (fun c32 => ?_)
  · have h := h.1 c32
    exact q_X10_mend_59 hm  h0   x7 i h
  · have h := h.2 c32
    refine kk_iload_n hm.1 2 dX10_mend_35 rfl rfl ?_
    refine kk_iconst (v := (-1 : Int32)) hm.1 dX10_mend_36 (by decide) ?_
    refine kk_icmp_ne (tgt := 57) hm.1 dX10_mend_37 (by decide) (fun c37 => ?_) (fun c37 => ?_)
    · have h := h.1 c37
      refine kk_iconst (v := (-1 : Int32)) hm.1 dX10_mend_57 (by decide) ?_
      exact kk_iret hm.1 hm.2.1 dX10_mend_58 ⟨_, rfl, rfl, rfl, rfl, rfl, h⟩
    · have h := h.2 c37
      refine kk_iload_n hm.1 3 dX10_mend_40 rfl rfl ?_
      refine kk_iconst (v := (-1 : Int32)) hm.1 dX10_mend_41 (by decide) ?_
      refine kk_icmp_ne (tgt := 57) hm.1 dX10_mend_42 (by decide) (fun c42 => ?_) (fun c42 => ?_)
      · have h := h.1 c42
        refine kk_iconst (v := (-1 : Int32)) hm.1 dX10_mend_57 (by decide) ?_
        exact kk_iret hm.1 hm.2.1 dX10_mend_58 ⟨_, rfl, rfl, rfl, rfl, rfl, h⟩
      · have h := h.2 c42
        refine kk_iload hm.1 4 dX10_mend_45 rfl ?_
        refine kk_iconst (v := (-1 : Int32)) hm.1 dX10_mend_47 (by decide) ?_
        refine kk_icmp_ne (tgt := 57) hm.1 dX10_mend_48 (by decide) (fun c48 => ?_) (fun c48 => ?_)
        · have h := h.1 c48
          refine kk_iconst (v := (-1 : Int32)) hm.1 dX10_mend_57 (by decide) ?_
          exact kk_iret hm.1 hm.2.1 dX10_mend_58 ⟨_, rfl, rfl, rfl, rfl, rfl, h⟩
        · have h := h.2 c48
          refine kk_iload hm.1 5 dX10_mend_51 rfl ?_
          refine kk_iconst (v := (-1 : Int32)) hm.1 dX10_mend_53 (by decide) ?_
          refine kk_icmp_eq (tgt := 59) hm.1 dX10_mend_54 (by decide) (fun c54 => ?_) (fun c54 => ?_)
          · have h := h.1 c54
            exact q_X10_mend_59 hm  h0   x7 i h
          · have h := h.2 c54
            refine kk_iconst (v := (-1 : Int32)) hm.1 dX10_mend_57 (by decide) ?_
            exact kk_iret hm.1 hm.2.1 dX10_mend_58 ⟨_, rfl, rfl, rfl, rfl, rfl, h⟩
set_option maxHeartbeats 4000000 in
set_option maxRecDepth 100000 in
theorem q_X10_mend_15 {a0 : Nat} {x1 : Int32} {x2 : Int32} {x3 : Int32} {x4 : Int32} {x5 : Int32} {x6 : Int32} {T : kw_T} {n : Nat} {r : kw_R} {w : kw_L} {Q : Int32 → kw_I → Prop} {E : kw_E} {G : kw_G} (hm : kw_m E G cX10_mend 14 RX10 (some .int) rm_X10_mend "mend")  (h0 : T a0 = (0, 10))    (s0 : Int32) (i : kw_I) (h : w_X10_mend_15 a0 x1 x2 x3 x4 x5 x6 T n r w Q  s0 i) : kw_K E G 14 0 0 (kw_Z E G 0 0 (kw_PI (fun v T' n' r' i' w' => T = T' ∧ n = n' ∧ r = r' ∧ w = w' ∧ Q v i'))) 15 [(0, kw_a a0), (1, kw_i x1), (2, kw_i x2), (3, kw_i x3), (4, kw_i x4), (5, kw_i x5), (6, kw_i x6)] [kw_i s0] T n r i w := by
  refine kk_istore (L' := [(7, kw_i s0), (0, kw_a a0), (1, kw_i x1), (2, kw_i x2), (3, kw_i x3), (4, kw_i x4), (5, kw_i x5), (6, kw_i x6)]) hm.1 dX10_mend_15 (by decide) rfl ?_
  refine kk_iload hm.1 0 dX10_mend_17 rfl ?_
  refine kk_if_eq (tgt := 30) hm.1 dX10_mend_19 (by decide) (fun c19 => ?_) (fun c19 => ?_)
  · have h := h.1 c19
    refine kk_loc (L' := [(0, kw_a a0), (1, kw_i x1), (2, kw_i x2), (3, kw_i x3), (4, kw_i x4), (5, kw_i x5), (6, kw_i x6), (7, kw_i s0)]) [1, 2, 3, 4, 5, 6, 7, 0] rfl ?_
    exact q_X10_mend_30 hm  h0   s0 i h
  · have h := h.2 c19
    refine kk_aload_n hm.1 1 dX10_mend_22 rfl rfl ?_
    refine kk_iload_n hm.1 2 dX10_mend_23 rfl rfl ?_
    refine kk_callVi (cs' := 0) (sl' := 0) (st := []) hm.1 cv_X10_310 (t_X10_eats h0 h) dX10_mend_24 h0 rfl rfl hm.2.2.1 ⟨by decide, by decide⟩ ⟨by decide, by decide⟩ rfl rfl (Nat.le_of_ble_eq_true rfl) rfl ?_
    rintro v24 _ _ _ i24 _ ⟨rfl, rfl, rfl, rfl, h⟩
    refine kk_if_eq (tgt := 57) hm.1 dX10_mend_27 (by decide) (fun c27 => ?_) (fun c27 => ?_)
    · have h := h.1 c27
      refine kk_iconst (v := (-1 : Int32)) hm.1 dX10_mend_57 (by decide) ?_
      exact kk_iret hm.1 hm.2.1 dX10_mend_58 ⟨_, rfl, rfl, rfl, rfl, rfl, h⟩
    · have h := h.2 c27
      refine kk_loc (L' := [(0, kw_a a0), (1, kw_i x1), (2, kw_i x2), (3, kw_i x3), (4, kw_i x4), (5, kw_i x5), (6, kw_i x6), (7, kw_i s0)]) [1, 2, 3, 4, 5, 6, 7, 0] rfl ?_
      exact q_X10_mend_30 hm  h0   s0 i24 h
set_option maxHeartbeats 4000000 in
set_option maxRecDepth 100000 in
theorem t_X10_mend {l : Launch} {G : kw_G} {a0 : Nat} {x1 : Int32} {x2 : Int32} {x3 : Int32} {x4 : Int32} {x5 : Int32} {x6 : Int32} {T : kw_T} {n : Nat} {r : kw_R} {i : kw_I} {w : kw_L} {Q : Int32 → kw_I → Prop} (h0 : T a0 = (0, 10)) (h : w_X10_mend a0 x1 x2 x3 x4 x5 x6 T n r i w Q) : kw_Met l G yX10_mend cX10_mend 14 (some .int) rm_X10_mend [kw_a a0, kw_i x1, kw_i x2, kw_i x3, kw_i x4, kw_i x5, kw_i x6] (T, n, r, i, w) (kw_PI (fun v T' n' r' i' w' => T = T' ∧ n = n' ∧ r = r' ∧ w = w' ∧ Q v i')) := by
  refine kw_Met.of (by decide) (Nat.le_of_ble_eq_true rfl) fun E hl hRm hE hT hnm => ?_
  have hm : kw_m E G cX10_mend 14 RX10 (some .int) rm_X10_mend "mend" := ⟨hE, hT, hRm, hnm⟩
  subst hl
  show kw_K E G 14 0 0 (kw_Z E G 0 0 (kw_PI (fun v T' n' r' i' w' => T = T' ∧ n = n' ∧ r = r' ∧ w = w' ∧ Q v i'))) 0 [(0, kw_a a0), (1, kw_i x1), (2, kw_i x2), (3, kw_i x3), (4, kw_i x4), (5, kw_i x5), (6, kw_i x6)] [] T n r i w
  refine kk_aload_n hm.1 0 dX10_mend_0 rfl rfl ?_
  refine kk_iconst (v := (0 : Int32)) hm.1 dX10_mend_1 (by decide) ?_
  refine kn_putI hm.1 fp_X10_307 dX10_mend_2 h0 (fun i2 e2 => ?_)
  have h := h i2 e2
  refine kk_iload_n hm.1 1 dX10_mend_5 rfl rfl ?_
  refine kk_iconst (v := (-1 : Int32)) hm.1 dX10_mend_6 (by decide) ?_
  refine kk_icmp_eq (tgt := 14) hm.1 dX10_mend_7 (by decide) (fun c7 => ?_) (fun c7 => ?_)
  · have h := h.1 c7
    refine kk_iconst (v := (0 : Int32)) hm.1 dX10_mend_14 (by decide) ?_
    exact q_X10_mend_15 hm  h0   ((0 : Int32)) i2 h
  · have h := h.2 c7
    refine kk_iconst (v := (1 : Int32)) hm.1 dX10_mend_10 (by decide) ?_
    refine kk_goto (tgt := 15) hm.1 dX10_mend_11 (by decide) ?_
    exact q_X10_mend_15 hm  h0   ((1 : Int32)) i2 h
def s_X10_weavers_56 (a0 : Nat) (x1 : Int32) (T : kw_T) (n : Nat) (r : kw_R) (w : kw_L) (Q : Int32 → kw_I → Prop)  (k56 : Int32 → kw_I → Prop) (x2 : Int32) (i : kw_I) : Prop :=
  ((36 : Int32) ≤ x2 → ∀ i85 : kw_I, i85 = kw_st i a0 32 (1 : Int32) → (w_X10_goes a0 (r a0 25) (0 : Int32) T n r i85 w (fun i94 => ∀ i99 : kw_I, i99 = kw_st i94 a0 32 (0 : Int32) → (w_X10_endOf a0 T n r i99 w (fun v108 => w_X10_likeness (r a0 25) v108 (r a0 2) (60 : Int32) T n r i99 w (fun v117 => w_X10_good a0 v117 T n r i99 w (fun v120 i120 => Q v120 i120))))))) ∧ (¬ (36 : Int32) ≤ x2 → kw_in T 1 (r a0 2) ((60 : Int32) + x2) ∧ (kw_in T 1 (r a0 25) x2 ∧ (∀ i76 : kw_I, i76 = kw_st i (r a0 25) (x2).toNatClampNeg (i (r a0 2) (((60 : Int32) + x2)).toNatClampNeg) → (k56 ((x2 + (1 : Int32))) i76))))
def w_X10_weavers_56 (a0 : Nat) (x1 : Int32) (T : kw_T) (n : Nat) (r : kw_R) (w : kw_L) (Q : Int32 → kw_I → Prop)  : Nat → Int32 → kw_I → Prop
  | 0 => fun _ _ => False
  | N + 1 => s_X10_weavers_56 a0 x1 T n r w Q  (w_X10_weavers_56 a0 x1 T n r w Q  N)
def s_X10_weavers_35 (a0 : Nat) (x1 : Int32) (T : kw_T) (n : Nat) (r : kw_R) (w : kw_L) (Q : Int32 → kw_I → Prop)  (k35 : Int32 → kw_I → Prop) (x2 : Int32) (i : kw_I) : Prop :=
  ((10 : Int32) ≤ x2 → ∃ N, w_X10_weavers_56 a0 x1 T n r w Q  N ((0 : Int32)) i) ∧ (¬ (10 : Int32) ≤ x2 → kw_in T 1 (r a0 26) x2 ∧ (∀ i47 : kw_I, i47 = kw_st i (r a0 26) (x2).toNatClampNeg (0 : Int32) → (k35 ((x2 + (1 : Int32))) i47)))
def w_X10_weavers_35 (a0 : Nat) (x1 : Int32) (T : kw_T) (n : Nat) (r : kw_R) (w : kw_L) (Q : Int32 → kw_I → Prop)  : Nat → Int32 → kw_I → Prop
  | 0 => fun _ _ => False
  | N + 1 => s_X10_weavers_35 a0 x1 T n r w Q  (w_X10_weavers_35 a0 x1 T n r w Q  N)
def w_X10_weavers  (a0 : Nat) (x1 : Int32) (T : kw_T) (n : Nat) (r : kw_R) (i : kw_I) (w : kw_L) (Q : Int32 → kw_I → Prop) : Prop :=
  w_X10_lies x1 (0 : Int32) (1000000 : Int32) T n r i w (fun v4 => (¬ v4 = 0 → w_X10_plain a0 T n r i w (fun i17 => ∀ i22 : kw_I, i22 = kw_st i17 a0 37 x1 → (w_X10_villages a0 T n r i22 w (fun v27 => ∀ i30 : kw_I, i30 = kw_st i22 a0 36 v27 → (∃ N, w_X10_weavers_35 a0 x1 T n r w Q  N ((0 : Int32)) i30))))) ∧ (v4 = 0 → w_X10_refuses a0 (-1 : Int32) T n r i w (fun v12 i12 => Q v12 i12)))
abbrev rm_X10_weavers : Room := { frames := 128, cells := 0, slots := 0, locals := 6232 }
set_option maxHeartbeats 4000000 in
set_option maxRecDepth 100000 in
theorem qs_X10_weavers_56 {a0 : Nat} {x1 : Int32} {T : kw_T} {n : Nat} {r : kw_R} {w : kw_L} {Q : Int32 → kw_I → Prop} {E : kw_E} {G : kw_G} (hm : kw_m E G cX10_weavers 3 RX10 (some .int) rm_X10_weavers "weavers")  (h0 : T a0 = (0, 10))    {k56 : Int32 → kw_I → Prop} (hk56 : ∀ (x2 : Int32) (i : kw_I), k56 x2 i → kw_K E G 3 0 0 (kw_Z E G 0 0 (kw_PI (fun v T' n' r' i' w' => T = T' ∧ n = n' ∧ r = r' ∧ w = w' ∧ Q v i'))) 56 [(0, kw_a a0), (1, kw_i x1), (2, kw_i x2)] [] T n r i w) (x2 : Int32) (i : kw_I) (h : s_X10_weavers_56 a0 x1 T n r w Q  k56 x2 i) : kw_K E G 3 0 0 (kw_Z E G 0 0 (kw_PI (fun v T' n' r' i' w' => T = T' ∧ n = n' ∧ r = r' ∧ w = w' ∧ Q v i'))) 56 [(0, kw_a a0), (1, kw_i x1), (2, kw_i x2)] [] T n r i w := by
  refine kk_iload_n hm.1 2 dX10_weavers_56 rfl rfl ?_
  refine kk_bipush (v := (36 : Int32)) hm.1 dX10_weavers_57 (by decide) ?_
  refine kk_icmp_ge (tgt := 83) hm.1 dX10_weavers_59 (by decide) (fun c59 => ?_) (fun c59 => ?_)
  · have h := h.1 c59
    refine kk_aload_n hm.1 0 dX10_weavers_83 rfl rfl ?_
    refine kk_iconst (v := (1 : Int32)) hm.1 dX10_weavers_84 (by decide) ?_
    refine kn_putZ hm.1 fp_X10_248 dX10_weavers_85 h0 (Or.inr rfl) (fun i85 e85 => ?_)
    have h := h i85 e85
    refine kk_aload_n hm.1 0 dX10_weavers_88 rfl rfl ?_
    refine kk_aload_n hm.1 0 dX10_weavers_89 rfl rfl ?_
    refine kk_getR hm.1 ff_X10_61 dX10_weavers_90 h0 ?_
    refine kk_iconst (v := (0 : Int32)) hm.1 dX10_weavers_93 (by decide) ?_
    refine kk_callVv (cs' := 0) (sl' := 0) (st := []) hm.1 cv_X10_273 (t_X10_goes h0 h) dX10_weavers_94 h0 rfl rfl hm.2.2.1 ⟨by decide, by decide⟩ ⟨by decide, by decide⟩ rfl rfl (Nat.le_of_ble_eq_true rfl) rfl ?_
    rintro _ _ _ i94 _ ⟨rfl, rfl, rfl, rfl, h⟩
    refine kk_aload_n hm.1 0 dX10_weavers_97 rfl rfl ?_
    refine kk_iconst (v := (0 : Int32)) hm.1 dX10_weavers_98 (by decide) ?_
    refine kn_putZ hm.1 fp_X10_248 dX10_weavers_99 h0 (Or.inl rfl) (fun i99 e99 => ?_)
    have h := h i99 e99
    refine kk_aload_n hm.1 0 dX10_weavers_102 rfl rfl ?_
    refine kk_aload_n hm.1 0 dX10_weavers_103 rfl rfl ?_
    refine kk_getR hm.1 ff_X10_61 dX10_weavers_104 h0 ?_
    refine kk_aload_n hm.1 0 dX10_weavers_107 rfl rfl ?_
    refine kk_callVi (cs' := 0) (sl' := 0) (st := [kw_a (r a0 25), kw_a a0]) hm.1 cv_X10_293 (t_X10_endOf h0 h) dX10_weavers_108 h0 rfl rfl hm.2.2.1 ⟨by decide, by decide⟩ ⟨by decide, by decide⟩ rfl rfl (Nat.le_of_ble_eq_true rfl) rfl ?_
    rintro v108 _ _ _ _ _ ⟨rfl, rfl, rfl, rfl, rfl, h⟩
    refine kk_aload_n hm.1 0 dX10_weavers_111 rfl rfl ?_
    refine kk_getR hm.1 ff_X10_17 dX10_weavers_112 h0 ?_
    refine kk_bipush (v := (60 : Int32)) hm.1 dX10_weavers_115 (by decide) ?_
    refine kk_callSi (cs' := 0) (sl' := 0) (st := [kw_a a0]) hm.1 cs_X10_289 (t_X10_likeness h) dX10_weavers_117 rfl hm.2.2.1 ⟨by decide, by decide⟩ ⟨by decide, by decide⟩ rfl rfl (Nat.le_of_ble_eq_true rfl) rfl ?_
    rintro v117 _ _ _ _ _ ⟨rfl, rfl, rfl, rfl, rfl, h⟩
    refine kk_callVi (cs' := 0) (sl' := 0) (st := []) hm.1 cv_X10_81 (t_X10_good h0 h) dX10_weavers_120 h0 rfl rfl hm.2.2.1 ⟨by decide, by decide⟩ ⟨by decide, by decide⟩ rfl rfl (Nat.le_of_ble_eq_true rfl) rfl ?_
    rintro v120 _ _ _ i120 _ ⟨rfl, rfl, rfl, rfl, h⟩
    exact kk_iret hm.1 hm.2.1 dX10_weavers_123 ⟨_, rfl, rfl, rfl, rfl, rfl, h⟩
  · have h := h.2 c59
    refine kk_aload_n hm.1 0 dX10_weavers_62 rfl rfl ?_
    refine kk_getR hm.1 ff_X10_61 dX10_weavers_63 h0 ?_
    refine kk_iload_n hm.1 2 dX10_weavers_66 rfl rfl ?_
    refine kk_aload_n hm.1 0 dX10_weavers_67 rfl rfl ?_
    refine kk_getR hm.1 ff_X10_17 dX10_weavers_68 h0 ?_
    refine kk_bipush (v := (60 : Int32)) hm.1 dX10_weavers_71 (by decide) ?_
    refine kk_iload_n hm.1 2 dX10_weavers_73 rfl rfl ?_
    refine kk_iadd hm.1 dX10_weavers_74 ?_
    obtain ⟨o75, h⟩ := h
    refine kk_iaload hm.1 dX10_weavers_75 o75 ?_
    obtain ⟨o76, h⟩ := h
    refine kn_iastore hm.1 dX10_weavers_76 o76 (fun i76 e76 => ?_)
    have h := h i76 e76
    refine kk_iinc (v := (x2 + (1 : Int32))) (L' := [(2, kw_i (x2 + (1 : Int32))), (0, kw_a a0), (1, kw_i x1)]) hm.1 2 dX10_weavers_77 rfl rfl (by decide) rfl ?_
    refine kk_goto (tgt := 56) hm.1 dX10_weavers_80 (by decide) ?_
    refine kk_loc (L' := [(0, kw_a a0), (1, kw_i x1), (2, kw_i (x2 + (1 : Int32)))]) [1, 2, 0] rfl ?_
    exact hk56 ((x2 + (1 : Int32))) i76 h
set_option maxHeartbeats 4000000 in
set_option maxRecDepth 100000 in
theorem q_X10_weavers_56 {a0 : Nat} {x1 : Int32} {T : kw_T} {n : Nat} {r : kw_R} {w : kw_L} {Q : Int32 → kw_I → Prop} {E : kw_E} {G : kw_G} (hm : kw_m E G cX10_weavers 3 RX10 (some .int) rm_X10_weavers "weavers")  (h0 : T a0 = (0, 10))    : ∀ (N : Nat) (x2 : Int32) (i : kw_I), w_X10_weavers_56 a0 x1 T n r w Q  N x2 i → kw_K E G 3 0 0 (kw_Z E G 0 0 (kw_PI (fun v T' n' r' i' w' => T = T' ∧ n = n' ∧ r = r' ∧ w = w' ∧ Q v i'))) 56 [(0, kw_a a0), (1, kw_i x1), (2, kw_i x2)] [] T n r i w := by
  intro N
  induction N with
  | zero => intro x2 i h; exact h.elim
  | succ N ih => intro x2 i h; exact qs_X10_weavers_56 hm  h0  ih x2 i h
set_option maxHeartbeats 4000000 in
set_option maxRecDepth 100000 in
theorem qs_X10_weavers_35 {a0 : Nat} {x1 : Int32} {T : kw_T} {n : Nat} {r : kw_R} {w : kw_L} {Q : Int32 → kw_I → Prop} {E : kw_E} {G : kw_G} (hm : kw_m E G cX10_weavers 3 RX10 (some .int) rm_X10_weavers "weavers")  (h0 : T a0 = (0, 10))    {k35 : Int32 → kw_I → Prop} (hk35 : ∀ (x2 : Int32) (i : kw_I), k35 x2 i → kw_K E G 3 0 0 (kw_Z E G 0 0 (kw_PI (fun v T' n' r' i' w' => T = T' ∧ n = n' ∧ r = r' ∧ w = w' ∧ Q v i'))) 35 [(0, kw_a a0), (1, kw_i x1), (2, kw_i x2)] [] T n r i w) (x2 : Int32) (i : kw_I) (h : s_X10_weavers_35 a0 x1 T n r w Q  k35 x2 i) : kw_K E G 3 0 0 (kw_Z E G 0 0 (kw_PI (fun v T' n' r' i' w' => T = T' ∧ n = n' ∧ r = r' ∧ w = w' ∧ Q v i'))) 35 [(0, kw_a a0), (1, kw_i x1), (2, kw_i x2)] [] T n r i w := by
  refine kk_iload_n hm.1 2 dX10_weavers_35 rfl rfl ?_
  refine kk_bipush (v := (10 : Int32)) hm.1 dX10_weavers_36 (by decide) ?_
  refine kk_icmp_ge (tgt := 54) hm.1 dX10_weavers_38 (by decide) (fun c38 => ?_) (fun c38 => ?_)
  · have h := h.1 c38
    refine kk_iconst (v := (0 : Int32)) hm.1 dX10_weavers_54 (by decide) ?_
    refine kk_istore_n (L' := [(2, kw_i (0 : Int32)), (0, kw_a a0), (1, kw_i x1)]) hm.1 dX10_weavers_55 rfl (by decide) rfl ?_
    refine kk_loc (L' := [(0, kw_a a0), (1, kw_i x1), (2, kw_i (0 : Int32))]) [1, 2, 0] rfl ?_
    obtain ⟨N, h⟩ := h
    exact q_X10_weavers_56 hm  h0   N ((0 : Int32)) i h
  · have h := h.2 c38
    refine kk_aload_n hm.1 0 dX10_weavers_41 rfl rfl ?_
    refine kk_getR hm.1 ff_X10_64 dX10_weavers_42 h0 ?_
    refine kk_iload_n hm.1 2 dX10_weavers_45 rfl rfl ?_
    refine kk_iconst (v := (0 : Int32)) hm.1 dX10_weavers_46 (by decide) ?_
    obtain ⟨o47, h⟩ := h
    refine kn_iastore hm.1 dX10_weavers_47 o47 (fun i47 e47 => ?_)
    have h := h i47 e47
    refine kk_iinc (v := (x2 + (1 : Int32))) (L' := [(2, kw_i (x2 + (1 : Int32))), (0, kw_a a0), (1, kw_i x1)]) hm.1 2 dX10_weavers_48 rfl rfl (by decide) rfl ?_
    refine kk_goto (tgt := 35) hm.1 dX10_weavers_51 (by decide) ?_
    refine kk_loc (L' := [(0, kw_a a0), (1, kw_i x1), (2, kw_i (x2 + (1 : Int32)))]) [1, 2, 0] rfl ?_
    exact hk35 ((x2 + (1 : Int32))) i47 h
set_option maxHeartbeats 4000000 in
set_option maxRecDepth 100000 in
theorem q_X10_weavers_35 {a0 : Nat} {x1 : Int32} {T : kw_T} {n : Nat} {r : kw_R} {w : kw_L} {Q : Int32 → kw_I → Prop} {E : kw_E} {G : kw_G} (hm : kw_m E G cX10_weavers 3 RX10 (some .int) rm_X10_weavers "weavers")  (h0 : T a0 = (0, 10))    : ∀ (N : Nat) (x2 : Int32) (i : kw_I), w_X10_weavers_35 a0 x1 T n r w Q  N x2 i → kw_K E G 3 0 0 (kw_Z E G 0 0 (kw_PI (fun v T' n' r' i' w' => T = T' ∧ n = n' ∧ r = r' ∧ w = w' ∧ Q v i'))) 35 [(0, kw_a a0), (1, kw_i x1), (2, kw_i x2)] [] T n r i w := by
  intro N
  induction N with
  | zero => intro x2 i h; exact h.elim
  | succ N ih => intro x2 i h; exact qs_X10_weavers_35 hm  h0  ih x2 i h
set_option maxHeartbeats 4000000 in
set_option maxRecDepth 100000 in
theorem t_X10_weavers {l : Launch} {G : kw_G} {a0 : Nat} {x1 : Int32} {T : kw_T} {n : Nat} {r : kw_R} {i : kw_I} {w : kw_L} {Q : Int32 → kw_I → Prop} (h0 : T a0 = (0, 10)) (h : w_X10_weavers a0 x1 T n r i w Q) : kw_Met l G yX10_weavers cX10_weavers 3 (some .int) rm_X10_weavers [kw_a a0, kw_i x1] (T, n, r, i, w) (kw_PI (fun v T' n' r' i' w' => T = T' ∧ n = n' ∧ r = r' ∧ w = w' ∧ Q v i')) := by
  refine kw_Met.of (by decide) (Nat.le_of_ble_eq_true rfl) fun E hl hRm hE hT hnm => ?_
  have hm : kw_m E G cX10_weavers 3 RX10 (some .int) rm_X10_weavers "weavers" := ⟨hE, hT, hRm, hnm⟩
  subst hl
  show kw_K E G 3 0 0 (kw_Z E G 0 0 (kw_PI (fun v T' n' r' i' w' => T = T' ∧ n = n' ∧ r = r' ∧ w = w' ∧ Q v i'))) 0 [(0, kw_a a0), (1, kw_i x1)] [] T n r i w
  refine kk_iload_n hm.1 1 dX10_weavers_0 rfl rfl ?_
  refine kk_iconst (v := (0 : Int32)) hm.1 dX10_weavers_1 (by decide) ?_
  refine kk_ldc (v := (1000000 : Int32)) hm.1 dX10_weavers_2 wc_X10_128 ?_
  refine kk_callSi (cs' := 0) (sl' := 0) (st := []) hm.1 cs_X10_73 (t_X10_lies h) dX10_weavers_4 rfl hm.2.2.1 ⟨by decide, by decide⟩ ⟨by decide, by decide⟩ rfl rfl (Nat.le_of_ble_eq_true rfl) rfl ?_
  rintro v4 _ _ _ _ _ ⟨rfl, rfl, rfl, rfl, rfl, h⟩
  refine kk_if_ne (tgt := 16) hm.1 dX10_weavers_7 (by decide) (fun c7 => ?_) (fun c7 => ?_)
  · have h := h.1 c7
    refine kk_aload_n hm.1 0 dX10_weavers_16 rfl rfl ?_
    refine kk_callVv (cs' := 0) (sl' := 0) (st := []) hm.1 cv_X10_270 (t_X10_plain h0 h) dX10_weavers_17 h0 rfl rfl hm.2.2.1 ⟨by decide, by decide⟩ ⟨by decide, by decide⟩ rfl rfl (Nat.le_of_ble_eq_true rfl) rfl ?_
    rintro _ _ _ i17 _ ⟨rfl, rfl, rfl, rfl, h⟩
    refine kk_aload_n hm.1 0 dX10_weavers_20 rfl rfl ?_
    refine kk_iload_n hm.1 1 dX10_weavers_21 rfl rfl ?_
    refine kn_putI hm.1 fp_X10_315 dX10_weavers_22 h0 (fun i22 e22 => ?_)
    have h := h i22 e22
    refine kk_aload_n hm.1 0 dX10_weavers_25 rfl rfl ?_
    refine kk_aload_n hm.1 0 dX10_weavers_26 rfl rfl ?_
    refine kk_callVi (cs' := 0) (sl' := 0) (st := [kw_a a0]) hm.1 cv_X10_84 (t_X10_villages h0 h) dX10_weavers_27 h0 rfl rfl hm.2.2.1 ⟨by decide, by decide⟩ ⟨by decide, by decide⟩ rfl rfl (Nat.le_of_ble_eq_true rfl) rfl ?_
    rintro v27 _ _ _ _ _ ⟨rfl, rfl, rfl, rfl, rfl, h⟩
    refine kn_putI hm.1 fp_X10_322 dX10_weavers_30 h0 (fun i30 e30 => ?_)
    have h := h i30 e30
    refine kk_iconst (v := (0 : Int32)) hm.1 dX10_weavers_33 (by decide) ?_
    refine kk_istore_n (L' := [(2, kw_i (0 : Int32)), (0, kw_a a0), (1, kw_i x1)]) hm.1 dX10_weavers_34 rfl (by decide) rfl ?_
    refine kk_loc (L' := [(0, kw_a a0), (1, kw_i x1), (2, kw_i (0 : Int32))]) [1, 2, 0] rfl ?_
    obtain ⟨N, h⟩ := h
    exact q_X10_weavers_35 hm  h0   N ((0 : Int32)) i30 h
  · have h := h.2 c7
    refine kk_aload_n hm.1 0 dX10_weavers_10 rfl rfl ?_
    refine kk_iconst (v := (-1 : Int32)) hm.1 dX10_weavers_11 (by decide) ?_
    refine kk_callVi (cs' := 0) (sl' := 0) (st := []) hm.1 cv_X10_77 (t_X10_refuses h0 h) dX10_weavers_12 h0 rfl rfl hm.2.2.1 ⟨by decide, by decide⟩ ⟨by decide, by decide⟩ rfl rfl (Nat.le_of_ble_eq_true rfl) rfl ?_
    rintro v12 _ _ _ i12 _ ⟨rfl, rfl, rfl, rfl, h⟩
    exact kk_iret hm.1 hm.2.1 dX10_weavers_15 ⟨_, rfl, rfl, rfl, rfl, rfl, h⟩
