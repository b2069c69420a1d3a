def s_X10_init_540 (a0 : Nat) (w : kw_L) (Q : kw_T → Nat → kw_R → kw_I → Prop)  (k540 : Int32 → kw_T → Nat → kw_R → kw_I → Prop) (x1 : Int32) (T : kw_T) (n : Nat) (r : kw_R) (i : kw_I) : Prop :=
  ((8 : Int32) ≤ x1 → T a0 = (0, 10) ∧ (kw_in T 1 (r a0 2) (176 : Int32) ∧ (∀ i572 : kw_I, i572 = kw_st i (r a0 2) ((176 : Int32)).toNatClampNeg (10 : Int32) → (kw_in T 1 (r a0 2) (180 : Int32) ∧ (∀ i581 : kw_I, i581 = kw_st i572 (r a0 2) ((180 : Int32)).toNatClampNeg (-1 : Int32) → (Q T n r i581)))))) ∧ (¬ (8 : Int32) ≤ x1 → T a0 = (0, 10) ∧ (kw_in T 1 (r a0 2) ((168 : Int32) + x1) ∧ (∀ i556 : kw_I, i556 = kw_st i (r a0 2) (((168 : Int32) + x1)).toNatClampNeg (1 : Int32) → (k540 ((x1 + (1 : Int32))) T n r i556))))
def w_X10_init_540 (a0 : Nat) (w : kw_L) (Q : kw_T → Nat → kw_R → kw_I → Prop)  : Nat → Int32 → kw_T → Nat → kw_R → kw_I → Prop
  | 0 => fun _ _ _ _ _ => False
  | N + 1 => s_X10_init_540 a0 w Q  (w_X10_init_540 a0 w Q  N)
set_option maxHeartbeats 4000000 in
set_option maxRecDepth 100000 in
def w_X10_init  (a0 : Nat) (T : kw_T) (n : Nat) (r : kw_R) (i : kw_I) (w : kw_L) (Q : kw_T → Nat → kw_R → kw_I → Prop) : Prop :=
  kw_al n 1 ∧ (∀ (T7 : kw_T) (i7 : kw_I), T7 = kw_row T n (1, 7) → i7 = kw_row i n (fun _ => 0) → (T7 a0 = (0, 10) ∧ (∀ r9 : kw_R, r9 = kw_st r a0 1 n → (kw_al (n + 1) 1 ∧ (∀ (T16 : kw_T) (i16 : kw_I), T16 = kw_row T7 (n + 1) (1, 4987) → i16 = kw_row i7 (n + 1) (fun _ => 0) → (T16 a0 = (0, 10) ∧ (∀ r18 : kw_R, r18 = kw_st r9 a0 2 (n + 1) → (kw_al ((n + 1) + 1) 1 ∧ (∀ (T25 : kw_T) (i25 : kw_I), T25 = kw_row T16 ((n + 1) + 1) (1, 9974) → i25 = kw_row i16 ((n + 1) + 1) (fun _ => 0) → (T25 a0 = (0, 10) ∧ (∀ r27 : kw_R, r27 = kw_st r18 a0 3 ((n + 1) + 1) → (kw_al (((n + 1) + 1) + 1) 1 ∧ (∀ (T32 : kw_T) (i32 : kw_I), T32 = kw_row T25 (((n + 1) + 1) + 1) (3, 2) → i32 = kw_row i25 (((n + 1) + 1) + 1) (fun _ => 0) → (T32 a0 = (0, 10) ∧ (∀ r34 : kw_R, r34 = kw_st r27 a0 4 (((n + 1) + 1) + 1) → (kw_al ((((n + 1) + 1) + 1) + 1) 1 ∧ (∀ (T40 : kw_T) (i40 : kw_I), T40 = kw_row T32 ((((n + 1) + 1) + 1) + 1) (2, 64) → i40 = kw_row i32 ((((n + 1) + 1) + 1) + 1) (fun _ => 0) → (kw_in T40 2 ((((n + 1) + 1) + 1) + 1) (0 : Int32) ∧ (∀ i46 : kw_I, i46 = kw_st i40 ((((n + 1) + 1) + 1) + 1) ((0 : Int32)).toNatClampNeg (vp_nar .byte (119 : Int32)) → (kw_in T40 2 ((((n + 1) + 1) + 1) + 1) (1 : Int32) ∧ (∀ i51 : kw_I, i51 = kw_st i46 ((((n + 1) + 1) + 1) + 1) ((1 : Int32)).toNatClampNeg (vp_nar .byte (101 : Int32)) → (kw_in T40 2 ((((n + 1) + 1) + 1) + 1) (2 : Int32) ∧ (∀ i56 : kw_I, i56 = kw_st i51 ((((n + 1) + 1) + 1) + 1) ((2 : Int32)).toNatClampNeg (vp_nar .byte (97 : Int32)) → (kw_in T40 2 ((((n + 1) + 1) + 1) + 1) (3 : Int32) ∧ (∀ i61 : kw_I, i61 = kw_st i56 ((((n + 1) + 1) + 1) + 1) ((3 : Int32)).toNatClampNeg (vp_nar .byte (118 : Int32)) → (kw_in T40 2 ((((n + 1) + 1) + 1) + 1) (4 : Int32) ∧ (∀ i66 : kw_I, i66 = kw_st i61 ((((n + 1) + 1) + 1) + 1) ((4 : Int32)).toNatClampNeg (vp_nar .byte (101 : Int32)) → (kw_in T40 2 ((((n + 1) + 1) + 1) + 1) (5 : Int32) ∧ (∀ i71 : kw_I, i71 = kw_st i66 ((((n + 1) + 1) + 1) + 1) ((5 : Int32)).toNatClampNeg (vp_nar .byte (115 : Int32)) → (kw_in T40 2 ((((n + 1) + 1) + 1) + 1) (6 : Int32) ∧ (∀ i77 : kw_I, i77 = kw_st i71 ((((n + 1) + 1) + 1) + 1) ((6 : Int32)).toNatClampNeg (vp_nar .byte (32 : Int32)) → (kw_in T40 2 ((((n + 1) + 1) + 1) + 1) (7 : Int32) ∧ (∀ i83 : kw_I, i83 = kw_st i77 ((((n + 1) + 1) + 1) + 1) ((7 : Int32)).toNatClampNeg (vp_nar .byte (105 : Int32)) → (kw_in T40 2 ((((n + 1) + 1) + 1) + 1) (8 : Int32) ∧ (∀ i89 : kw_I, i89 = kw_st i83 ((((n + 1) + 1) + 1) + 1) ((8 : Int32)).toNatClampNeg (vp_nar .byte (102 : Int32)) → (kw_in T40 2 ((((n + 1) + 1) + 1) + 1) (9 : Int32) ∧ (∀ i95 : kw_I, i95 = kw_st i89 ((((n + 1) + 1) + 1) + 1) ((9 : Int32)).toNatClampNeg (vp_nar .byte (32 : Int32)) → (kw_in T40 2 ((((n + 1) + 1) + 1) + 1) (10 : Int32) ∧ (∀ i101 : kw_I, i101 = kw_st i95 ((((n + 1) + 1) + 1) + 1) ((10 : Int32)).toNatClampNeg (vp_nar .byte (111 : Int32)) → (kw_in T40 2 ((((n + 1) + 1) + 1) + 1) (11 : Int32) ∧ (∀ i107 : kw_I, i107 = kw_st i101 ((((n + 1) + 1) + 1) + 1) ((11 : Int32)).toNatClampNeg (vp_nar .byte (114 : Int32)) → (kw_in T40 2 ((((n + 1) + 1) + 1) + 1) (12 : Int32) ∧ (∀ i113 : kw_I, i113 = kw_st i107 ((((n + 1) + 1) + 1) + 1) ((12 : Int32)).toNatClampNeg (vp_nar .byte (32 : Int32)) → (kw_in T40 2 ((((n + 1) + 1) + 1) + 1) (13 : Int32) ∧ (∀ i119 : kw_I, i119 = kw_st i113 ((((n + 1) + 1) + 1) + 1) ((13 : Int32)).toNatClampNeg (vp_nar .byte (97 : Int32)) → (kw_in T40 2 ((((n + 1) + 1) + 1) + 1) (14 : Int32) ∧ (∀ i125 : kw_I, i125 = kw_st i119 ((((n + 1) + 1) + 1) + 1) ((14 : Int32)).toNatClampNeg (vp_nar .byte (110 : Int32)) → (kw_in T40 2 ((((n + 1) + 1) + 1) + 1) (15 : Int32) ∧ (∀ i131 : kw_I, i131 = kw_st i125 ((((n + 1) + 1) + 1) + 1) ((15 : Int32)).toNatClampNeg (vp_nar .byte (100 : Int32)) → (kw_in T40 2 ((((n + 1) + 1) + 1) + 1) (16 : Int32) ∧ (∀ i137 : kw_I, i137 = kw_st i131 ((((n + 1) + 1) + 1) + 1) ((16 : Int32)).toNatClampNeg (vp_nar .byte (32 : Int32)) → (kw_in T40 2 ((((n + 1) + 1) + 1) + 1) (17 : Int32) ∧ (∀ i143 : kw_I, i143 = kw_st i137 ((((n + 1) + 1) + 1) + 1) ((17 : Int32)).toNatClampNeg (vp_nar .byte (110 : Int32)) → (kw_in T40 2 ((((n + 1) + 1) + 1) + 1) (18 : Int32) ∧ (∀ i149 : kw_I, i149 = kw_st i143 ((((n + 1) + 1) + 1) + 1) ((18 : Int32)).toNatClampNeg (vp_nar .byte (111 : Int32)) → (kw_in T40 2 ((((n + 1) + 1) + 1) + 1) (19 : Int32) ∧ (∀ i155 : kw_I, i155 = kw_st i149 ((((n + 1) + 1) + 1) + 1) ((19 : Int32)).toNatClampNeg (vp_nar .byte (116 : Int32)) → (kw_in T40 2 ((((n + 1) + 1) + 1) + 1) (20 : Int32) ∧ (∀ i161 : kw_I, i161 = kw_st i155 ((((n + 1) + 1) + 1) + 1) ((20 : Int32)).toNatClampNeg (vp_nar .byte (32 : Int32)) → (kw_in T40 2 ((((n + 1) + 1) + 1) + 1) (21 : Int32) ∧ (∀ i167 : kw_I, i167 = kw_st i161 ((((n + 1) + 1) + 1) + 1) ((21 : Int32)).toNatClampNeg (vp_nar .byte (120 : Int32)) → (kw_in T40 2 ((((n + 1) + 1) + 1) + 1) (22 : Int32) ∧ (∀ i173 : kw_I, i173 = kw_st i167 ((((n + 1) + 1) + 1) + 1) ((22 : Int32)).toNatClampNeg (vp_nar .byte (32 : Int32)) → (kw_in T40 2 ((((n + 1) + 1) + 1) + 1) (23 : Int32) ∧ (∀ i179 : kw_I, i179 = kw_st i173 ((((n + 1) + 1) + 1) + 1) ((23 : Int32)).toNatClampNeg (vp_nar .byte (121 : Int32)) → (kw_in T40 2 ((((n + 1) + 1) + 1) + 1) (24 : Int32) ∧ (∀ i185 : kw_I, i185 = kw_st i179 ((((n + 1) + 1) + 1) + 1) ((24 : Int32)).toNatClampNeg (vp_nar .byte (32 : Int32)) → (kw_in T40 2 ((((n + 1) + 1) + 1) + 1) (25 : Int32) ∧ (∀ i191 : kw_I, i191 = kw_st i185 ((((n + 1) + 1) + 1) + 1) ((25 : Int32)).toNatClampNeg (vp_nar .byte (118 : Int32)) → (kw_in T40 2 ((((n + 1) + 1) + 1) + 1) (26 : Int32) ∧ (∀ i197 : kw_I, i197 = kw_st i191 ((((n + 1) + 1) + 1) + 1) ((26 : Int32)).toNatClampNeg (vp_nar .byte (105 : Int32)) → (kw_in T40 2 ((((n + 1) + 1) + 1) + 1) (27 : Int32) ∧ (∀ i203 : kw_I, i203 = kw_st i197 ((((n + 1) + 1) + 1) + 1) ((27 : Int32)).toNatClampNeg (vp_nar .byte (108 : Int32)) → (kw_in T40 2 ((((n + 1) + 1) + 1) + 1) (28 : Int32) ∧ (∀ i209 : kw_I, i209 = kw_st i203 ((((n + 1) + 1) + 1) + 1) ((28 : Int32)).toNatClampNeg (vp_nar .byte (108 : Int32)) → (kw_in T40 2 ((((n + 1) + 1) + 1) + 1) (29 : Int32) ∧ (∀ i215 : kw_I, i215 = kw_st i209 ((((n + 1) + 1) + 1) + 1) ((29 : Int32)).toNatClampNeg (vp_nar .byte (97 : Int32)) → (kw_in T40 2 ((((n + 1) + 1) + 1) + 1) (30 : Int32) ∧ (∀ i221 : kw_I, i221 = kw_st i215 ((((n + 1) + 1) + 1) + 1) ((30 : Int32)).toNatClampNeg (vp_nar .byte (103 : Int32)) → (kw_in T40 2 ((((n + 1) + 1) + 1) + 1) (31 : Int32) ∧ (∀ i227 : kw_I, i227 = kw_st i221 ((((n + 1) + 1) + 1) + 1) ((31 : Int32)).toNatClampNeg (vp_nar .byte (101 : Int32)) → (kw_in T40 2 ((((n + 1) + 1) + 1) + 1) (32 : Int32) ∧ (∀ i233 : kw_I, i233 = kw_st i227 ((((n + 1) + 1) + 1) + 1) ((32 : Int32)).toNatClampNeg (vp_nar .byte (32 : Int32)) → (kw_in T40 2 ((((n + 1) + 1) + 1) + 1) (33 : Int32) ∧ (∀ i239 : kw_I, i239 = kw_st i233 ((((n + 1) + 1) + 1) + 1) ((33 : Int32)).toNatClampNeg (vp_nar .byte (115 : Int32)) → (kw_in T40 2 ((((n + 1) + 1) + 1) + 1) (34 : Int32) ∧ (∀ i245 : kw_I, i245 = kw_st i239 ((((n + 1) + 1) + 1) + 1) ((34 : Int32)).toNatClampNeg (vp_nar .byte (101 : Int32)) → (kw_in T40 2 ((((n + 1) + 1) + 1) + 1) (35 : Int32) ∧ (∀ i251 : kw_I, i251 = kw_st i245 ((((n + 1) + 1) + 1) + 1) ((35 : Int32)).toNatClampNeg (vp_nar .byte (101 : Int32)) → (kw_in T40 2 ((((n + 1) + 1) + 1) + 1) (36 : Int32) ∧ (∀ i257 : kw_I, i257 = kw_st i251 ((((n + 1) + 1) + 1) + 1) ((36 : Int32)).toNatClampNeg (vp_nar .byte (110 : Int32)) → (kw_in T40 2 ((((n + 1) + 1) + 1) + 1) (37 : Int32) ∧ (∀ i263 : kw_I, i263 = kw_st i257 ((((n + 1) + 1) + 1) + 1) ((37 : Int32)).toNatClampNeg (vp_nar .byte (32 : Int32)) → (kw_in T40 2 ((((n + 1) + 1) + 1) + 1) (38 : Int32) ∧ (∀ i269 : kw_I, i269 = kw_st i263 ((((n + 1) + 1) + 1) + 1) ((38 : Int32)).toNatClampNeg (vp_nar .byte (119 : Int32)) → (kw_in T40 2 ((((n + 1) + 1) + 1) + 1) (39 : Int32) ∧ (∀ i275 : kw_I, i275 = kw_st i269 ((((n + 1) + 1) + 1) + 1) ((39 : Int32)).toNatClampNeg (vp_nar .byte (97 : Int32)) → (kw_in T40 2 ((((n + 1) + 1) + 1) + 1) (40 : Int32) ∧ (∀ i281 : kw_I, i281 = kw_st i275 ((((n + 1) + 1) + 1) + 1) ((40 : Int32)).toNatClampNeg (vp_nar .byte (115 : Int32)) → (kw_in T40 2 ((((n + 1) + 1) + 1) + 1) (41 : Int32) ∧ (∀ i287 : kw_I, i287 = kw_st i281 ((((n + 1) + 1) + 1) + 1) ((41 : Int32)).toNatClampNeg (vp_nar .byte (32 : Int32)) → (kw_in T40 2 ((((n + 1) + 1) + 1) + 1) (42 : Int32) ∧ (∀ i293 : kw_I, i293 = kw_st i287 ((((n + 1) + 1) + 1) + 1) ((42 : Int32)).toNatClampNeg (vp_nar .byte (108 : Int32)) → (kw_in T40 2 ((((n + 1) + 1) + 1) + 1) (43 : Int32) ∧ (∀ i299 : kw_I, i299 = kw_st i293 ((((n + 1) + 1) + 1) + 1) ((43 : Int32)).toNatClampNeg (vp_nar .byte (101 : Int32)) → (kw_in T40 2 ((((n + 1) + 1) + 1) + 1) (44 : Int32) ∧ (∀ i305 : kw_I, i305 = kw_st i299 ((((n + 1) + 1) + 1) + 1) ((44 : Int32)).toNatClampNeg (vp_nar .byte (102 : Int32)) → (kw_in T40 2 ((((n + 1) + 1) + 1) + 1) (45 : Int32) ∧ (∀ i311 : kw_I, i311 = kw_st i305 ((((n + 1) + 1) + 1) + 1) ((45 : Int32)).toNatClampNeg (vp_nar .byte (116 : Int32)) → (kw_in T40 2 ((((n + 1) + 1) + 1) + 1) (46 : Int32) ∧ (∀ i317 : kw_I, i317 = kw_st i311 ((((n + 1) + 1) + 1) + 1) ((46 : Int32)).toNatClampNeg (vp_nar .byte (32 : Int32)) → (kw_in T40 2 ((((n + 1) + 1) + 1) + 1) (47 : Int32) ∧ (∀ i323 : kw_I, i323 = kw_st i317 ((((n + 1) + 1) + 1) + 1) ((47 : Int32)).toNatClampNeg (vp_nar .byte (97 : Int32)) → (kw_in T40 2 ((((n + 1) + 1) + 1) + 1) (48 : Int32) ∧ (∀ i329 : kw_I, i329 = kw_st i323 ((((n + 1) + 1) + 1) + 1) ((48 : Int32)).toNatClampNeg (vp_nar .byte (98 : Int32)) → (kw_in T40 2 ((((n + 1) + 1) + 1) + 1) (49 : Int32) ∧ (∀ i335 : kw_I, i335 = kw_st i329 ((((n + 1) + 1) + 1) + 1) ((49 : Int32)).toNatClampNeg (vp_nar .byte (111 : Int32)) → (kw_in T40 2 ((((n + 1) + 1) + 1) + 1) (50 : Int32) ∧ (∀ i341 : kw_I, i341 = kw_st i335 ((((n + 1) + 1) + 1) + 1) ((50 : Int32)).toNatClampNeg (vp_nar .byte (118 : Int32)) → (kw_in T40 2 ((((n + 1) + 1) + 1) + 1) (51 : Int32) ∧ (∀ i347 : kw_I, i347 = kw_st i341 ((((n + 1) + 1) + 1) + 1) ((51 : Int32)).toNatClampNeg (vp_nar .byte (101 : Int32)) → (kw_in T40 2 ((((n + 1) + 1) + 1) + 1) (52 : Int32) ∧ (∀ i353 : kw_I, i353 = kw_st i347 ((((n + 1) + 1) + 1) + 1) ((52 : Int32)).toNatClampNeg (vp_nar .byte (32 : Int32)) → (kw_in T40 2 ((((n + 1) + 1) + 1) + 1) (53 : Int32) ∧ (∀ i359 : kw_I, i359 = kw_st i353 ((((n + 1) + 1) + 1) + 1) ((53 : Int32)).toNatClampNeg (vp_nar .byte (116 : Int32)) → (kw_in T40 2 ((((n + 1) + 1) + 1) + 1) (54 : Int32) ∧ (∀ i365 : kw_I, i365 = kw_st i359 ((((n + 1) + 1) + 1) + 1) ((54 : Int32)).toNatClampNeg (vp_nar .byte (97 : Int32)) → (kw_in T40 2 ((((n + 1) + 1) + 1) + 1) (55 : Int32) ∧ (∀ i371 : kw_I, i371 = kw_st i365 ((((n + 1) + 1) + 1) + 1) ((55 : Int32)).toNatClampNeg (vp_nar .byte (115 : Int32)) → (kw_in T40 2 ((((n + 1) + 1) + 1) + 1) (56 : Int32) ∧ (∀ i377 : kw_I, i377 = kw_st i371 ((((n + 1) + 1) + 1) + 1) ((56 : Int32)).toNatClampNeg (vp_nar .byte (116 : Int32)) → (kw_in T40 2 ((((n + 1) + 1) + 1) + 1) (57 : Int32) ∧ (∀ i383 : kw_I, i383 = kw_st i377 ((((n + 1) + 1) + 1) + 1) ((57 : Int32)).toNatClampNeg (vp_nar .byte (101 : Int32)) → (kw_in T40 2 ((((n + 1) + 1) + 1) + 1) (58 : Int32) ∧ (∀ i389 : kw_I, i389 = kw_st i383 ((((n + 1) + 1) + 1) + 1) ((58 : Int32)).toNatClampNeg (vp_nar .byte (32 : Int32)) → (kw_in T40 2 ((((n + 1) + 1) + 1) + 1) (59 : Int32) ∧ (∀ i395 : kw_I, i395 = kw_st i389 ((((n + 1) + 1) + 1) + 1) ((59 : Int32)).toNatClampNeg (vp_nar .byte (121 : Int32)) → (kw_in T40 2 ((((n + 1) + 1) + 1) + 1) (60 : Int32) ∧ (∀ i401 : kw_I, i401 = kw_st i395 ((((n + 1) + 1) + 1) + 1) ((60 : Int32)).toNatClampNeg (vp_nar .byte (101 : Int32)) → (kw_in T40 2 ((((n + 1) + 1) + 1) + 1) (61 : Int32) ∧ (∀ i407 : kw_I, i407 = kw_st i401 ((((n + 1) + 1) + 1) + 1) ((61 : Int32)).toNatClampNeg (vp_nar .byte (97 : Int32)) → (kw_in T40 2 ((((n + 1) + 1) + 1) + 1) (62 : Int32) ∧ (∀ i413 : kw_I, i413 = kw_st i407 ((((n + 1) + 1) + 1) + 1) ((62 : Int32)).toNatClampNeg (vp_nar .byte (114 : Int32)) → (kw_in T40 2 ((((n + 1) + 1) + 1) + 1) (63 : Int32) ∧ (∀ i419 : kw_I, i419 = kw_st i413 ((((n + 1) + 1) + 1) + 1) ((63 : Int32)).toNatClampNeg (vp_nar .byte (32 : Int32)) → (T40 a0 = (0, 10) ∧ (∀ r420 : kw_R, r420 = kw_st r34 a0 6 ((((n + 1) + 1) + 1) + 1) → (kw_al (((((n + 1) + 1) + 1) + 1) + 1) 1 ∧ (∀ (T427 : kw_T) (i427 : kw_I), T427 = kw_row T40 (((((n + 1) + 1) + 1) + 1) + 1) (2, 400) → i427 = kw_row i419 (((((n + 1) + 1) + 1) + 1) + 1) (fun _ => 0) → (T427 a0 = (0, 10) ∧ (∀ r429 : kw_R, r429 = kw_st r420 a0 7 (((((n + 1) + 1) + 1) + 1) + 1) → (kw_al ((((((n + 1) + 1) + 1) + 1) + 1) + 1) 1 ∧ (∀ (T434 : kw_T) (i434 : kw_I), T434 = kw_row T427 ((((((n + 1) + 1) + 1) + 1) + 1) + 1) (1, 5) → i434 = kw_row i427 ((((((n + 1) + 1) + 1) + 1) + 1) + 1) (fun _ => 0) → (T434 a0 = (0, 10) ∧ (∀ r436 : kw_R, r436 = kw_st r429 a0 8 ((((((n + 1) + 1) + 1) + 1) + 1) + 1) → (∀ i441 : kw_I, i441 = kw_st i434 a0 10 (-1 : Int32) → (kw_al (((((((n + 1) + 1) + 1) + 1) + 1) + 1) + 1) 1 ∧ (∀ (T448 : kw_T) (i448 : kw_I), T448 = kw_row T434 (((((((n + 1) + 1) + 1) + 1) + 1) + 1) + 1) (1, 401) → i448 = kw_row i441 (((((((n + 1) + 1) + 1) + 1) + 1) + 1) + 1) (fun _ => 0) → (T448 a0 = (0, 10) ∧ (∀ r450 : kw_R, r450 = kw_st r436 a0 11 (((((((n + 1) + 1) + 1) + 1) + 1) + 1) + 1) → (kw_al ((((((((n + 1) + 1) + 1) + 1) + 1) + 1) + 1) + 1) 1 ∧ (∀ (T457 : kw_T) (i457 : kw_I), T457 = kw_row T448 ((((((((n + 1) + 1) + 1) + 1) + 1) + 1) + 1) + 1) (1, 401) → i457 = kw_row i448 ((((((((n + 1) + 1) + 1) + 1) + 1) + 1) + 1) + 1) (fun _ => 0) → (T457 a0 = (0, 10) ∧ (∀ r459 : kw_R, r459 = kw_st r450 a0 12 ((((((((n + 1) + 1) + 1) + 1) + 1) + 1) + 1) + 1) → (kw_al (((((((((n + 1) + 1) + 1) + 1) + 1) + 1) + 1) + 1) + 1) 1 ∧ (∀ (T466 : kw_T) (i466 : kw_I), T466 = kw_row T457 (((((((((n + 1) + 1) + 1) + 1) + 1) + 1) + 1) + 1) + 1) (1, 401) → i466 = kw_row i457 (((((((((n + 1) + 1) + 1) + 1) + 1) + 1) + 1) + 1) + 1) (fun _ => 0) → (T466 a0 = (0, 10) ∧ (∀ r468 : kw_R, r468 = kw_st r459 a0 13 (((((((((n + 1) + 1) + 1) + 1) + 1) + 1) + 1) + 1) + 1) → (kw_al ((((((((((n + 1) + 1) + 1) + 1) + 1) + 1) + 1) + 1) + 1) + 1) 1 ∧ (∀ (T474 : kw_T) (i474 : kw_I), T474 = kw_row T466 ((((((((((n + 1) + 1) + 1) + 1) + 1) + 1) + 1) + 1) + 1) + 1) (1, 9) → i474 = kw_row i466 ((((((((((n + 1) + 1) + 1) + 1) + 1) + 1) + 1) + 1) + 1) + 1) (fun _ => 0) → (T474 a0 = (0, 10) ∧ (∀ r476 : kw_R, r476 = kw_st r468 a0 21 ((((((((((n + 1) + 1) + 1) + 1) + 1) + 1) + 1) + 1) + 1) + 1) → (kw_al (((((((((((n + 1) + 1) + 1) + 1) + 1) + 1) + 1) + 1) + 1) + 1) + 1) 1 ∧ (∀ (T483 : kw_T) (i483 : kw_I), T483 = kw_row T474 (((((((((((n + 1) + 1) + 1) + 1) + 1) + 1) + 1) + 1) + 1) + 1) + 1) (1, 396) → i483 = kw_row i474 (((((((((((n + 1) + 1) + 1) + 1) + 1) + 1) + 1) + 1) + 1) + 1) + 1) (fun _ => 0) → (T483 a0 = (0, 10) ∧ (∀ r485 : kw_R, r485 = kw_st r476 a0 22 (((((((((((n + 1) + 1) + 1) + 1) + 1) + 1) + 1) + 1) + 1) + 1) + 1) → (kw_al ((((((((((((n + 1) + 1) + 1) + 1) + 1) + 1) + 1) + 1) + 1) + 1) + 1) + 1) 1 ∧ (∀ (T492 : kw_T) (i492 : kw_I), T492 = kw_row T483 ((((((((((((n + 1) + 1) + 1) + 1) + 1) + 1) + 1) + 1) + 1) + 1) + 1) + 1) (1, 396) → i492 = kw_row i483 ((((((((((((n + 1) + 1) + 1) + 1) + 1) + 1) + 1) + 1) + 1) + 1) + 1) + 1) (fun _ => 0) → (T492 a0 = (0, 10) ∧ (∀ r494 : kw_R, r494 = kw_st r485 a0 23 ((((((((((((n + 1) + 1) + 1) + 1) + 1) + 1) + 1) + 1) + 1) + 1) + 1) + 1) → (kw_al (((((((((((((n + 1) + 1) + 1) + 1) + 1) + 1) + 1) + 1) + 1) + 1) + 1) + 1) + 1) 1 ∧ (∀ (T501 : kw_T) (i501 : kw_I), T501 = kw_row T492 (((((((((((((n + 1) + 1) + 1) + 1) + 1) + 1) + 1) + 1) + 1) + 1) + 1) + 1) + 1) (1, 396) → i501 = kw_row i492 (((((((((((((n + 1) + 1) + 1) + 1) + 1) + 1) + 1) + 1) + 1) + 1) + 1) + 1) + 1) (fun _ => 0) → (T501 a0 = (0, 10) ∧ (∀ r503 : kw_R, r503 = kw_st r494 a0 24 (((((((((((((n + 1) + 1) + 1) + 1) + 1) + 1) + 1) + 1) + 1) + 1) + 1) + 1) + 1) → (kw_al ((((((((((((((n + 1) + 1) + 1) + 1) + 1) + 1) + 1) + 1) + 1) + 1) + 1) + 1) + 1) + 1) 1 ∧ (∀ (T510 : kw_T) (i510 : kw_I), T510 = kw_row T501 ((((((((((((((n + 1) + 1) + 1) + 1) + 1) + 1) + 1) + 1) + 1) + 1) + 1) + 1) + 1) + 1) (1, 396) → i510 = kw_row i501 ((((((((((((((n + 1) + 1) + 1) + 1) + 1) + 1) + 1) + 1) + 1) + 1) + 1) + 1) + 1) + 1) (fun _ => 0) → (T510 a0 = (0, 10) ∧ (∀ r512 : kw_R, r512 = kw_st r503 a0 25 ((((((((((((((n + 1) + 1) + 1) + 1) + 1) + 1) + 1) + 1) + 1) + 1) + 1) + 1) + 1) + 1) → (kw_al (((((((((((((((n + 1) + 1) + 1) + 1) + 1) + 1) + 1) + 1) + 1) + 1) + 1) + 1) + 1) + 1) + 1) 1 ∧ (∀ (T518 : kw_T) (i518 : kw_I), T518 = kw_row T510 (((((((((((((((n + 1) + 1) + 1) + 1) + 1) + 1) + 1) + 1) + 1) + 1) + 1) + 1) + 1) + 1) + 1) (1, 10) → i518 = kw_row i510 (((((((((((((((n + 1) + 1) + 1) + 1) + 1) + 1) + 1) + 1) + 1) + 1) + 1) + 1) + 1) + 1) + 1) (fun _ => 0) → (T518 a0 = (0, 10) ∧ (∀ r520 : kw_R, r520 = kw_st r512 a0 26 (((((((((((((((n + 1) + 1) + 1) + 1) + 1) + 1) + 1) + 1) + 1) + 1) + 1) + 1) + 1) + 1) + 1) → (kw_al ((((((((((((((((n + 1) + 1) + 1) + 1) + 1) + 1) + 1) + 1) + 1) + 1) + 1) + 1) + 1) + 1) + 1) + 1) 1 ∧ (∀ (T525 : kw_T) (i525 : kw_I), T525 = kw_row T518 ((((((((((((((((n + 1) + 1) + 1) + 1) + 1) + 1) + 1) + 1) + 1) + 1) + 1) + 1) + 1) + 1) + 1) + 1) (1, 5) → i525 = kw_row i518 ((((((((((((((((n + 1) + 1) + 1) + 1) + 1) + 1) + 1) + 1) + 1) + 1) + 1) + 1) + 1) + 1) + 1) + 1) (fun _ => 0) → (T525 a0 = (0, 10) ∧ (∀ r527 : kw_R, r527 = kw_st r520 a0 33 ((((((((((((((((n + 1) + 1) + 1) + 1) + 1) + 1) + 1) + 1) + 1) + 1) + 1) + 1) + 1) + 1) + 1) + 1) → (kw_al (((((((((((((((((n + 1) + 1) + 1) + 1) + 1) + 1) + 1) + 1) + 1) + 1) + 1) + 1) + 1) + 1) + 1) + 1) + 1) 1 ∧ (∀ (T533 : kw_T) (i533 : kw_I), T533 = kw_row T525 (((((((((((((((((n + 1) + 1) + 1) + 1) + 1) + 1) + 1) + 1) + 1) + 1) + 1) + 1) + 1) + 1) + 1) + 1) + 1) (1, 36) → i533 = kw_row i525 (((((((((((((((((n + 1) + 1) + 1) + 1) + 1) + 1) + 1) + 1) + 1) + 1) + 1) + 1) + 1) + 1) + 1) + 1) + 1) (fun _ => 0) → (T533 a0 = (0, 10) ∧ (∀ r535 : kw_R, r535 = kw_st r527 a0 34 (((((((((((((((((n + 1) + 1) + 1) + 1) + 1) + 1) + 1) + 1) + 1) + 1) + 1) + 1) + 1) + 1) + 1) + 1) + 1) → (∃ N, w_X10_init_540 a0 w Q  N ((0 : Int32)) T533 (((((((((((((((((((n + 1) + 1) + 1) + 1) + 1) + 1) + 1) + 1) + 1) + 1) + 1) + 1) + 1) + 1) + 1) + 1) + 1) + 1)) r535 i533)))))))))))))))))))))))))))))))))))))))))))))))))))))))))))))))))))))))))))))))))))))))))))))))))))))))))))))))))))))))))))))))))))))))))))))))))))))))))))))))))))))))))))))))))))))))))))))))))))))))))
abbrev rm_X10_init : Room := { frames := 1, cells := 18, slots := 18286, locals := 60 }
set_option maxHeartbeats 4000000 in
set_option maxRecDepth 100000 in
theorem qs_X10_init_540 {a0 : Nat} {w : kw_L} {Q : kw_T → Nat → kw_R → kw_I → Prop} {E : kw_E} {G : kw_G} (hm : kw_m E G cX10_init 2 RX10 none rm_X10_init "<init>")     {k540 : Int32 → kw_T → Nat → kw_R → kw_I → Prop} (hk540 : ∀ (x1 : Int32) (T : kw_T) (n : Nat) (r : kw_R) (i : kw_I), k540 x1 T n r i → kw_K E G 2 18 18286 (kw_Z E G 18 18286 (kw_PV (fun T' n' r' i' w' => w = w' ∧ Q T' n' r' i'))) 540 [(0, kw_a a0), (1, kw_i x1)] [] T n r i w) (x1 : Int32) (T : kw_T) (n : Nat) (r : kw_R) (i : kw_I) (h : s_X10_init_540 a0 w Q  k540 x1 T n r i) : kw_K E G 2 18 18286 (kw_Z E G 18 18286 (kw_PV (fun T' n' r' i' w' => w = w' ∧ Q T' n' r' i'))) 540 [(0, kw_a a0), (1, kw_i x1)] [] T n r i w := by
  refine kk_iload_n hm.1 1 dX10_init_540 rfl rfl ?_
  refine kk_bipush (v := (8 : Int32)) hm.1 dX10_init_541 (by decide) ?_
  refine kk_icmp_ge (tgt := 563) hm.1 dX10_init_543 (by decide) (fun c543 => ?_) (fun c543 => ?_)
  · have h := h.1 c543
    refine kk_aload_n hm.1 0 dX10_init_563 rfl rfl ?_
    obtain ⟨o564, h⟩ := h
    refine kk_getR hm.1 ff_X10_17 dX10_init_564 o564 ?_
    refine kk_sipush (v := (176 : Int32)) hm.1 dX10_init_567 (by decide) ?_
    refine kk_bipush (v := (10 : Int32)) hm.1 dX10_init_570 (by decide) ?_
    obtain ⟨o572, h⟩ := h
    refine kn_iastore hm.1 dX10_init_572 o572 (fun i572 e572 => ?_)
    have h := h i572 e572
    refine kk_aload_n hm.1 0 dX10_init_573 rfl rfl ?_
    refine kk_getR hm.1 ff_X10_17 dX10_init_574 o564 ?_
    refine kk_sipush (v := (180 : Int32)) hm.1 dX10_init_577 (by decide) ?_
    refine kk_iconst (v := (-1 : Int32)) hm.1 dX10_init_580 (by decide) ?_
    obtain ⟨o581, h⟩ := h
    refine kn_iastore hm.1 dX10_init_581 o581 (fun i581 e581 => ?_)
    have h := h i581 e581
    exact kk_vret hm.1 hm.2.1 dX10_init_582 ⟨rfl, rfl, h⟩
  · have h := h.2 c543
    refine kk_aload_n hm.1 0 dX10_init_546 rfl rfl ?_
    obtain ⟨o547, h⟩ := h
    refine kk_getR hm.1 ff_X10_17 dX10_init_547 o547 ?_
    refine kk_sipush (v := (168 : Int32)) hm.1 dX10_init_550 (by decide) ?_
    refine kk_iload_n hm.1 1 dX10_init_553 rfl rfl ?_
    refine kk_iadd hm.1 dX10_init_554 ?_
    refine kk_iconst (v := (1 : Int32)) hm.1 dX10_init_555 (by decide) ?_
    obtain ⟨o556, h⟩ := h
    refine kn_iastore hm.1 dX10_init_556 o556 (fun i556 e556 => ?_)
    have h := h i556 e556
    refine kk_iinc (v := (x1 + (1 : Int32))) (L' := [(1, kw_i (x1 + (1 : Int32))), (0, kw_a a0)]) hm.1 1 dX10_init_557 rfl rfl (by decide) rfl ?_
    refine kk_goto (tgt := 540) hm.1 dX10_init_560 (by decide) ?_
    refine kk_loc (L' := [(0, kw_a a0), (1, kw_i (x1 + (1 : Int32)))]) [1, 0] rfl ?_
    exact hk540 ((x1 + (1 : Int32))) T n r i556 h
set_option maxHeartbeats 4000000 in
set_option maxRecDepth 100000 in
theorem q_X10_init_540 {a0 : Nat} {w : kw_L} {Q : kw_T → Nat → kw_R → kw_I → Prop} {E : kw_E} {G : kw_G} (hm : kw_m E G cX10_init 2 RX10 none rm_X10_init "<init>")     : ∀ (N : Nat) (x1 : Int32) (T : kw_T) (n : Nat) (r : kw_R) (i : kw_I), w_X10_init_540 a0 w Q  N x1 T n r i → kw_K E G 2 18 18286 (kw_Z E G 18 18286 (kw_PV (fun T' n' r' i' w' => w = w' ∧ Q T' n' r' i'))) 540 [(0, kw_a a0), (1, kw_i x1)] [] T n r i w := by
  intro N
  induction N with
  | zero => intro x1 T n r i h; exact h.elim
  | succ N ih => intro x1 T n r i h; exact qs_X10_init_540 hm    ih x1 T n r i h
set_option maxHeartbeats 4000000 in
set_option maxRecDepth 100000 in
theorem t_X10_init {l : Launch} {G : kw_G} {a0 : Nat} {T : kw_T} {n : Nat} {r : kw_R} {i : kw_I} {w : kw_L} {Q : kw_T → Nat → kw_R → kw_I → Prop} (h0 : T a0 = (0, 10)) (h : w_X10_init a0 T n r i w Q) : kw_Met l G yX10_init cX10_init 2 none rm_X10_init [kw_a a0] (T, n, r, i, w) (kw_PV (fun T' n' r' i' w' => w = w' ∧ Q T' n' r' i')) := by
  refine kw_Met.of (by decide) (Nat.le_of_ble_eq_true rfl) fun E hl hRm hE hT hnm => ?_
  have hm : kw_m E G cX10_init 2 RX10 none rm_X10_init "<init>" := ⟨hE, hT, hRm, hnm⟩
  subst hl
  show kw_K E G 2 0 0 (kw_Z E G 18 18286 (kw_PV (fun T' n' r' i' w' => w = w' ∧ Q T' n' r' i'))) 0 [(0, kw_a a0)] [] T n r i w
  refine kk_aload_n hm.1 0 dX10_init_0 rfl rfl ?_
  refine kn_objInit (st := []) hm.1 wm_X10_11 wo_1 wo_2 dX10_init_1 h0 hm.2.2.1 (by decide) (Nat.le_of_ble_eq_true rfl) ?_
  refine kk_aload_n hm.1 0 dX10_init_4 rfl rfl ?_
  refine kk_bipush (v := (7 : Int32)) hm.1 dX10_init_5 (by decide) ?_
  obtain ⟨o7, h⟩ := h
  refine kn_newaI (m := 7) hm.1 1 (by decide) (by decide) rfl wa_1 dX10_init_7 (by decide) (by decide) (by decide) o7 hm.2.2.1 (by decide) (by decide) rfl rfl (fun T7 i7 e7 f7 => ?_)
  have h := h T7 i7 e7 f7
  obtain ⟨o9, h⟩ := h
  refine kn_putR hm.1 fp_X10_7 rfl (fun h => hm.2.2.2) dX10_init_9 o9 (fun r9 e9 => ?_)
  have h := h r9 e9
  refine kk_aload_n hm.1 0 dX10_init_12 rfl rfl ?_
  refine kk_sipush (v := (4987 : Int32)) hm.1 dX10_init_13 (by decide) ?_
  obtain ⟨o16, h⟩ := h
  refine kn_newaI (m := 4987) hm.1 1 (by decide) (by decide) rfl wa_1 dX10_init_16 (by decide) (by decide) (by decide) o16 hm.2.2.1 (by decide) (by decide) rfl rfl (fun T16 i16 e16 f16 => ?_)
  have h := h T16 i16 e16 f16
  obtain ⟨o18, h⟩ := h
  refine kn_putR hm.1 fp_X10_17 rfl (fun h => hm.2.2.2) dX10_init_18 o18 (fun r18 e18 => ?_)
  have h := h r18 e18
  refine kk_aload_n hm.1 0 dX10_init_21 rfl rfl ?_
  refine kk_sipush (v := (9974 : Int32)) hm.1 dX10_init_22 (by decide) ?_
  obtain ⟨o25, h⟩ := h
  refine kn_newaI (m := 9974) hm.1 1 (by decide) (by decide) rfl wa_1 dX10_init_25 (by decide) (by decide) (by decide) o25 hm.2.2.1 (by decide) (by decide) rfl rfl (fun T25 i25 e25 f25 => ?_)
  have h := h T25 i25 e25 f25
  obtain ⟨o27, h⟩ := h
  refine kn_putR hm.1 fp_X10_20 rfl (fun h => hm.2.2.2) dX10_init_27 o27 (fun r27 e27 => ?_)
  have h := h r27 e27
  refine kk_aload_n hm.1 0 dX10_init_30 rfl rfl ?_
  refine kk_iconst (v := (2 : Int32)) hm.1 dX10_init_31 (by decide) ?_
  obtain ⟨o32, h⟩ := h
  refine kn_newaI (m := 2) hm.1 3 (by decide) (by decide) rfl wa_3 dX10_init_32 (by decide) (by decide) (by decide) o32 hm.2.2.1 (by decide) (by decide) rfl rfl (fun T32 i32 e32 f32 => ?_)
  have h := h T32 i32 e32 f32
  obtain ⟨o34, h⟩ := h
  refine kn_putR hm.1 fp_X10_23 rfl (fun h => hm.2.2.2) dX10_init_34 o34 (fun r34 e34 => ?_)
  have h := h r34 e34
  refine kk_aload_n hm.1 0 dX10_init_37 rfl rfl ?_
  refine kk_bipush (v := (64 : Int32)) hm.1 dX10_init_38 (by decide) ?_
  obtain ⟨o40, h⟩ := h
  refine kn_newaI (m := 64) hm.1 2 (by decide) (by decide) rfl wa_2 dX10_init_40 (by decide) (by decide) (by decide) o40 hm.2.2.1 (by decide) (by decide) rfl rfl (fun T40 i40 e40 f40 => ?_)
  have h := h T40 i40 e40 f40
  refine kk_dup hm.1 dX10_init_42 rfl ?_
  refine kk_iconst (v := (0 : Int32)) hm.1 dX10_init_43 (by decide) ?_
  refine kk_bipush (v := (119 : Int32)) hm.1 dX10_init_44 (by decide) ?_
  obtain ⟨o46, h⟩ := h
  refine kn_bastore hm.1 dX10_init_46 o46 (fun i46 e46 => ?_)
  have h := h i46 e46
  refine kk_dup hm.1 dX10_init_47 rfl ?_
  refine kk_iconst (v := (1 : Int32)) hm.1 dX10_init_48 (by decide) ?_
  refine kk_bipush (v := (101 : Int32)) hm.1 dX10_init_49 (by decide) ?_
  obtain ⟨o51, h⟩ := h
  refine kn_bastore hm.1 dX10_init_51 o51 (fun i51 e51 => ?_)
  have h := h i51 e51
  refine kk_dup hm.1 dX10_init_52 rfl ?_
  refine kk_iconst (v := (2 : Int32)) hm.1 dX10_init_53 (by decide) ?_
  refine kk_bipush (v := (97 : Int32)) hm.1 dX10_init_54 (by decide) ?_
  obtain ⟨o56, h⟩ := h
  refine kn_bastore hm.1 dX10_init_56 o56 (fun i56 e56 => ?_)
  have h := h i56 e56
  refine kk_dup hm.1 dX10_init_57 rfl ?_
  refine kk_iconst (v := (3 : Int32)) hm.1 dX10_init_58 (by decide) ?_
  refine kk_bipush (v := (118 : Int32)) hm.1 dX10_init_59 (by decide) ?_
  obtain ⟨o61, h⟩ := h
  refine kn_bastore hm.1 dX10_init_61 o61 (fun i61 e61 => ?_)
  have h := h i61 e61
  refine kk_dup hm.1 dX10_init_62 rfl ?_
  refine kk_iconst (v := (4 : Int32)) hm.1 dX10_init_63 (by decide) ?_
  refine kk_bipush (v := (101 : Int32)) hm.1 dX10_init_64 (by decide) ?_
  obtain ⟨o66, h⟩ := h
  refine kn_bastore hm.1 dX10_init_66 o66 (fun i66 e66 => ?_)
  have h := h i66 e66
  refine kk_dup hm.1 dX10_init_67 rfl ?_
  refine kk_iconst (v := (5 : Int32)) hm.1 dX10_init_68 (by decide) ?_
  refine kk_bipush (v := (115 : Int32)) hm.1 dX10_init_69 (by decide) ?_
  obtain ⟨o71, h⟩ := h
  refine kn_bastore hm.1 dX10_init_71 o71 (fun i71 e71 => ?_)
  have h := h i71 e71
  refine kk_dup hm.1 dX10_init_72 rfl ?_
  refine kk_bipush (v := (6 : Int32)) hm.1 dX10_init_73 (by decide) ?_
  refine kk_bipush (v := (32 : Int32)) hm.1 dX10_init_75 (by decide) ?_
  obtain ⟨o77, h⟩ := h
  refine kn_bastore hm.1 dX10_init_77 o77 (fun i77 e77 => ?_)
  have h := h i77 e77
  refine kk_dup hm.1 dX10_init_78 rfl ?_
  refine kk_bipush (v := (7 : Int32)) hm.1 dX10_init_79 (by decide) ?_
  refine kk_bipush (v := (105 : Int32)) hm.1 dX10_init_81 (by decide) ?_
  obtain ⟨o83, h⟩ := h
  refine kn_bastore hm.1 dX10_init_83 o83 (fun i83 e83 => ?_)
  have h := h i83 e83
  refine kk_dup hm.1 dX10_init_84 rfl ?_
  refine kk_bipush (v := (8 : Int32)) hm.1 dX10_init_85 (by decide) ?_
  refine kk_bipush (v := (102 : Int32)) hm.1 dX10_init_87 (by decide) ?_
  obtain ⟨o89, h⟩ := h
  refine kn_bastore hm.1 dX10_init_89 o89 (fun i89 e89 => ?_)
  have h := h i89 e89
  refine kk_dup hm.1 dX10_init_90 rfl ?_
  refine kk_bipush (v := (9 : Int32)) hm.1 dX10_init_91 (by decide) ?_
  refine kk_bipush (v := (32 : Int32)) hm.1 dX10_init_93 (by decide) ?_
  obtain ⟨o95, h⟩ := h
  refine kn_bastore hm.1 dX10_init_95 o95 (fun i95 e95 => ?_)
  have h := h i95 e95
  refine kk_dup hm.1 dX10_init_96 rfl ?_
  refine kk_bipush (v := (10 : Int32)) hm.1 dX10_init_97 (by decide) ?_
  refine kk_bipush (v := (111 : Int32)) hm.1 dX10_init_99 (by decide) ?_
  obtain ⟨o101, h⟩ := h
  refine kn_bastore hm.1 dX10_init_101 o101 (fun i101 e101 => ?_)
  have h := h i101 e101
  refine kk_dup hm.1 dX10_init_102 rfl ?_
  refine kk_bipush (v := (11 : Int32)) hm.1 dX10_init_103 (by decide) ?_
  refine kk_bipush (v := (114 : Int32)) hm.1 dX10_init_105 (by decide) ?_
  obtain ⟨o107, h⟩ := h
  refine kn_bastore hm.1 dX10_init_107 o107 (fun i107 e107 => ?_)
  have h := h i107 e107
  refine kk_dup hm.1 dX10_init_108 rfl ?_
  refine kk_bipush (v := (12 : Int32)) hm.1 dX10_init_109 (by decide) ?_
  refine kk_bipush (v := (32 : Int32)) hm.1 dX10_init_111 (by decide) ?_
  obtain ⟨o113, h⟩ := h
  refine kn_bastore hm.1 dX10_init_113 o113 (fun i113 e113 => ?_)
  have h := h i113 e113
  refine kk_dup hm.1 dX10_init_114 rfl ?_
  refine kk_bipush (v := (13 : Int32)) hm.1 dX10_init_115 (by decide) ?_
  refine kk_bipush (v := (97 : Int32)) hm.1 dX10_init_117 (by decide) ?_
  obtain ⟨o119, h⟩ := h
  refine kn_bastore hm.1 dX10_init_119 o119 (fun i119 e119 => ?_)
  have h := h i119 e119
  refine kk_dup hm.1 dX10_init_120 rfl ?_
  refine kk_bipush (v := (14 : Int32)) hm.1 dX10_init_121 (by decide) ?_
  refine kk_bipush (v := (110 : Int32)) hm.1 dX10_init_123 (by decide) ?_
  obtain ⟨o125, h⟩ := h
  refine kn_bastore hm.1 dX10_init_125 o125 (fun i125 e125 => ?_)
  have h := h i125 e125
  refine kk_dup hm.1 dX10_init_126 rfl ?_
  refine kk_bipush (v := (15 : Int32)) hm.1 dX10_init_127 (by decide) ?_
  refine kk_bipush (v := (100 : Int32)) hm.1 dX10_init_129 (by decide) ?_
  obtain ⟨o131, h⟩ := h
  refine kn_bastore hm.1 dX10_init_131 o131 (fun i131 e131 => ?_)
  have h := h i131 e131
  refine kk_dup hm.1 dX10_init_132 rfl ?_
  refine kk_bipush (v := (16 : Int32)) hm.1 dX10_init_133 (by decide) ?_
  refine kk_bipush (v := (32 : Int32)) hm.1 dX10_init_135 (by decide) ?_
  obtain ⟨o137, h⟩ := h
  refine kn_bastore hm.1 dX10_init_137 o137 (fun i137 e137 => ?_)
  have h := h i137 e137
  refine kk_dup hm.1 dX10_init_138 rfl ?_
  refine kk_bipush (v := (17 : Int32)) hm.1 dX10_init_139 (by decide) ?_
  refine kk_bipush (v := (110 : Int32)) hm.1 dX10_init_141 (by decide) ?_
  obtain ⟨o143, h⟩ := h
  refine kn_bastore hm.1 dX10_init_143 o143 (fun i143 e143 => ?_)
  have h := h i143 e143
  refine kk_dup hm.1 dX10_init_144 rfl ?_
  refine kk_bipush (v := (18 : Int32)) hm.1 dX10_init_145 (by decide) ?_
  refine kk_bipush (v := (111 : Int32)) hm.1 dX10_init_147 (by decide) ?_
  obtain ⟨o149, h⟩ := h
  refine kn_bastore hm.1 dX10_init_149 o149 (fun i149 e149 => ?_)
  have h := h i149 e149
  refine kk_dup hm.1 dX10_init_150 rfl ?_
  refine kk_bipush (v := (19 : Int32)) hm.1 dX10_init_151 (by decide) ?_
  refine kk_bipush (v := (116 : Int32)) hm.1 dX10_init_153 (by decide) ?_
  obtain ⟨o155, h⟩ := h
  refine kn_bastore hm.1 dX10_init_155 o155 (fun i155 e155 => ?_)
  have h := h i155 e155
  refine kk_dup hm.1 dX10_init_156 rfl ?_
  refine kk_bipush (v := (20 : Int32)) hm.1 dX10_init_157 (by decide) ?_
  refine kk_bipush (v := (32 : Int32)) hm.1 dX10_init_159 (by decide) ?_
  obtain ⟨o161, h⟩ := h
  refine kn_bastore hm.1 dX10_init_161 o161 (fun i161 e161 => ?_)
  have h := h i161 e161
  refine kk_dup hm.1 dX10_init_162 rfl ?_
  refine kk_bipush (v := (21 : Int32)) hm.1 dX10_init_163 (by decide) ?_
  refine kk_bipush (v := (120 : Int32)) hm.1 dX10_init_165 (by decide) ?_
  obtain ⟨o167, h⟩ := h
  refine kn_bastore hm.1 dX10_init_167 o167 (fun i167 e167 => ?_)
  have h := h i167 e167
  refine kk_dup hm.1 dX10_init_168 rfl ?_
  refine kk_bipush (v := (22 : Int32)) hm.1 dX10_init_169 (by decide) ?_
  refine kk_bipush (v := (32 : Int32)) hm.1 dX10_init_171 (by decide) ?_
  obtain ⟨o173, h⟩ := h
  refine kn_bastore hm.1 dX10_init_173 o173 (fun i173 e173 => ?_)
  have h := h i173 e173
  refine kk_dup hm.1 dX10_init_174 rfl ?_
  refine kk_bipush (v := (23 : Int32)) hm.1 dX10_init_175 (by decide) ?_
  refine kk_bipush (v := (121 : Int32)) hm.1 dX10_init_177 (by decide) ?_
  obtain ⟨o179, h⟩ := h
  refine kn_bastore hm.1 dX10_init_179 o179 (fun i179 e179 => ?_)
  have h := h i179 e179
  refine kk_dup hm.1 dX10_init_180 rfl ?_
  refine kk_bipush (v := (24 : Int32)) hm.1 dX10_init_181 (by decide) ?_
  refine kk_bipush (v := (32 : Int32)) hm.1 dX10_init_183 (by decide) ?_
  obtain ⟨o185, h⟩ := h
  refine kn_bastore hm.1 dX10_init_185 o185 (fun i185 e185 => ?_)
  have h := h i185 e185
  refine kk_dup hm.1 dX10_init_186 rfl ?_
  refine kk_bipush (v := (25 : Int32)) hm.1 dX10_init_187 (by decide) ?_
  refine kk_bipush (v := (118 : Int32)) hm.1 dX10_init_189 (by decide) ?_
  obtain ⟨o191, h⟩ := h
  refine kn_bastore hm.1 dX10_init_191 o191 (fun i191 e191 => ?_)
  have h := h i191 e191
  refine kk_dup hm.1 dX10_init_192 rfl ?_
  refine kk_bipush (v := (26 : Int32)) hm.1 dX10_init_193 (by decide) ?_
  refine kk_bipush (v := (105 : Int32)) hm.1 dX10_init_195 (by decide) ?_
  obtain ⟨o197, h⟩ := h
  refine kn_bastore hm.1 dX10_init_197 o197 (fun i197 e197 => ?_)
  have h := h i197 e197
  refine kk_dup hm.1 dX10_init_198 rfl ?_
  refine kk_bipush (v := (27 : Int32)) hm.1 dX10_init_199 (by decide) ?_
  refine kk_bipush (v := (108 : Int32)) hm.1 dX10_init_201 (by decide) ?_
  obtain ⟨o203, h⟩ := h
  refine kn_bastore hm.1 dX10_init_203 o203 (fun i203 e203 => ?_)
  have h := h i203 e203
  refine kk_dup hm.1 dX10_init_204 rfl ?_
  refine kk_bipush (v := (28 : Int32)) hm.1 dX10_init_205 (by decide) ?_
  refine kk_bipush (v := (108 : Int32)) hm.1 dX10_init_207 (by decide) ?_
  obtain ⟨o209, h⟩ := h
  refine kn_bastore hm.1 dX10_init_209 o209 (fun i209 e209 => ?_)
  have h := h i209 e209
  refine kk_dup hm.1 dX10_init_210 rfl ?_
  refine kk_bipush (v := (29 : Int32)) hm.1 dX10_init_211 (by decide) ?_
  refine kk_bipush (v := (97 : Int32)) hm.1 dX10_init_213 (by decide) ?_
  obtain ⟨o215, h⟩ := h
  refine kn_bastore hm.1 dX10_init_215 o215 (fun i215 e215 => ?_)
  have h := h i215 e215
  refine kk_dup hm.1 dX10_init_216 rfl ?_
  refine kk_bipush (v := (30 : Int32)) hm.1 dX10_init_217 (by decide) ?_
  refine kk_bipush (v := (103 : Int32)) hm.1 dX10_init_219 (by decide) ?_
  obtain ⟨o221, h⟩ := h
  refine kn_bastore hm.1 dX10_init_221 o221 (fun i221 e221 => ?_)
  have h := h i221 e221
  refine kk_dup hm.1 dX10_init_222 rfl ?_
  refine kk_bipush (v := (31 : Int32)) hm.1 dX10_init_223 (by decide) ?_
  refine kk_bipush (v := (101 : Int32)) hm.1 dX10_init_225 (by decide) ?_
  obtain ⟨o227, h⟩ := h
  refine kn_bastore hm.1 dX10_init_227 o227 (fun i227 e227 => ?_)
  have h := h i227 e227
  refine kk_dup hm.1 dX10_init_228 rfl ?_
  refine kk_bipush (v := (32 : Int32)) hm.1 dX10_init_229 (by decide) ?_
  refine kk_bipush (v := (32 : Int32)) hm.1 dX10_init_231 (by decide) ?_
  obtain ⟨o233, h⟩ := h
  refine kn_bastore hm.1 dX10_init_233 o233 (fun i233 e233 => ?_)
  have h := h i233 e233
  refine kk_dup hm.1 dX10_init_234 rfl ?_
  refine kk_bipush (v := (33 : Int32)) hm.1 dX10_init_235 (by decide) ?_
  refine kk_bipush (v := (115 : Int32)) hm.1 dX10_init_237 (by decide) ?_
  obtain ⟨o239, h⟩ := h
  refine kn_bastore hm.1 dX10_init_239 o239 (fun i239 e239 => ?_)
  have h := h i239 e239
  refine kk_dup hm.1 dX10_init_240 rfl ?_
  refine kk_bipush (v := (34 : Int32)) hm.1 dX10_init_241 (by decide) ?_
  refine kk_bipush (v := (101 : Int32)) hm.1 dX10_init_243 (by decide) ?_
  obtain ⟨o245, h⟩ := h
  refine kn_bastore hm.1 dX10_init_245 o245 (fun i245 e245 => ?_)
  have h := h i245 e245
  refine kk_dup hm.1 dX10_init_246 rfl ?_
  refine kk_bipush (v := (35 : Int32)) hm.1 dX10_init_247 (by decide) ?_
  refine kk_bipush (v := (101 : Int32)) hm.1 dX10_init_249 (by decide) ?_
  obtain ⟨o251, h⟩ := h
  refine kn_bastore hm.1 dX10_init_251 o251 (fun i251 e251 => ?_)
  have h := h i251 e251
  refine kk_dup hm.1 dX10_init_252 rfl ?_
  refine kk_bipush (v := (36 : Int32)) hm.1 dX10_init_253 (by decide) ?_
  refine kk_bipush (v := (110 : Int32)) hm.1 dX10_init_255 (by decide) ?_
  obtain ⟨o257, h⟩ := h
  refine kn_bastore hm.1 dX10_init_257 o257 (fun i257 e257 => ?_)
  have h := h i257 e257
  refine kk_dup hm.1 dX10_init_258 rfl ?_
  refine kk_bipush (v := (37 : Int32)) hm.1 dX10_init_259 (by decide) ?_
  refine kk_bipush (v := (32 : Int32)) hm.1 dX10_init_261 (by decide) ?_
  obtain ⟨o263, h⟩ := h
  refine kn_bastore hm.1 dX10_init_263 o263 (fun i263 e263 => ?_)
  have h := h i263 e263
  refine kk_dup hm.1 dX10_init_264 rfl ?_
  refine kk_bipush (v := (38 : Int32)) hm.1 dX10_init_265 (by decide) ?_
  refine kk_bipush (v := (119 : Int32)) hm.1 dX10_init_267 (by decide) ?_
  obtain ⟨o269, h⟩ := h
  refine kn_bastore hm.1 dX10_init_269 o269 (fun i269 e269 => ?_)
  have h := h i269 e269
  refine kk_dup hm.1 dX10_init_270 rfl ?_
  refine kk_bipush (v := (39 : Int32)) hm.1 dX10_init_271 (by decide) ?_
  refine kk_bipush (v := (97 : Int32)) hm.1 dX10_init_273 (by decide) ?_
  obtain ⟨o275, h⟩ := h
  refine kn_bastore hm.1 dX10_init_275 o275 (fun i275 e275 => ?_)
  have h := h i275 e275
  refine kk_dup hm.1 dX10_init_276 rfl ?_
  refine kk_bipush (v := (40 : Int32)) hm.1 dX10_init_277 (by decide) ?_
  refine kk_bipush (v := (115 : Int32)) hm.1 dX10_init_279 (by decide) ?_
  obtain ⟨o281, h⟩ := h
  refine kn_bastore hm.1 dX10_init_281 o281 (fun i281 e281 => ?_)
  have h := h i281 e281
  refine kk_dup hm.1 dX10_init_282 rfl ?_
  refine kk_bipush (v := (41 : Int32)) hm.1 dX10_init_283 (by decide) ?_
  refine kk_bipush (v := (32 : Int32)) hm.1 dX10_init_285 (by decide) ?_
  obtain ⟨o287, h⟩ := h
  refine kn_bastore hm.1 dX10_init_287 o287 (fun i287 e287 => ?_)
  have h := h i287 e287
  refine kk_dup hm.1 dX10_init_288 rfl ?_
  refine kk_bipush (v := (42 : Int32)) hm.1 dX10_init_289 (by decide) ?_
  refine kk_bipush (v := (108 : Int32)) hm.1 dX10_init_291 (by decide) ?_
  obtain ⟨o293, h⟩ := h
  refine kn_bastore hm.1 dX10_init_293 o293 (fun i293 e293 => ?_)
  have h := h i293 e293
  refine kk_dup hm.1 dX10_init_294 rfl ?_
  refine kk_bipush (v := (43 : Int32)) hm.1 dX10_init_295 (by decide) ?_
  refine kk_bipush (v := (101 : Int32)) hm.1 dX10_init_297 (by decide) ?_
  obtain ⟨o299, h⟩ := h
  refine kn_bastore hm.1 dX10_init_299 o299 (fun i299 e299 => ?_)
  have h := h i299 e299
  refine kk_dup hm.1 dX10_init_300 rfl ?_
  refine kk_bipush (v := (44 : Int32)) hm.1 dX10_init_301 (by decide) ?_
  refine kk_bipush (v := (102 : Int32)) hm.1 dX10_init_303 (by decide) ?_
  obtain ⟨o305, h⟩ := h
  refine kn_bastore hm.1 dX10_init_305 o305 (fun i305 e305 => ?_)
  have h := h i305 e305
  refine kk_dup hm.1 dX10_init_306 rfl ?_
  refine kk_bipush (v := (45 : Int32)) hm.1 dX10_init_307 (by decide) ?_
  refine kk_bipush (v := (116 : Int32)) hm.1 dX10_init_309 (by decide) ?_
  obtain ⟨o311, h⟩ := h
  refine kn_bastore hm.1 dX10_init_311 o311 (fun i311 e311 => ?_)
  have h := h i311 e311
  refine kk_dup hm.1 dX10_init_312 rfl ?_
  refine kk_bipush (v := (46 : Int32)) hm.1 dX10_init_313 (by decide) ?_
  refine kk_bipush (v := (32 : Int32)) hm.1 dX10_init_315 (by decide) ?_
  obtain ⟨o317, h⟩ := h
  refine kn_bastore hm.1 dX10_init_317 o317 (fun i317 e317 => ?_)
  have h := h i317 e317
  refine kk_dup hm.1 dX10_init_318 rfl ?_
  refine kk_bipush (v := (47 : Int32)) hm.1 dX10_init_319 (by decide) ?_
  refine kk_bipush (v := (97 : Int32)) hm.1 dX10_init_321 (by decide) ?_
  obtain ⟨o323, h⟩ := h
  refine kn_bastore hm.1 dX10_init_323 o323 (fun i323 e323 => ?_)
  have h := h i323 e323
  refine kk_dup hm.1 dX10_init_324 rfl ?_
  refine kk_bipush (v := (48 : Int32)) hm.1 dX10_init_325 (by decide) ?_
  refine kk_bipush (v := (98 : Int32)) hm.1 dX10_init_327 (by decide) ?_
  obtain ⟨o329, h⟩ := h
  refine kn_bastore hm.1 dX10_init_329 o329 (fun i329 e329 => ?_)
  have h := h i329 e329
  refine kk_dup hm.1 dX10_init_330 rfl ?_
  refine kk_bipush (v := (49 : Int32)) hm.1 dX10_init_331 (by decide) ?_
  refine kk_bipush (v := (111 : Int32)) hm.1 dX10_init_333 (by decide) ?_
  obtain ⟨o335, h⟩ := h
  refine kn_bastore hm.1 dX10_init_335 o335 (fun i335 e335 => ?_)
  have h := h i335 e335
  refine kk_dup hm.1 dX10_init_336 rfl ?_
  refine kk_bipush (v := (50 : Int32)) hm.1 dX10_init_337 (by decide) ?_
  refine kk_bipush (v := (118 : Int32)) hm.1 dX10_init_339 (by decide) ?_
  obtain ⟨o341, h⟩ := h
  refine kn_bastore hm.1 dX10_init_341 o341 (fun i341 e341 => ?_)
  have h := h i341 e341
  refine kk_dup hm.1 dX10_init_342 rfl ?_
  refine kk_bipush (v := (51 : Int32)) hm.1 dX10_init_343 (by decide) ?_
  refine kk_bipush (v := (101 : Int32)) hm.1 dX10_init_345 (by decide) ?_
  obtain ⟨o347, h⟩ := h
  refine kn_bastore hm.1 dX10_init_347 o347 (fun i347 e347 => ?_)
  have h := h i347 e347
  refine kk_dup hm.1 dX10_init_348 rfl ?_
  refine kk_bipush (v := (52 : Int32)) hm.1 dX10_init_349 (by decide) ?_
  refine kk_bipush (v := (32 : Int32)) hm.1 dX10_init_351 (by decide) ?_
  obtain ⟨o353, h⟩ := h
  refine kn_bastore hm.1 dX10_init_353 o353 (fun i353 e353 => ?_)
  have h := h i353 e353
  refine kk_dup hm.1 dX10_init_354 rfl ?_
  refine kk_bipush (v := (53 : Int32)) hm.1 dX10_init_355 (by decide) ?_
  refine kk_bipush (v := (116 : Int32)) hm.1 dX10_init_357 (by decide) ?_
  obtain ⟨o359, h⟩ := h
  refine kn_bastore hm.1 dX10_init_359 o359 (fun i359 e359 => ?_)
  have h := h i359 e359
  refine kk_dup hm.1 dX10_init_360 rfl ?_
  refine kk_bipush (v := (54 : Int32)) hm.1 dX10_init_361 (by decide) ?_
  refine kk_bipush (v := (97 : Int32)) hm.1 dX10_init_363 (by decide) ?_
  obtain ⟨o365, h⟩ := h
  refine kn_bastore hm.1 dX10_init_365 o365 (fun i365 e365 => ?_)
  have h := h i365 e365
  refine kk_dup hm.1 dX10_init_366 rfl ?_
  refine kk_bipush (v := (55 : Int32)) hm.1 dX10_init_367 (by decide) ?_
  refine kk_bipush (v := (115 : Int32)) hm.1 dX10_init_369 (by decide) ?_
  obtain ⟨o371, h⟩ := h
  refine kn_bastore hm.1 dX10_init_371 o371 (fun i371 e371 => ?_)
  have h := h i371 e371
  refine kk_dup hm.1 dX10_init_372 rfl ?_
  refine kk_bipush (v := (56 : Int32)) hm.1 dX10_init_373 (by decide) ?_
  refine kk_bipush (v := (116 : Int32)) hm.1 dX10_init_375 (by decide) ?_
  obtain ⟨o377, h⟩ := h
  refine kn_bastore hm.1 dX10_init_377 o377 (fun i377 e377 => ?_)
  have h := h i377 e377
  refine kk_dup hm.1 dX10_init_378 rfl ?_
  refine kk_bipush (v := (57 : Int32)) hm.1 dX10_init_379 (by decide) ?_
  refine kk_bipush (v := (101 : Int32)) hm.1 dX10_init_381 (by decide) ?_
  obtain ⟨o383, h⟩ := h
  refine kn_bastore hm.1 dX10_init_383 o383 (fun i383 e383 => ?_)
  have h := h i383 e383
  refine kk_dup hm.1 dX10_init_384 rfl ?_
  refine kk_bipush (v := (58 : Int32)) hm.1 dX10_init_385 (by decide) ?_
  refine kk_bipush (v := (32 : Int32)) hm.1 dX10_init_387 (by decide) ?_
  obtain ⟨o389, h⟩ := h
  refine kn_bastore hm.1 dX10_init_389 o389 (fun i389 e389 => ?_)
  have h := h i389 e389
  refine kk_dup hm.1 dX10_init_390 rfl ?_
  refine kk_bipush (v := (59 : Int32)) hm.1 dX10_init_391 (by decide) ?_
  refine kk_bipush (v := (121 : Int32)) hm.1 dX10_init_393 (by decide) ?_
  obtain ⟨o395, h⟩ := h
  refine kn_bastore hm.1 dX10_init_395 o395 (fun i395 e395 => ?_)
  have h := h i395 e395
  refine kk_dup hm.1 dX10_init_396 rfl ?_
  refine kk_bipush (v := (60 : Int32)) hm.1 dX10_init_397 (by decide) ?_
  refine kk_bipush (v := (101 : Int32)) hm.1 dX10_init_399 (by decide) ?_
  obtain ⟨o401, h⟩ := h
  refine kn_bastore hm.1 dX10_init_401 o401 (fun i401 e401 => ?_)
  have h := h i401 e401
  refine kk_dup hm.1 dX10_init_402 rfl ?_
  refine kk_bipush (v := (61 : Int32)) hm.1 dX10_init_403 (by decide) ?_
  refine kk_bipush (v := (97 : Int32)) hm.1 dX10_init_405 (by decide) ?_
  obtain ⟨o407, h⟩ := h
  refine kn_bastore hm.1 dX10_init_407 o407 (fun i407 e407 => ?_)
  have h := h i407 e407
  refine kk_dup hm.1 dX10_init_408 rfl ?_
  refine kk_bipush (v := (62 : Int32)) hm.1 dX10_init_409 (by decide) ?_
  refine kk_bipush (v := (114 : Int32)) hm.1 dX10_init_411 (by decide) ?_
  obtain ⟨o413, h⟩ := h
  refine kn_bastore hm.1 dX10_init_413 o413 (fun i413 e413 => ?_)
  have h := h i413 e413
  refine kk_dup hm.1 dX10_init_414 rfl ?_
  refine kk_bipush (v := (63 : Int32)) hm.1 dX10_init_415 (by decide) ?_
  refine kk_bipush (v := (32 : Int32)) hm.1 dX10_init_417 (by decide) ?_
  obtain ⟨o419, h⟩ := h
  refine kn_bastore hm.1 dX10_init_419 o419 (fun i419 e419 => ?_)
  have h := h i419 e419
  obtain ⟨o420, h⟩ := h
  refine kn_putR hm.1 fp_X10_27 rfl (fun h => hm.2.2.2) dX10_init_420 o420 (fun r420 e420 => ?_)
  have h := h r420 e420
  refine kk_aload_n hm.1 0 dX10_init_423 rfl rfl ?_
  refine kk_sipush (v := (400 : Int32)) hm.1 dX10_init_424 (by decide) ?_
  obtain ⟨o427, h⟩ := h
  refine kn_newaI (m := 400) hm.1 2 (by decide) (by decide) rfl wa_2 dX10_init_427 (by decide) (by decide) (by decide) o427 hm.2.2.1 (by decide) (by decide) rfl rfl (fun T427 i427 e427 f427 => ?_)
  have h := h T427 i427 e427 f427
  obtain ⟨o429, h⟩ := h
  refine kn_putR hm.1 fp_X10_31 rfl (fun h => hm.2.2.2) dX10_init_429 o429 (fun r429 e429 => ?_)
  have h := h r429 e429
  refine kk_aload_n hm.1 0 dX10_init_432 rfl rfl ?_
  refine kk_iconst (v := (5 : Int32)) hm.1 dX10_init_433 (by decide) ?_
  obtain ⟨o434, h⟩ := h
  refine kn_newaI (m := 5) hm.1 1 (by decide) (by decide) rfl wa_1 dX10_init_434 (by decide) (by decide) (by decide) o434 hm.2.2.1 (by decide) (by decide) rfl rfl (fun T434 i434 e434 f434 => ?_)
  have h := h T434 i434 e434 f434
  obtain ⟨o436, h⟩ := h
  refine kn_putR hm.1 fp_X10_34 rfl (fun h => hm.2.2.2) dX10_init_436 o436 (fun r436 e436 => ?_)
  have h := h r436 e436
  refine kk_aload_n hm.1 0 dX10_init_439 rfl rfl ?_
  refine kk_iconst (v := (-1 : Int32)) hm.1 dX10_init_440 (by decide) ?_
  refine kn_putI hm.1 fp_X10_37 dX10_init_441 o436 (fun i441 e441 => ?_)
  have h := h i441 e441
  refine kk_aload_n hm.1 0 dX10_init_444 rfl rfl ?_
  refine kk_sipush (v := (401 : Int32)) hm.1 dX10_init_445 (by decide) ?_
  obtain ⟨o448, h⟩ := h
  refine kn_newaI (m := 401) hm.1 1 (by decide) (by decide) rfl wa_1 dX10_init_448 (by decide) (by decide) (by decide) o448 hm.2.2.1 (by decide) (by decide) rfl rfl (fun T448 i448 e448 f448 => ?_)
  have h := h T448 i448 e448 f448
  obtain ⟨o450, h⟩ := h
  refine kn_putR hm.1 fp_X10_40 rfl (fun h => hm.2.2.2) dX10_init_450 o450 (fun r450 e450 => ?_)
  have h := h r450 e450
  refine kk_aload_n hm.1 0 dX10_init_453 rfl rfl ?_
  refine kk_sipush (v := (401 : Int32)) hm.1 dX10_init_454 (by decide) ?_
  obtain ⟨o457, h⟩ := h
  refine kn_newaI (m := 401) hm.1 1 (by decide) (by decide) rfl wa_1 dX10_init_457 (by decide) (by decide) (by decide) o457 hm.2.2.1 (by decide) (by decide) rfl rfl (fun T457 i457 e457 f457 => ?_)
  have h := h T457 i457 e457 f457
  obtain ⟨o459, h⟩ := h
  refine kn_putR hm.1 fp_X10_43 rfl (fun h => hm.2.2.2) dX10_init_459 o459 (fun r459 e459 => ?_)
  have h := h r459 e459
  refine kk_aload_n hm.1 0 dX10_init_462 rfl rfl ?_
  refine kk_sipush (v := (401 : Int32)) hm.1 dX10_init_463 (by decide) ?_
  obtain ⟨o466, h⟩ := h
  refine kn_newaI (m := 401) hm.1 1 (by decide) (by decide) rfl wa_1 dX10_init_466 (by decide) (by decide) (by decide) o466 hm.2.2.1 (by decide) (by decide) rfl rfl (fun T466 i466 e466 f466 => ?_)
  have h := h T466 i466 e466 f466
  obtain ⟨o468, h⟩ := h
  refine kn_putR hm.1 fp_X10_46 rfl (fun h => hm.2.2.2) dX10_init_468 o468 (fun r468 e468 => ?_)
  have h := h r468 e468
  refine kk_aload_n hm.1 0 dX10_init_471 rfl rfl ?_
  refine kk_bipush (v := (9 : Int32)) hm.1 dX10_init_472 (by decide) ?_
  obtain ⟨o474, h⟩ := h
  refine kn_newaI (m := 9) hm.1 1 (by decide) (by decide) rfl wa_1 dX10_init_474 (by decide) (by decide) (by decide) o474 hm.2.2.1 (by decide) (by decide) rfl rfl (fun T474 i474 e474 f474 => ?_)
  have h := h T474 i474 e474 f474
  obtain ⟨o476, h⟩ := h
  refine kn_putR hm.1 fp_X10_49 rfl (fun h => hm.2.2.2) dX10_init_476 o476 (fun r476 e476 => ?_)
  have h := h r476 e476
  refine kk_aload_n hm.1 0 dX10_init_479 rfl rfl ?_
  refine kk_sipush (v := (396 : Int32)) hm.1 dX10_init_480 (by decide) ?_
  obtain ⟨o483, h⟩ := h
  refine kn_newaI (m := 396) hm.1 1 (by decide) (by decide) rfl wa_1 dX10_init_483 (by decide) (by decide) (by decide) o483 hm.2.2.1 (by decide) (by decide) rfl rfl (fun T483 i483 e483 f483 => ?_)
  have h := h T483 i483 e483 f483
  obtain ⟨o485, h⟩ := h
  refine kn_putR hm.1 fp_X10_52 rfl (fun h => hm.2.2.2) dX10_init_485 o485 (fun r485 e485 => ?_)
  have h := h r485 e485
  refine kk_aload_n hm.1 0 dX10_init_488 rfl rfl ?_
  refine kk_sipush (v := (396 : Int32)) hm.1 dX10_init_489 (by decide) ?_
  obtain ⟨o492, h⟩ := h
  refine kn_newaI (m := 396) hm.1 1 (by decide) (by decide) rfl wa_1 dX10_init_492 (by decide) (by decide) (by decide) o492 hm.2.2.1 (by decide) (by decide) rfl rfl (fun T492 i492 e492 f492 => ?_)
  have h := h T492 i492 e492 f492
  obtain ⟨o494, h⟩ := h
  refine kn_putR hm.1 fp_X10_55 rfl (fun h => hm.2.2.2) dX10_init_494 o494 (fun r494 e494 => ?_)
  have h := h r494 e494
  refine kk_aload_n hm.1 0 dX10_init_497 rfl rfl ?_
  refine kk_sipush (v := (396 : Int32)) hm.1 dX10_init_498 (by decide) ?_
  obtain ⟨o501, h⟩ := h
  refine kn_newaI (m := 396) hm.1 1 (by decide) (by decide) rfl wa_1 dX10_init_501 (by decide) (by decide) (by decide) o501 hm.2.2.1 (by decide) (by decide) rfl rfl (fun T501 i501 e501 f501 => ?_)
  have h := h T501 i501 e501 f501
  obtain ⟨o503, h⟩ := h
  refine kn_putR hm.1 fp_X10_58 rfl (fun h => hm.2.2.2) dX10_init_503 o503 (fun r503 e503 => ?_)
  have h := h r503 e503
  refine kk_aload_n hm.1 0 dX10_init_506 rfl rfl ?_
  refine kk_sipush (v := (396 : Int32)) hm.1 dX10_init_507 (by decide) ?_
  obtain ⟨o510, h⟩ := h
  refine kn_newaI (m := 396) hm.1 1 (by decide) (by decide) rfl wa_1 dX10_init_510 (by decide) (by decide) (by decide) o510 hm.2.2.1 (by decide) (by decide) rfl rfl (fun T510 i510 e510 f510 => ?_)
  have h := h T510 i510 e510 f510
  obtain ⟨o512, h⟩ := h
  refine kn_putR hm.1 fp_X10_61 rfl (fun h => hm.2.2.2) dX10_init_512 o512 (fun r512 e512 => ?_)
  have h := h r512 e512
  refine kk_aload_n hm.1 0 dX10_init_515 rfl rfl ?_
  refine kk_bipush (v := (10 : Int32)) hm.1 dX10_init_516 (by decide) ?_
  obtain ⟨o518, h⟩ := h
  refine kn_newaI (m := 10) hm.1 1 (by decide) (by decide) rfl wa_1 dX10_init_518 (by decide) (by decide) (by decide) o518 hm.2.2.1 (by decide) (by decide) rfl rfl (fun T518 i518 e518 f518 => ?_)
  have h := h T518 i518 e518 f518
  obtain ⟨o520, h⟩ := h
  refine kn_putR hm.1 fp_X10_64 rfl (fun h => hm.2.2.2) dX10_init_520 o520 (fun r520 e520 => ?_)
  have h := h r520 e520
  refine kk_aload_n hm.1 0 dX10_init_523 rfl rfl ?_
  refine kk_iconst (v := (5 : Int32)) hm.1 dX10_init_524 (by decide) ?_
  obtain ⟨o525, h⟩ := h
  refine kn_newaI (m := 5) hm.1 1 (by decide) (by decide) rfl wa_1 dX10_init_525 (by decide) (by decide) (by decide) o525 hm.2.2.1 (by decide) (by decide) rfl rfl (fun T525 i525 e525 f525 => ?_)
  have h := h T525 i525 e525 f525
  obtain ⟨o527, h⟩ := h
  refine kn_putR hm.1 fp_X10_67 rfl (fun h => hm.2.2.2) dX10_init_527 o527 (fun r527 e527 => ?_)
  have h := h r527 e527
  refine kk_aload_n hm.1 0 dX10_init_530 rfl rfl ?_
  refine kk_bipush (v := (36 : Int32)) hm.1 dX10_init_531 (by decide) ?_
  obtain ⟨o533, h⟩ := h
  refine kn_newaI (m := 36) hm.1 1 (by decide) (by decide) rfl wa_1 dX10_init_533 (by decide) (by decide) (by decide) o533 hm.2.2.1 (by decide) (by decide) rfl rfl (fun T533 i533 e533 f533 => ?_)
  have h := h T533 i533 e533 f533
  obtain ⟨o535, h⟩ := h
  refine kn_putR hm.1 fp_X10_70 rfl (fun h => hm.2.2.2) dX10_init_535 o535 (fun r535 e535 => ?_)
  have h := h r535 e535
  refine kk_iconst (v := (0 : Int32)) hm.1 dX10_init_538 (by decide) ?_
  refine kk_istore_n (L' := [(1, kw_i (0 : Int32)), (0, kw_a a0)]) hm.1 dX10_init_539 rfl (by decide) rfl ?_
  refine kk_loc (L' := [(0, kw_a a0), (1, kw_i (0 : Int32))]) [1, 0] rfl ?_
  obtain ⟨N, h⟩ := h
  exact q_X10_init_540 hm    N ((0 : Int32)) T533 (((((((((((((((((((n + 1) + 1) + 1) + 1) + 1) + 1) + 1) + 1) + 1) + 1) + 1) + 1) + 1) + 1) + 1) + 1) + 1) + 1)) r535 i533 h
def s_X10_image_17 (a0 : Nat) (x1 : Int32) (T : kw_T) (n : Nat) (r : kw_R) (w : kw_L) (Q : Int32 → kw_I → Prop)  (k17 : Int32 → kw_I → Prop) (x2 : Int32) (i : kw_I) : Prop :=
  ((4987 : Int32) ≤ x2 → kw_in T 3 (r a0 4) x1 ∧ (∀ i54 : kw_I, i54 = kw_st i (r a0 4) (x1).toNatClampNeg (1 : Int32) → (w_X10_good a0 (0 : Int32) T n r i54 w (fun v57 i57 => Q v57 i57)))) ∧ (¬ (4987 : Int32) ≤ x2 → kw_in T 1 (r a0 2) x2 ∧ (kw_in T 1 (r a0 3) (((4987 : Int32) * x1) + x2) ∧ (∀ i41 : kw_I, i41 = kw_st i (r a0 3) ((((4987 : Int32) * x1) + x2)).toNatClampNeg (i (r a0 2) (x2).toNatClampNeg) → (k17 ((x2 + (1 : Int32))) i41))))
def w_X10_image_17 (a0 : Nat) (x1 : Int32) (T : kw_T) (n : Nat) (r : kw_R) (w : kw_L) (Q : Int32 → kw_I → Prop)  : Nat → Int32 → kw_I → Prop
  | 0 => fun _ _ => False
  | N + 1 => s_X10_image_17 a0 x1 T n r w Q  (w_X10_image_17 a0 x1 T n r w Q  N)
def w_X10_image  (a0 : Nat) (x1 : Int32) (T : kw_T) (n : Nat) (r : kw_R) (i : kw_I) (w : kw_L) (Q : Int32 → kw_I → Prop) : Prop :=
  w_X10_lies x1 (0 : Int32) (1 : Int32) T n r i w (fun v3 => (¬ v3 = 0 → ∃ N, w_X10_image_17 a0 x1 T n r w Q  N ((0 : Int32)) i) ∧ (v3 = 0 → w_X10_refuses a0 (-1 : Int32) T n r i w (fun v11 i11 => Q v11 i11)))
abbrev rm_X10_image : Room := { frames := 2, cells := 0, slots := 0, locals := 82 }
set_option maxHeartbeats 4000000 in
set_option maxRecDepth 100000 in
theorem qs_X10_image_17 {a0 : Nat} {x1 : Int32} {T : kw_T} {n : Nat} {r : kw_R} {w : kw_L} {Q : Int32 → kw_I → Prop} {E : kw_E} {G : kw_G} (hm : kw_m E G cX10_image 3 RX10 (some .int) rm_X10_image "image")  (h0 : T a0 = (0, 10))    {k17 : Int32 → kw_I → Prop} (hk17 : ∀ (x2 : Int32) (i : kw_I), k17 x2 i → kw_K E G 3 0 0 (kw_Z E G 0 0 (kw_PI (fun v T' n' r' i' w' => T = T' ∧ n = n' ∧ r = r' ∧ w = w' ∧ Q v i'))) 17 [(0, kw_a a0), (1, kw_i x1), (2, kw_i x2)] [] T n r i w) (x2 : Int32) (i : kw_I) (h : s_X10_image_17 a0 x1 T n r w Q  k17 x2 i) : kw_K E G 3 0 0 (kw_Z E G 0 0 (kw_PI (fun v T' n' r' i' w' => T = T' ∧ n = n' ∧ r = r' ∧ w = w' ∧ Q v i'))) 17 [(0, kw_a a0), (1, kw_i x1), (2, kw_i x2)] [] T n r i w := by
  refine kk_iload_n hm.1 2 dX10_image_17 rfl rfl ?_
  refine kk_sipush (v := (4987 : Int32)) hm.1 dX10_image_18 (by decide) ?_
  refine kk_icmp_ge (tgt := 48) hm.1 dX10_image_21 (by decide) (fun c21 => ?_) (fun c21 => ?_)
  · have h := h.1 c21
    refine kk_aload_n hm.1 0 dX10_image_48 rfl rfl ?_
    refine kk_getR hm.1 ff_X10_23 dX10_image_49 h0 ?_
    refine kk_iload_n hm.1 1 dX10_image_52 rfl rfl ?_
    refine kk_iconst (v := (1 : Int32)) hm.1 dX10_image_53 (by decide) ?_
    obtain ⟨o54, h⟩ := h
    refine kn_zastore hm.1 dX10_image_54 o54 (Or.inr rfl) (fun i54 e54 => ?_)
    have h := h i54 e54
    refine kk_aload_n hm.1 0 dX10_image_55 rfl rfl ?_
    refine kk_iconst (v := (0 : Int32)) hm.1 dX10_image_56 (by decide) ?_
    refine kk_callVi (cs' := 0) (sl' := 0) (st := []) hm.1 cv_X10_81 (t_X10_good h0 h) dX10_image_57 h0 rfl rfl hm.2.2.1 ⟨by decide, by decide⟩ ⟨by decide, by decide⟩ rfl rfl (Nat.le_of_ble_eq_true rfl) rfl ?_
    rintro v57 _ _ _ i57 _ ⟨rfl, rfl, rfl, rfl, h⟩
    exact kk_iret hm.1 hm.2.1 dX10_image_60 ⟨_, rfl, rfl, rfl, rfl, rfl, h⟩
  · have h := h.2 c21
    refine kk_aload_n hm.1 0 dX10_image_24 rfl rfl ?_
    refine kk_getR hm.1 ff_X10_20 dX10_image_25 h0 ?_
    refine kk_sipush (v := (4987 : Int32)) hm.1 dX10_image_28 (by decide) ?_
    refine kk_iload_n hm.1 1 dX10_image_31 rfl rfl ?_
    refine kk_imul hm.1 dX10_image_32 ?_
    refine kk_iload_n hm.1 2 dX10_image_33 rfl rfl ?_
    refine kk_iadd hm.1 dX10_image_34 ?_
    refine kk_aload_n hm.1 0 dX10_image_35 rfl rfl ?_
    refine kk_getR hm.1 ff_X10_17 dX10_image_36 h0 ?_
    refine kk_iload_n hm.1 2 dX10_image_39 rfl rfl ?_
    obtain ⟨o40, h⟩ := h
    refine kk_iaload hm.1 dX10_image_40 o40 ?_
    obtain ⟨o41, h⟩ := h
    refine kn_iastore hm.1 dX10_image_41 o41 (fun i41 e41 => ?_)
    have h := h i41 e41
    refine kk_iinc (v := (x2 + (1 : Int32))) (L' := [(2, kw_i (x2 + (1 : Int32))), (0, kw_a a0), (1, kw_i x1)]) hm.1 2 dX10_image_42 rfl rfl (by decide) rfl ?_
    refine kk_goto (tgt := 17) hm.1 dX10_image_45 (by decide) ?_
    refine kk_loc (L' := [(0, kw_a a0), (1, kw_i x1), (2, kw_i (x2 + (1 : Int32)))]) [1, 2, 0] rfl ?_
    exact hk17 ((x2 + (1 : Int32))) i41 h
set_option maxHeartbeats 4000000 in
set_option maxRecDepth 100000 in
theorem q_X10_image_17 {a0 : Nat} {x1 : Int32} {T : kw_T} {n : Nat} {r : kw_R} {w : kw_L} {Q : Int32 → kw_I → Prop} {E : kw_E} {G : kw_G} (hm : kw_m E G cX10_image 3 RX10 (some .int) rm_X10_image "image")  (h0 : T a0 = (0, 10))    : ∀ (N : Nat) (x2 : Int32) (i : kw_I), w_X10_image_17 a0 x1 T n r w Q  N x2 i → kw_K E G 3 0 0 (kw_Z E G 0 0 (kw_PI (fun v T' n' r' i' w' => T = T' ∧ n = n' ∧ r = r' ∧ w = w' ∧ Q v i'))) 17 [(0, kw_a a0), (1, kw_i x1), (2, kw_i x2)] [] T n r i w := by
  intro N
  induction N with
  | zero => intro x2 i h; exact h.elim
  | succ N ih => intro x2 i h; exact qs_X10_image_17 hm  h0  ih x2 i h
set_option maxHeartbeats 4000000 in
set_option maxRecDepth 100000 in
theorem t_X10_image {l : Launch} {G : kw_G} {a0 : Nat} {x1 : Int32} {T : kw_T} {n : Nat} {r : kw_R} {i : kw_I} {w : kw_L} {Q : Int32 → kw_I → Prop} (h0 : T a0 = (0, 10)) (h : w_X10_image a0 x1 T n r i w Q) : kw_Met l G yX10_image cX10_image 3 (some .int) rm_X10_image [kw_a a0, kw_i x1] (T, n, r, i, w) (kw_PI (fun v T' n' r' i' w' => T = T' ∧ n = n' ∧ r = r' ∧ w = w' ∧ Q v i')) := by
  refine kw_Met.of (by decide) (Nat.le_of_ble_eq_true rfl) fun E hl hRm hE hT hnm => ?_
  have hm : kw_m E G cX10_image 3 RX10 (some .int) rm_X10_image "image" := ⟨hE, hT, hRm, hnm⟩
  subst hl
  show kw_K E G 3 0 0 (kw_Z E G 0 0 (kw_PI (fun v T' n' r' i' w' => T = T' ∧ n = n' ∧ r = r' ∧ w = w' ∧ Q v i'))) 0 [(0, kw_a a0), (1, kw_i x1)] [] T n r i w
  refine kk_iload_n hm.1 1 dX10_image_0 rfl rfl ?_
  refine kk_iconst (v := (0 : Int32)) hm.1 dX10_image_1 (by decide) ?_
  refine kk_iconst (v := (1 : Int32)) hm.1 dX10_image_2 (by decide) ?_
  refine kk_callSi (cs' := 0) (sl' := 0) (st := []) hm.1 cs_X10_73 (t_X10_lies h) dX10_image_3 rfl hm.2.2.1 ⟨by decide, by decide⟩ ⟨by decide, by decide⟩ rfl rfl (Nat.le_of_ble_eq_true rfl) rfl ?_
  rintro v3 _ _ _ _ _ ⟨rfl, rfl, rfl, rfl, rfl, h⟩
  refine kk_if_ne (tgt := 15) hm.1 dX10_image_6 (by decide) (fun c6 => ?_) (fun c6 => ?_)
  · have h := h.1 c6
    refine kk_iconst (v := (0 : Int32)) hm.1 dX10_image_15 (by decide) ?_
    refine kk_istore_n (L' := [(2, kw_i (0 : Int32)), (0, kw_a a0), (1, kw_i x1)]) hm.1 dX10_image_16 rfl (by decide) rfl ?_
    refine kk_loc (L' := [(0, kw_a a0), (1, kw_i x1), (2, kw_i (0 : Int32))]) [1, 2, 0] rfl ?_
    obtain ⟨N, h⟩ := h
    exact q_X10_image_17 hm  h0   N ((0 : Int32)) i h
  · have h := h.2 c6
    refine kk_aload_n hm.1 0 dX10_image_9 rfl rfl ?_
    refine kk_iconst (v := (-1 : Int32)) hm.1 dX10_image_10 (by decide) ?_
    refine kk_callVi (cs' := 0) (sl' := 0) (st := []) hm.1 cv_X10_77 (t_X10_refuses h0 h) dX10_image_11 h0 rfl rfl hm.2.2.1 ⟨by decide, by decide⟩ ⟨by decide, by decide⟩ rfl rfl (Nat.le_of_ble_eq_true rfl) rfl ?_
    rintro v11 _ _ _ i11 _ ⟨rfl, rfl, rfl, rfl, h⟩
    exact kk_iret hm.1 hm.2.1 dX10_image_14 ⟨_, rfl, rfl, rfl, rfl, rfl, h⟩
def s_X10_back_33 (a0 : Nat) (x1 : Int32) (T : kw_T) (n : Nat) (r : kw_R) (w : kw_L) (Q : Int32 → kw_I → Prop)  (k33 : Int32 → kw_I → Prop) (x2 : Int32) (i : kw_I) : Prop :=
  ((4987 : Int32) ≤ x2 → w_X10_good a0 (0 : Int32) T n r i w (fun v66 i66 => Q v66 i66)) ∧ (¬ (4987 : Int32) ≤ x2 → kw_in T 1 (r a0 3) (((4987 : Int32) * x1) + x2) ∧ (kw_in T 1 (r a0 2) x2 ∧ (∀ i57 : kw_I, i57 = kw_st i (r a0 2) (x2).toNatClampNeg (i (r a0 3) ((((4987 : Int32) * x1) + x2)).toNatClampNeg) → (k33 ((x2 + (1 : Int32))) i57))))
def w_X10_back_33 (a0 : Nat) (x1 : Int32) (T : kw_T) (n : Nat) (r : kw_R) (w : kw_L) (Q : Int32 → kw_I → Prop)  : Nat → Int32 → kw_I → Prop
  | 0 => fun _ _ => False
  | N + 1 => s_X10_back_33 a0 x1 T n r w Q  (w_X10_back_33 a0 x1 T n r w Q  N)
def w_X10_back  (a0 : Nat) (x1 : Int32) (T : kw_T) (n : Nat) (r : kw_R) (i : kw_I) (w : kw_L) (Q : Int32 → kw_I → Prop) : Prop :=
  w_X10_lies x1 (0 : Int32) (1 : Int32) T n r i w (fun v3 => (¬ v3 = 0 → kw_in T 3 (r a0 4) x1 ∧ ((¬ (i (r a0 4) (x1).toNatClampNeg) = 0 → ∃ N, w_X10_back_33 a0 x1 T n r w Q  N ((0 : Int32)) i) ∧ ((i (r a0 4) (x1).toNatClampNeg) = 0 → w_X10_refuses a0 (-2 : Int32) T n r i w (fun v27 i27 => Q v27 i27)))) ∧ (v3 = 0 → w_X10_refuses a0 (-1 : Int32) T n r i w (fun v11 i11 => Q v11 i11)))
abbrev rm_X10_back : Room := { frames := 2, cells := 0, slots := 0, locals := 82 }
set_option maxHeartbeats 4000000 in
set_option maxRecDepth 100000 in
theorem qs_X10_back_33 {a0 : Nat} {x1 : Int32} {T : kw_T} {n : Nat} {r : kw_R} {w : kw_L} {Q : Int32 → kw_I → Prop} {E : kw_E} {G : kw_G} (hm : kw_m E G cX10_back 3 RX10 (some .int) rm_X10_back "back")  (h0 : T a0 = (0, 10))    {k33 : Int32 → kw_I → Prop} (hk33 : ∀ (x2 : Int32) (i : kw_I), k33 x2 i → kw_K E G 3 0 0 (kw_Z E G 0 0 (kw_PI (fun v T' n' r' i' w' => T = T' ∧ n = n' ∧ r = r' ∧ w = w' ∧ Q v i'))) 33 [(0, kw_a a0), (1, kw_i x1), (2, kw_i x2)] [] T n r i w) (x2 : Int32) (i : kw_I) (h : s_X10_back_33 a0 x1 T n r w Q  k33 x2 i) : kw_K E G 3 0 0 (kw_Z E G 0 0 (kw_PI (fun v T' n' r' i' w' => T = T' ∧ n = n' ∧ r = r' ∧ w = w' ∧ Q v i'))) 33 [(0, kw_a a0), (1, kw_i x1), (2, kw_i x2)] [] T n r i w := by
  refine kk_iload_n hm.1 2 dX10_back_33 rfl rfl ?_
  refine kk_sipush (v := (4987 : Int32)) hm.1 dX10_back_34 (by decide) ?_
  refine kk_icmp_ge (tgt := 64) hm.1 dX10_back_37 (by decide) (fun c37 => ?_) (fun c37 => ?_)
  · have h := h.1 c37
    refine kk_aload_n hm.1 0 dX10_back_64 rfl rfl ?_
    refine kk_iconst (v := (0 : Int32)) hm.1 dX10_back_65 (by decide) ?_
    refine kk_callVi (cs' := 0) (sl' := 0) (st := []) hm.1 cv_X10_81 (t_X10_good h0 h) dX10_back_66 h0 rfl rfl hm.2.2.1 ⟨by decide, by decide⟩ ⟨by decide, by decide⟩ rfl rfl (Nat.le_of_ble_eq_true rfl) rfl ?_
    rintro v66 _ _ _ i66 _ ⟨rfl, rfl, rfl, rfl, h⟩
    exact kk_iret hm.1 hm.2.1 dX10_back_69 ⟨_, rfl, rfl, rfl, rfl, rfl, h⟩
  · have h := h.2 c37
    refine kk_aload_n hm.1 0 dX10_back_40 rfl rfl ?_
    refine kk_getR hm.1 ff_X10_17 dX10_back_41 h0 ?_
    refine kk_iload_n hm.1 2 dX10_back_44 rfl rfl ?_
    refine kk_aload_n hm.1 0 dX10_back_45 rfl rfl ?_
    refine kk_getR hm.1 ff_X10_20 dX10_back_46 h0 ?_
    refine kk_sipush (v := (4987 : Int32)) hm.1 dX10_back_49 (by decide) ?_
    refine kk_iload_n hm.1 1 dX10_back_52 rfl rfl ?_
    refine kk_imul hm.1 dX10_back_53 ?_
    refine kk_iload_n hm.1 2 dX10_back_54 rfl rfl ?_
    refine kk_iadd hm.1 dX10_back_55 ?_
    obtain ⟨o56, h⟩ := h
    refine kk_iaload hm.1 dX10_back_56 o56 ?_
    obtain ⟨o57, h⟩ := h
    refine kn_iastore hm.1 dX10_back_57 o57 (fun i57 e57 => ?_)
    have h := h i57 e57
    refine kk_iinc (v := (x2 + (1 : Int32))) (L' := [(2, kw_i (x2 + (1 : Int32))), (0, kw_a a0), (1, kw_i x1)]) hm.1 2 dX10_back_58 rfl rfl (by decide) rfl ?_
    refine kk_goto (tgt := 33) hm.1 dX10_back_61 (by decide) ?_
    refine kk_loc (L' := [(0, kw_a a0), (1, kw_i x1), (2, kw_i (x2 + (1 : Int32)))]) [1, 2, 0] rfl ?_
    exact hk33 ((x2 + (1 : Int32))) i57 h
set_option maxHeartbeats 4000000 in
set_option maxRecDepth 100000 in
theorem q_X10_back_33 {a0 : Nat} {x1 : Int32} {T : kw_T} {n : Nat} {r : kw_R} {w : kw_L} {Q : Int32 → kw_I → Prop} {E : kw_E} {G : kw_G} (hm : kw_m E G cX10_back 3 RX10 (some .int) rm_X10_back "back")  (h0 : T a0 = (0, 10))    : ∀ (N : Nat) (x2 : Int32) (i : kw_I), w_X10_back_33 a0 x1 T n r w Q  N x2 i → kw_K E G 3 0 0 (kw_Z E G 0 0 (kw_PI (fun v T' n' r' i' w' => T = T' ∧ n = n' ∧ r = r' ∧ w = w' ∧ Q v i'))) 33 [(0, kw_a a0), (1, kw_i x1), (2, kw_i x2)] [] T n r i w := by
  intro N
  induction N with
  | zero => intro x2 i h; exact h.elim
  | succ N ih => intro x2 i h; exact qs_X10_back_33 hm  h0  ih x2 i h
set_option maxHeartbeats 4000000 in
set_option maxRecDepth 100000 in
theorem t_X10_back {l : Launch} {G : kw_G} {a0 : Nat} {x1 : Int32} {T : kw_T} {n : Nat} {r : kw_R} {i : kw_I} {w : kw_L} {Q : Int32 → kw_I → Prop} (h0 : T a0 = (0, 10)) (h : w_X10_back a0 x1 T n r i w Q) : kw_Met l G yX10_back cX10_back 3 (some .int) rm_X10_back [kw_a a0, kw_i x1] (T, n, r, i, w) (kw_PI (fun v T' n' r' i' w' => T = T' ∧ n = n' ∧ r = r' ∧ w = w' ∧ Q v i')) := by
  refine kw_Met.of (by decide) (Nat.le_of_ble_eq_true rfl) fun E hl hRm hE hT hnm => ?_
  have hm : kw_m E G cX10_back 3 RX10 (some .int) rm_X10_back "back" := ⟨hE, hT, hRm, hnm⟩
  subst hl
  show kw_K E G 3 0 0 (kw_Z E G 0 0 (kw_PI (fun v T' n' r' i' w' => T = T' ∧ n = n' ∧ r = r' ∧ w = w' ∧ Q v i'))) 0 [(0, kw_a a0), (1, kw_i x1)] [] T n r i w
  refine kk_iload_n hm.1 1 dX10_back_0 rfl rfl ?_
  refine kk_iconst (v := (0 : Int32)) hm.1 dX10_back_1 (by decide) ?_
  refine kk_iconst (v := (1 : Int32)) hm.1 dX10_back_2 (by decide) ?_
  refine kk_callSi (cs' := 0) (sl' := 0) (st := []) hm.1 cs_X10_73 (t_X10_lies h) dX10_back_3 rfl hm.2.2.1 ⟨by decide, by decide⟩ ⟨by decide, by decide⟩ rfl rfl (Nat.le_of_ble_eq_true rfl) rfl ?_
  rintro v3 _ _ _ _ _ ⟨rfl, rfl, rfl, rfl, rfl, h⟩
  refine kk_if_ne (tgt := 15) hm.1 dX10_back_6 (by decide) (fun c6 => ?_) (fun c6 => ?_)
  · have h := h.1 c6
    refine kk_aload_n hm.1 0 dX10_back_15 rfl rfl ?_
    refine kk_getR hm.1 ff_X10_23 dX10_back_16 h0 ?_
    refine kk_iload_n hm.1 1 dX10_back_19 rfl rfl ?_
    obtain ⟨o20, h⟩ := h
    refine kk_zaload hm.1 dX10_back_20 o20 ?_
    refine kk_if_ne (tgt := 31) hm.1 dX10_back_21 (by decide) (fun c21 => ?_) (fun c21 => ?_)
    · have h := h.1 c21
      refine kk_iconst (v := (0 : Int32)) hm.1 dX10_back_31 (by decide) ?_
      refine kk_istore_n (L' := [(2, kw_i (0 : Int32)), (0, kw_a a0), (1, kw_i x1)]) hm.1 dX10_back_32 rfl (by decide) rfl ?_
      refine kk_loc (L' := [(0, kw_a a0), (1, kw_i x1), (2, kw_i (0 : Int32))]) [1, 2, 0] rfl ?_
      obtain ⟨N, h⟩ := h
      exact q_X10_back_33 hm  h0   N ((0 : Int32)) i h
    · have h := h.2 c21
      refine kk_aload_n hm.1 0 dX10_back_24 rfl rfl ?_
      refine kk_bipush (v := (-2 : Int32)) hm.1 dX10_back_25 (by decide) ?_
      refine kk_callVi (cs' := 0) (sl' := 0) (st := []) hm.1 cv_X10_77 (t_X10_refuses h0 h) dX10_back_27 h0 rfl rfl hm.2.2.1 ⟨by decide, by decide⟩ ⟨by decide, by decide⟩ rfl rfl (Nat.le_of_ble_eq_true rfl) rfl ?_
      rintro v27 _ _ _ i27 _ ⟨rfl, rfl, rfl, rfl, h⟩
      exact kk_iret hm.1 hm.2.1 dX10_back_30 ⟨_, rfl, rfl, rfl, rfl, rfl, h⟩
  · have h := h.2 c6
    refine kk_aload_n hm.1 0 dX10_back_9 rfl rfl ?_
    refine kk_iconst (v := (-1 : Int32)) hm.1 dX10_back_10 (by decide) ?_
    refine kk_callVi (cs' := 0) (sl' := 0) (st := []) hm.1 cv_X10_77 (t_X10_refuses h0 h) dX10_back_11 h0 rfl rfl hm.2.2.1 ⟨by decide, by decide⟩ ⟨by decide, by decide⟩ rfl rfl (Nat.le_of_ble_eq_true rfl) rfl ?_
    rintro v11 _ _ _ i11 _ ⟨rfl, rfl, rfl, rfl, h⟩
    exact kk_iret hm.1 hm.2.1 dX10_back_14 ⟨_, rfl, rfl, rfl, rfl, rfl, h⟩
def w_X10_villages  (a0 : Nat) (T : kw_T) (n : Nat) (r : kw_R) (i : kw_I) (w : kw_L) (Q : Int32 → Prop) : Prop :=
  kw_in T 1 (r a0 2) (178 : Int32) ∧ (Q (i (r a0 2) ((178 : Int32)).toNatClampNeg))
abbrev rm_X10_villages : Room := { frames := 1, cells := 0, slots := 0, locals := 60 }
set_option maxHeartbeats 4000000 in
set_option maxRecDepth 100000 in
theorem t_X10_villages {l : Launch} {G : kw_G} {a0 : Nat} {T : kw_T} {n : Nat} {r : kw_R} {i : kw_I} {w : kw_L} {Q : Int32 → Prop} (h0 : T a0 = (0, 10)) (h : w_X10_villages a0 T n r i w Q) : kw_Met l G yX10_villages cX10_villages 1 (some .int) rm_X10_villages [kw_a a0] (T, n, r, i, w) (kw_PI (fun v T' n' r' i' w' => T = T' ∧ n = n' ∧ r = r' ∧ i = i' ∧ w = w' ∧ Q v)) := by
  refine kw_Met.of (by decide) (Nat.le_of_ble_eq_true rfl) fun E hl hRm hE hT hnm => ?_
  have hm : kw_m E G cX10_villages 1 RX10 (some .int) rm_X10_villages "villages" := ⟨hE, hT, hRm, hnm⟩
  subst hl
  show kw_K E G 1 0 0 (kw_Z E G 0 0 (kw_PI (fun v T' n' r' i' w' => T = T' ∧ n = n' ∧ r = r' ∧ i = i' ∧ w = w' ∧ Q v))) 0 [(0, kw_a a0)] [] T n r i w
  refine kk_aload_n hm.1 0 dX10_villages_0 rfl rfl ?_
  refine kk_getR hm.1 ff_X10_17 dX10_villages_1 h0 ?_
  refine kk_sipush (v := (178 : Int32)) hm.1 dX10_villages_4 (by decide) ?_
  obtain ⟨o7, h⟩ := h
  refine kk_iaload hm.1 dX10_villages_7 o7 ?_
  exact kk_iret hm.1 hm.2.1 dX10_villages_8 ⟨_, rfl, rfl, rfl, rfl, rfl, rfl, h⟩
def w_X10_isVillage  (a0 : Nat) (x1 : Int32) (T : kw_T) (n : Nat) (r : kw_R) (i : kw_I) (w : kw_L) (Q : Int32 → Prop) : Prop :=
  w_X10_villages a0 T n r i w (fun v3 => w_X10_lies x1 (0 : Int32) (v3 - (1 : Int32)) T n r i w (fun v8 => kw_b v8 ∧ (Q v8)))
abbrev rm_X10_isVillage : Room := { frames := 2, cells := 0, slots := 0, locals := 82 }
set_option maxHeartbeats 4000000 in
set_option maxRecDepth 100000 in
theorem t_X10_isVillage {l : Launch} {G : kw_G} {a0 : Nat} {x1 : Int32} {T : kw_T} {n : Nat} {r : kw_R} {i : kw_I} {w : kw_L} {Q : Int32 → Prop} (h0 : T a0 = (0, 10)) (h : w_X10_isVillage a0 x1 T n r i w Q) : kw_Met l G yX10_isVillage cX10_isVillage 2 (some .boolean) rm_X10_isVillage [kw_a a0, kw_i x1] (T, n, r, i, w) (kw_PI (fun v T' n' r' i' w' => T = T' ∧ n = n' ∧ r = r' ∧ i = i' ∧ w = w' ∧ Q v)) := by
  refine kw_Met.of (by decide) (Nat.le_of_ble_eq_true rfl) fun E hl hRm hE hT hnm => ?_
  have hm : kw_m E G cX10_isVillage 2 RX10 (some .boolean) rm_X10_isVillage "isVillage" := ⟨hE, hT, hRm, hnm⟩
  subst hl
  show kw_K E G 2 0 0 (kw_Z E G 0 0 (kw_PI (fun v T' n' r' i' w' => T = T' ∧ n = n' ∧ r = r' ∧ i = i' ∧ w = w' ∧ Q v))) 0 [(0, kw_a a0), (1, kw_i x1)] [] T n r i w
  refine kk_iload_n hm.1 1 dX10_isVillage_0 rfl rfl ?_
  refine kk_iconst (v := (0 : Int32)) hm.1 dX10_isVillage_1 (by decide) ?_
  refine kk_aload_n hm.1 0 dX10_isVillage_2 rfl rfl ?_
  refine kk_callVi (cs' := 0) (sl' := 0) (st := [kw_i (0 : Int32), kw_i x1]) hm.1 cv_X10_84 (t_X10_villages h0 h) dX10_isVillage_3 h0 rfl rfl hm.2.2.1 ⟨by decide, by decide⟩ ⟨by decide, by decide⟩ rfl rfl (Nat.le_of_ble_eq_true rfl) rfl ?_
  rintro v3 _ _ _ _ _ ⟨rfl, rfl, rfl, rfl, rfl, h⟩
  refine kk_iconst (v := (1 : Int32)) hm.1 dX10_isVillage_6 (by decide) ?_
  refine kk_isub hm.1 dX10_isVillage_7 ?_
  refine kk_callSi (cs' := 0) (sl' := 0) (st := []) hm.1 cs_X10_73 (t_X10_lies h) dX10_isVillage_8 rfl hm.2.2.1 ⟨by decide, by decide⟩ ⟨by decide, by decide⟩ rfl rfl (Nat.le_of_ble_eq_true rfl) rfl ?_
  rintro v8 _ _ _ _ _ ⟨rfl, rfl, rfl, rfl, rfl, h⟩
  obtain ⟨b11, h⟩ := h
  exact kk_zret hm.1 hm.2.1 dX10_isVillage_11 b11 ⟨_, rfl, rfl, rfl, rfl, rfl, rfl, h⟩
def w_X10_factOf  (a0 : Nat) (x1 : Int32) (x2 : Int32) (T : kw_T) (n : Nat) (r : kw_R) (i : kw_I) (w : kw_L) (Q : Int32 → Prop) : Prop :=
  kw_in T 1 (r a0 2) (((6 : Int32) * x1) + x2) ∧ (Q (i (r a0 2) ((((6 : Int32) * x1) + x2)).toNatClampNeg))
abbrev rm_X10_factOf : Room := { frames := 1, cells := 0, slots := 0, locals := 60 }
set_option maxHeartbeats 4000000 in
set_option maxRecDepth 100000 in
theorem t_X10_factOf {l : Launch} {G : kw_G} {a0 : Nat} {x1 : Int32} {x2 : Int32} {T : kw_T} {n : Nat} {r : kw_R} {i : kw_I} {w : kw_L} {Q : Int32 → Prop} (h0 : T a0 = (0, 10)) (h : w_X10_factOf a0 x1 x2 T n r i w Q) : kw_Met l G yX10_factOf cX10_factOf 3 (some .int) rm_X10_factOf [kw_a a0, kw_i x1, kw_i x2] (T, n, r, i, w) (kw_PI (fun v T' n' r' i' w' => T = T' ∧ n = n' ∧ r = r' ∧ i = i' ∧ w = w' ∧ Q v)) := by
  refine kw_Met.of (by decide) (Nat.le_of_ble_eq_true rfl) fun E hl hRm hE hT hnm => ?_
  have hm : kw_m E G cX10_factOf 3 RX10 (some .int) rm_X10_factOf "factOf" := ⟨hE, hT, hRm, hnm⟩
  subst hl
  show kw_K E G 3 0 0 (kw_Z E G 0 0 (kw_PI (fun v T' n' r' i' w' => T = T' ∧ n = n' ∧ r = r' ∧ i = i' ∧ w = w' ∧ Q v))) 0 [(0, kw_a a0), (1, kw_i x1), (2, kw_i x2)] [] T n r i w
  refine kk_aload_n hm.1 0 dX10_factOf_0 rfl rfl ?_
  refine kk_getR hm.1 ff_X10_17 dX10_factOf_1 h0 ?_
  refine kk_bipush (v := (6 : Int32)) hm.1 dX10_factOf_4 (by decide) ?_
  refine kk_iload_n hm.1 1 dX10_factOf_6 rfl rfl ?_
  refine kk_imul hm.1 dX10_factOf_7 ?_
  refine kk_iload_n hm.1 2 dX10_factOf_8 rfl rfl ?_
  refine kk_iadd hm.1 dX10_factOf_9 ?_
  obtain ⟨o10, h⟩ := h
  refine kk_iaload hm.1 dX10_factOf_10 o10 ?_
  exact kk_iret hm.1 hm.2.1 dX10_factOf_11 ⟨_, rfl, rfl, rfl, rfl, rfl, rfl, h⟩
def w_X10_isHole  (x0 : Int32) (x1 : Int32) (x2 : Int32) (x3 : Int32) (T : kw_T) (n : Nat) (r : kw_R) (i : kw_I) (w : kw_L) (Q : Int32 → Prop) : Prop :=
  w_X10_lies x2 (1 : Int32) (6 : Int32) T n r i w (fun v4 => (v4 = 0 → Q (0 : Int32)) ∧ (¬ v4 = 0 → w_X10_lies x3 (1 : Int32) (6 : Int32) T n r i w (fun v14 => (v14 = 0 → Q (0 : Int32)) ∧ (¬ v14 = 0 → w_X10_lies x0 (0 : Int32) ((6 : Int32) - x2) T n r i w (fun v26 => (v26 = 0 → Q (0 : Int32)) ∧ (¬ v26 = 0 → w_X10_lies x1 (0 : Int32) ((6 : Int32) - x3) T n r i w (fun v38 => (v38 = 0 → Q (0 : Int32)) ∧ (¬ v38 = 0 → Q (1 : Int32)))))))))
abbrev rm_X10_isHole : Room := { frames := 2, cells := 0, slots := 0, locals := 82 }
set_option maxHeartbeats 4000000 in
set_option maxRecDepth 100000 in
theorem t_X10_isHole {l : Launch} {G : kw_G} {x0 : Int32} {x1 : Int32} {x2 : Int32} {x3 : Int32} {T : kw_T} {n : Nat} {r : kw_R} {i : kw_I} {w : kw_L} {Q : Int32 → Prop} (h : w_X10_isHole x0 x1 x2 x3 T n r i w Q) : kw_Met l G yX10_isHole cX10_isHole 4 (some .boolean) rm_X10_isHole [kw_i x0, kw_i x1, kw_i x2, kw_i x3] (T, n, r, i, w) (kw_PI (fun v T' n' r' i' w' => T = T' ∧ n = n' ∧ r = r' ∧ i = i' ∧ w = w' ∧ Q v)) := by
  refine kw_Met.of (by decide) (Nat.le_of_ble_eq_true rfl) fun E hl hRm hE hT hnm => ?_
  have hm : kw_m E G cX10_isHole 4 RX10 (some .boolean) rm_X10_isHole "isHole" := ⟨hE, hT, hRm, hnm⟩
  subst hl
  show kw_K E G 4 0 0 (kw_Z E G 0 0 (kw_PI (fun v T' n' r' i' w' => T = T' ∧ n = n' ∧ r = r' ∧ i = i' ∧ w = w' ∧ Q v))) 0 [(0, kw_i x0), (1, kw_i x1), (2, kw_i x2), (3, kw_i x3)] [] T n r i w
  refine kk_iload_n hm.1 2 dX10_isHole_0 rfl rfl ?_
  refine kk_iconst (v := (1 : Int32)) hm.1 dX10_isHole_1 (by decide) ?_
  refine kk_bipush (v := (6 : Int32)) hm.1 dX10_isHole_2 (by decide) ?_
  refine kk_callSi (cs' := 0) (sl' := 0) (st := []) hm.1 cs_X10_73 (t_X10_lies h) dX10_isHole_4 rfl hm.2.2.1 ⟨by decide, by decide⟩ ⟨by decide, by decide⟩ rfl rfl (Nat.le_of_ble_eq_true rfl) rfl ?_
  rintro v4 _ _ _ _ _ ⟨rfl, rfl, rfl, rfl, rfl, h⟩
  refine kk_if_eq (tgt := 48) hm.1 dX10_isHole_7 (by decide) (fun c7 => ?_) (fun c7 => ?_)
  · have h := h.1 c7
    refine kk_iconst (v := (0 : Int32)) hm.1 dX10_isHole_48 (by decide) ?_
    exact kk_zret hm.1 hm.2.1 dX10_isHole_49 (Or.inl rfl) ⟨_, rfl, rfl, rfl, rfl, rfl, rfl, h⟩
  · have h := h.2 c7
    refine kk_iload_n hm.1 3 dX10_isHole_10 rfl rfl ?_
    refine kk_iconst (v := (1 : Int32)) hm.1 dX10_isHole_11 (by decide) ?_
    refine kk_bipush (v := (6 : Int32)) hm.1 dX10_isHole_12 (by decide) ?_
    refine kk_callSi (cs' := 0) (sl' := 0) (st := []) hm.1 cs_X10_73 (t_X10_lies h) dX10_isHole_14 rfl hm.2.2.1 ⟨by decide, by decide⟩ ⟨by decide, by decide⟩ rfl rfl (Nat.le_of_ble_eq_true rfl) rfl ?_
    rintro v14 _ _ _ _ _ ⟨rfl, rfl, rfl, rfl, rfl, h⟩
    refine kk_if_eq (tgt := 48) hm.1 dX10_isHole_17 (by decide) (fun c17 => ?_) (fun c17 => ?_)
    · have h := h.1 c17
      refine kk_iconst (v := (0 : Int32)) hm.1 dX10_isHole_48 (by decide) ?_
      exact kk_zret hm.1 hm.2.1 dX10_isHole_49 (Or.inl rfl) ⟨_, rfl, rfl, rfl, rfl, rfl, rfl, h⟩
    · have h := h.2 c17
      refine kk_iload_n hm.1 0 dX10_isHole_20 rfl rfl ?_
      refine kk_iconst (v := (0 : Int32)) hm.1 dX10_isHole_21 (by decide) ?_
      refine kk_bipush (v := (6 : Int32)) hm.1 dX10_isHole_22 (by decide) ?_
      refine kk_iload_n hm.1 2 dX10_isHole_24 rfl rfl ?_
      refine kk_isub hm.1 dX10_isHole_25 ?_
      refine kk_callSi (cs' := 0) (sl' := 0) (st := []) hm.1 cs_X10_73 (t_X10_lies h) dX10_isHole_26 rfl hm.2.2.1 ⟨by decide, by decide⟩ ⟨by decide, by decide⟩ rfl rfl (Nat.le_of_ble_eq_true rfl) rfl ?_
      rintro v26 _ _ _ _ _ ⟨rfl, rfl, rfl, rfl, rfl, h⟩
      refine kk_if_eq (tgt := 48) hm.1 dX10_isHole_29 (by decide) (fun c29 => ?_) (fun c29 => ?_)
      · have h := h.1 c29
        refine kk_iconst (v := (0 : Int32)) hm.1 dX10_isHole_48 (by decide) ?_
        exact kk_zret hm.1 hm.2.1 dX10_isHole_49 (Or.inl rfl) ⟨_, rfl, rfl, rfl, rfl, rfl, rfl, h⟩
      · have h := h.2 c29
        refine kk_iload_n hm.1 1 dX10_isHole_32 rfl rfl ?_
        refine kk_iconst (v := (0 : Int32)) hm.1 dX10_isHole_33 (by decide) ?_
        refine kk_bipush (v := (6 : Int32)) hm.1 dX10_isHole_34 (by decide) ?_
        refine kk_iload_n hm.1 3 dX10_isHole_36 rfl rfl ?_
        refine kk_isub hm.1 dX10_isHole_37 ?_
        refine kk_callSi (cs' := 0) (sl' := 0) (st := []) hm.1 cs_X10_73 (t_X10_lies h) dX10_isHole_38 rfl hm.2.2.1 ⟨by decide, by decide⟩ ⟨by decide, by decide⟩ rfl rfl (Nat.le_of_ble_eq_true rfl) rfl ?_
        rintro v38 _ _ _ _ _ ⟨rfl, rfl, rfl, rfl, rfl, h⟩
        refine kk_if_eq (tgt := 48) hm.1 dX10_isHole_41 (by decide) (fun c41 => ?_) (fun c41 => ?_)
        · have h := h.1 c41
          refine kk_iconst (v := (0 : Int32)) hm.1 dX10_isHole_48 (by decide) ?_
          exact kk_zret hm.1 hm.2.1 dX10_isHole_49 (Or.inl rfl) ⟨_, rfl, rfl, rfl, rfl, rfl, rfl, h⟩
        · have h := h.2 c41
          refine kk_iconst (v := (1 : Int32)) hm.1 dX10_isHole_44 (by decide) ?_
          refine kk_goto (tgt := 49) hm.1 dX10_isHole_45 (by decide) ?_
          exact kk_zret hm.1 hm.2.1 dX10_isHole_49 (Or.inr rfl) ⟨_, rfl, rfl, rfl, rfl, rfl, rfl, h⟩
def w_X10_cuts  (a0 : Nat) (x1 : Int32) (x2 : Int32) (x3 : Int32) (x4 : Int32) (x5 : Int32) (T : kw_T) (n : Nat) (r : kw_R) (i : kw_I) (w : kw_L) (Q : kw_I → Prop) : Prop :=
  kw_in T 1 (r a0 2) ((6 : Int32) * x1) ∧ (∀ i9 : kw_I, i9 = kw_st i (r a0 2) (((6 : Int32) * x1)).toNatClampNeg x2 → (kw_in T 1 (r a0 2) (((6 : Int32) * x1) + (1 : Int32)) ∧ (∀ i21 : kw_I, i21 = kw_st i9 (r a0 2) ((((6 : Int32) * x1) + (1 : Int32))).toNatClampNeg x3 → (kw_in T 1 (r a0 2) (((6 : Int32) * x1) + (2 : Int32)) ∧ (∀ i34 : kw_I, i34 = kw_st i21 (r a0 2) ((((6 : Int32) * x1) + (2 : Int32))).toNatClampNeg x4 → (kw_in T 1 (r a0 2) (((6 : Int32) * x1) + (3 : Int32)) ∧ (∀ i47 : kw_I, i47 = kw_st i34 (r a0 2) ((((6 : Int32) * x1) + (3 : Int32))).toNatClampNeg x5 → (Q i47))))))))
abbrev rm_X10_cuts : Room := { frames := 1, cells := 0, slots := 0, locals := 60 }
set_option maxHeartbeats 4000000 in
set_option maxRecDepth 100000 in
theorem t_X10_cuts {l : Launch} {G : kw_G} {a0 : Nat} {x1 : Int32} {x2 : Int32} {x3 : Int32} {x4 : Int32} {x5 : Int32} {T : kw_T} {n : Nat} {r : kw_R} {i : kw_I} {w : kw_L} {Q : kw_I → Prop} (h0 : T a0 = (0, 10)) (h : w_X10_cuts a0 x1 x2 x3 x4 x5 T n r i w Q) : kw_Met l G yX10_cuts cX10_cuts 6 none rm_X10_cuts [kw_a a0, kw_i x1, kw_i x2, kw_i x3, kw_i x4, kw_i x5] (T, n, r, i, w) (kw_PV (fun T' n' r' i' w' => T = T' ∧ n = n' ∧ r = r' ∧ w = w' ∧ Q i')) := by
  refine kw_Met.of (by decide) (Nat.le_of_ble_eq_true rfl) fun E hl hRm hE hT hnm => ?_
  have hm : kw_m E G cX10_cuts 6 RX10 none rm_X10_cuts "cuts" := ⟨hE, hT, hRm, hnm⟩
  subst hl
  show kw_K E G 6 0 0 (kw_Z E G 0 0 (kw_PV (fun T' n' r' i' w' => T = T' ∧ n = n' ∧ r = r' ∧ w = w' ∧ Q i'))) 0 [(0, kw_a a0), (1, kw_i x1), (2, kw_i x2), (3, kw_i x3), (4, kw_i x4), (5, kw_i x5)] [] T n r i w
  refine kk_aload_n hm.1 0 dX10_cuts_0 rfl rfl ?_
  refine kk_getR hm.1 ff_X10_17 dX10_cuts_1 h0 ?_
  refine kk_bipush (v := (6 : Int32)) hm.1 dX10_cuts_4 (by decide) ?_
  refine kk_iload_n hm.1 1 dX10_cuts_6 rfl rfl ?_
  refine kk_imul hm.1 dX10_cuts_7 ?_
  refine kk_iload_n hm.1 2 dX10_cuts_8 rfl rfl ?_
  obtain ⟨o9, h⟩ := h
  refine kn_iastore hm.1 dX10_cuts_9 o9 (fun i9 e9 => ?_)
  have h := h i9 e9
  refine kk_aload_n hm.1 0 dX10_cuts_10 rfl rfl ?_
  refine kk_getR hm.1 ff_X10_17 dX10_cuts_11 h0 ?_
  refine kk_bipush (v := (6 : Int32)) hm.1 dX10_cuts_14 (by decide) ?_
  refine kk_iload_n hm.1 1 dX10_cuts_16 rfl rfl ?_
  refine kk_imul hm.1 dX10_cuts_17 ?_
  refine kk_iconst (v := (1 : Int32)) hm.1 dX10_cuts_18 (by decide) ?_
  refine kk_iadd hm.1 dX10_cuts_19 ?_
  refine kk_iload_n hm.1 3 dX10_cuts_20 rfl rfl ?_
  obtain ⟨o21, h⟩ := h
  refine kn_iastore hm.1 dX10_cuts_21 o21 (fun i21 e21 => ?_)
  have h := h i21 e21
  refine kk_aload_n hm.1 0 dX10_cuts_22 rfl rfl ?_
  refine kk_getR hm.1 ff_X10_17 dX10_cuts_23 h0 ?_
  refine kk_bipush (v := (6 : Int32)) hm.1 dX10_cuts_26 (by decide) ?_
  refine kk_iload_n hm.1 1 dX10_cuts_28 rfl rfl ?_
  refine kk_imul hm.1 dX10_cuts_29 ?_
  refine kk_iconst (v := (2 : Int32)) hm.1 dX10_cuts_30 (by decide) ?_
  refine kk_iadd hm.1 dX10_cuts_31 ?_
  refine kk_iload hm.1 4 dX10_cuts_32 rfl ?_
  obtain ⟨o34, h⟩ := h
  refine kn_iastore hm.1 dX10_cuts_34 o34 (fun i34 e34 => ?_)
  have h := h i34 e34
  refine kk_aload_n hm.1 0 dX10_cuts_35 rfl rfl ?_
  refine kk_getR hm.1 ff_X10_17 dX10_cuts_36 h0 ?_
  refine kk_bipush (v := (6 : Int32)) hm.1 dX10_cuts_39 (by decide) ?_
  refine kk_iload_n hm.1 1 dX10_cuts_41 rfl rfl ?_
  refine kk_imul hm.1 dX10_cuts_42 ?_
  refine kk_iconst (v := (3 : Int32)) hm.1 dX10_cuts_43 (by decide) ?_
  refine kk_iadd hm.1 dX10_cuts_44 ?_
  refine kk_iload hm.1 5 dX10_cuts_45 rfl ?_
  obtain ⟨o47, h⟩ := h
  refine kn_iastore hm.1 dX10_cuts_47 o47 (fun i47 e47 => ?_)
  have h := h i47 e47
  exact kk_vret hm.1 hm.2.1 dX10_cuts_48 ⟨rfl, rfl, rfl, rfl, rfl, h⟩
def w_X10_village  (a0 : Nat) (x1 : Int32) (x2 : Int32) (x3 : Int32) (x4 : Int32) (T : kw_T) (n : Nat) (r : kw_R) (i : kw_I) (w : kw_L) (Q : Int32 → kw_I → Prop) : Prop :=
  w_X10_isHole x1 x2 x3 x4 T n r i w (fun v5 => (¬ v5 = 0 → w_X10_villages a0 T n r i w (fun v18 => (¬ v18 = (10 : Int32) → w_X10_cuts a0 v18 x1 x2 x3 x4 T n r i w (fun i45 => kw_in T 1 (r a0 2) (((6 : Int32) * v18) + (4 : Int32)) ∧ (∀ i60 : kw_I, i60 = kw_st i45 (r a0 2) ((((6 : Int32) * v18) + (4 : Int32))).toNatClampNeg (0 : Int32) → (kw_in T 1 (r a0 2) (((6 : Int32) * v18) + (5 : Int32)) ∧ (∀ i75 : kw_I, i75 = kw_st i60 (r a0 2) ((((6 : Int32) * v18) + (5 : Int32))).toNatClampNeg (255 : Int32) → (kw_in T 1 (r a0 2) (178 : Int32) ∧ (kw_in T 1 (r a0 2) (178 : Int32) ∧ (∀ i87 : kw_I, i87 = kw_st i75 (r a0 2) ((178 : Int32)).toNatClampNeg ((i75 (r a0 2) ((178 : Int32)).toNatClampNeg) + (1 : Int32)) → (w_X10_good a0 v18 T n r i87 w (fun v91 i91 => Q v91 i91)))))))))) ∧ (v18 = (10 : Int32) → w_X10_refuses a0 (-5 : Int32) T n r i w (fun v33 i33 => Q v33 i33)))) ∧ (v5 = 0 → w_X10_refuses a0 (-1 : Int32) T n r i w (fun v13 i13 => Q v13 i13)))
abbrev rm_X10_village : Room := { frames := 3, cells := 0, slots := 0, locals := 105 }
set_option maxHeartbeats 4000000 in
set_option maxRecDepth 100000 in
theorem t_X10_village {l : Launch} {G : kw_G} {a0 : Nat} {x1 : Int32} {x2 : Int32} {x3 : Int32} {x4 : Int32} {T : kw_T} {n : Nat} {r : kw_R} {i : kw_I} {w : kw_L} {Q : Int32 → kw_I → Prop} (h0 : T a0 = (0, 10)) (h : w_X10_village a0 x1 x2 x3 x4 T n r i w Q) : kw_Met l G yX10_village cX10_village 6 (some .int) rm_X10_village [kw_a a0, kw_i x1, kw_i x2, kw_i x3, kw_i x4] (T, n, r, i, w) (kw_PI (fun v T' n' r' i' w' => T = T' ∧ n = n' ∧ r = r' ∧ w = w' ∧ Q v i')) := by
  refine kw_Met.of (by decide) (Nat.le_of_ble_eq_true rfl) fun E hl hRm hE hT hnm => ?_
  have hm : kw_m E G cX10_village 6 RX10 (some .int) rm_X10_village "village" := ⟨hE, hT, hRm, hnm⟩
  subst hl
  show kw_K E G 6 0 0 (kw_Z E G 0 0 (kw_PI (fun v T' n' r' i' w' => T = T' ∧ n = n' ∧ r = r' ∧ w = w' ∧ Q v i'))) 0 [(0, kw_a a0), (1, kw_i x1), (2, kw_i x2), (3, kw_i x3), (4, kw_i x4)] [] T n r i w
  refine kk_iload_n hm.1 1 dX10_village_0 rfl rfl ?_
  refine kk_iload_n hm.1 2 dX10_village_1 rfl rfl ?_
  refine kk_iload_n hm.1 3 dX10_village_2 rfl rfl ?_
  refine kk_iload hm.1 4 dX10_village_3 rfl ?_
  refine kk_callSi (cs' := 0) (sl' := 0) (st := []) hm.1 cs_X10_88 (t_X10_isHole h) dX10_village_5 rfl hm.2.2.1 ⟨by decide, by decide⟩ ⟨by decide, by decide⟩ rfl rfl (Nat.le_of_ble_eq_true rfl) rfl ?_
  rintro v5 _ _ _ _ _ ⟨rfl, rfl, rfl, rfl, rfl, h⟩
  refine kk_if_ne (tgt := 17) hm.1 dX10_village_8 (by decide) (fun c8 => ?_) (fun c8 => ?_)
  · have h := h.1 c8
    refine kk_aload_n hm.1 0 dX10_village_17 rfl rfl ?_
    refine kk_callVi (cs' := 0) (sl' := 0) (st := []) hm.1 cv_X10_84 (t_X10_villages h0 h) dX10_village_18 h0 rfl rfl hm.2.2.1 ⟨by decide, by decide⟩ ⟨by decide, by decide⟩ rfl rfl (Nat.le_of_ble_eq_true rfl) rfl ?_
    rintro v18 _ _ _ _ _ ⟨rfl, rfl, rfl, rfl, rfl, h⟩
    refine kk_istore (L' := [(5, kw_i v18), (0, kw_a a0), (1, kw_i x1), (2, kw_i x2), (3, kw_i x3), (4, kw_i x4)]) hm.1 dX10_village_21 (by decide) rfl ?_
    refine kk_iload hm.1 0 dX10_village_23 rfl ?_
    refine kk_bipush (v := (10 : Int32)) hm.1 dX10_village_25 (by decide) ?_
    refine kk_icmp_ne (tgt := 37) hm.1 dX10_village_27 (by decide) (fun c27 => ?_) (fun c27 => ?_)
    · have h := h.1 c27
      refine kk_aload_n hm.1 1 dX10_village_37 rfl rfl ?_
      refine kk_iload hm.1 0 dX10_village_38 rfl ?_
      refine kk_iload_n hm.1 2 dX10_village_40 rfl rfl ?_
      refine kk_iload_n hm.1 3 dX10_village_41 rfl rfl ?_
      refine kk_iload_n hm.1 4 dX10_village_42 rfl rfl ?_
      refine kk_iload hm.1 5 dX10_village_43 rfl ?_
      refine kk_callVv (cs' := 0) (sl' := 0) (st := []) hm.1 cv_X10_92 (t_X10_cuts h0 h) dX10_village_45 h0 rfl rfl hm.2.2.1 ⟨by decide, by decide⟩ ⟨by decide, by decide⟩ rfl rfl (Nat.le_of_ble_eq_true rfl) rfl ?_
      rintro _ _ _ i45 _ ⟨rfl, rfl, rfl, rfl, h⟩
      refine kk_aload_n hm.1 1 dX10_village_48 rfl rfl ?_
      refine kk_getR hm.1 ff_X10_17 dX10_village_49 h0 ?_
      refine kk_bipush (v := (6 : Int32)) hm.1 dX10_village_52 (by decide) ?_
      refine kk_iload hm.1 0 dX10_village_54 rfl ?_
      refine kk_imul hm.1 dX10_village_56 ?_
      refine kk_iconst (v := (4 : Int32)) hm.1 dX10_village_57 (by decide) ?_
      refine kk_iadd hm.1 dX10_village_58 ?_
      refine kk_iconst (v := (0 : Int32)) hm.1 dX10_village_59 (by decide) ?_
      obtain ⟨o60, h⟩ := h
      refine kn_iastore hm.1 dX10_village_60 o60 (fun i60 e60 => ?_)
      have h := h i60 e60
      refine kk_aload_n hm.1 1 dX10_village_61 rfl rfl ?_
      refine kk_getR hm.1 ff_X10_17 dX10_village_62 h0 ?_
      refine kk_bipush (v := (6 : Int32)) hm.1 dX10_village_65 (by decide) ?_
      refine kk_iload hm.1 0 dX10_village_67 rfl ?_
      refine kk_imul hm.1 dX10_village_69 ?_
      refine kk_iconst (v := (5 : Int32)) hm.1 dX10_village_70 (by decide) ?_
      refine kk_iadd hm.1 dX10_village_71 ?_
      refine kk_sipush (v := (255 : Int32)) hm.1 dX10_village_72 (by decide) ?_
      obtain ⟨o75, h⟩ := h
      refine kn_iastore hm.1 dX10_village_75 o75 (fun i75 e75 => ?_)
      have h := h i75 e75
      refine kk_aload_n hm.1 1 dX10_village_76 rfl rfl ?_
      refine kk_getR hm.1 ff_X10_17 dX10_village_77 h0 ?_
      refine kk_sipush (v := (178 : Int32)) hm.1 dX10_village_80 (by decide) ?_
      refine kk_dup2 hm.1 dX10_village_83 rfl rfl ?_
      obtain ⟨o84, h⟩ := h
      refine kk_iaload hm.1 dX10_village_84 o84 ?_
      refine kk_iconst (v := (1 : Int32)) hm.1 dX10_village_85 (by decide) ?_
      refine kk_iadd hm.1 dX10_village_86 ?_
      obtain ⟨o87, h⟩ := h
      refine kn_iastore hm.1 dX10_village_87 o87 (fun i87 e87 => ?_)
      have h := h i87 e87
      refine kk_aload_n hm.1 1 dX10_village_88 rfl rfl ?_
      refine kk_iload hm.1 0 dX10_village_89 rfl ?_
      refine kk_callVi (cs' := 0) (sl' := 0) (st := []) hm.1 cv_X10_81 (t_X10_good h0 h) dX10_village_91 h0 rfl rfl hm.2.2.1 ⟨by decide, by decide⟩ ⟨by decide, by decide⟩ rfl rfl (Nat.le_of_ble_eq_true rfl) rfl ?_
      rintro v91 _ _ _ i91 _ ⟨rfl, rfl, rfl, rfl, h⟩
      exact kk_iret hm.1 hm.2.1 dX10_village_94 ⟨_, rfl, rfl, rfl, rfl, rfl, h⟩
    · have h := h.2 c27
      refine kk_aload_n hm.1 1 dX10_village_30 rfl rfl ?_
      refine kk_bipush (v := (-5 : Int32)) hm.1 dX10_village_31 (by decide) ?_
      refine kk_callVi (cs' := 0) (sl' := 0) (st := []) hm.1 cv_X10_77 (t_X10_refuses h0 h) dX10_village_33 h0 rfl rfl hm.2.2.1 ⟨by decide, by decide⟩ ⟨by decide, by decide⟩ rfl rfl (Nat.le_of_ble_eq_true rfl) rfl ?_
      rintro v33 _ _ _ i33 _ ⟨rfl, rfl, rfl, rfl, h⟩
      exact kk_iret hm.1 hm.2.1 dX10_village_36 ⟨_, rfl, rfl, rfl, rfl, rfl, h⟩
  · have h := h.2 c8
    refine kk_aload_n hm.1 0 dX10_village_11 rfl rfl ?_
    refine kk_iconst (v := (-1 : Int32)) hm.1 dX10_village_12 (by decide) ?_
    refine kk_callVi (cs' := 0) (sl' := 0) (st := []) hm.1 cv_X10_77 (t_X10_refuses h0 h) dX10_village_13 h0 rfl rfl hm.2.2.1 ⟨by decide, by decide⟩ ⟨by decide, by decide⟩ rfl rfl (Nat.le_of_ble_eq_true rfl) rfl ?_
    rintro v13 _ _ _ i13 _ ⟨rfl, rfl, rfl, rfl, h⟩
    exact kk_iret hm.1 hm.2.1 dX10_village_16 ⟨_, rfl, rfl, rfl, rfl, rfl, h⟩
