-- WHAT DOES NOT DEPEND ON THE LAWS KEPT
def z_Eq10 (E E' : z_E) : Prop := (∀ v, v < 10 → E.1 v = E'.1 v ∧ (∀ c, E.2.1 v c = E'.2.1 v c) ∧ E.2.2.1 v = E'.2.2.1 v ∧ ∀ c, E.2.2.2.2.2 v c = E'.2.2.2.2.2 v c) ∧ E.2.2.2.1 = E'.2.2.2.1 ∧ E.2.2.2.2.1 = E'.2.2.2.2.1
theorem z_wv_10 {E E' : z_E} (h : z_Eq10 E E') {v : Nat} (hv : v < 10) {f f' : Nat → Int32} (hf : ∀ c, c < 36 → f c = f' c) : ∀ c, c < 36 → z_wv E v f c = z_wv E' v f' c := by
  intro c hc
  rw [z_wv_eq hf c hc]
  refine z_wv_env (fun c a b d hc => ?_) c hc
  obtain ⟨h1, h2, h3, h4⟩ := h.1 v hv
  unfold z_cv
  rw [h1, h2 c, h3, h4 c, h.2.1, h.2.2]
theorem z_go_10 {E E' : z_E} (h : z_Eq10 E E') {k : Nat} {f f' : Nat → Int32} (hf : ∀ c, c < 36 → f c = f' c) : ∀ m, k + m ≤ 10 → ∀ c, c < 36 → z_go E k f m c = z_go E' k f' m c
  | 0, _ => hf
  | m + 1, hm => z_wv_10 h (by omega) (z_go_10 h hf m (by omega))
theorem z_bk_10 {E E' : z_E} (h : z_Eq10 E E') {nv : Nat} (hn : nv ≤ 10) {f f' : Nat → Int32} (hf : ∀ c, c < 36 → f c = f' c) : ∀ m, m ≤ nv → ∀ c, c < 36 → z_bk E f nv m c = z_bk E' f' nv m c
  | 0, _ => hf
  | m + 1, hm => z_wv_10 h (by omega) (z_bk_10 h hn hf m (by omega))
section ZCG
variable {K K' : Nat → Int32} {L : List z_Sm} {nv : Nat}
theorem z_W0_10 (hK : ∀ k, k < 179 ∨ k = 180 → K' k = K k) {v : Nat} (hv : v < 10) : z_W0 K' v = z_W0 K v := by
  unfold z_W0
  rw [hK _ (by omega)]
theorem z_env_10 (hK : ∀ k, k < 179 ∨ k = 180 → K' k = K k) {S : Nat} {W W' : Nat → Nat} (hW : ∀ v, v < 10 → W' v = W v) {fx : Nat → Nat → Option Int32} : z_Eq10 (z_env K' L S W' fx) (z_env K L S W fx) := by
  refine ⟨fun v hv => ⟨hW v hv, fun c => ?_, hK _ (by omega), fun _ => rfl⟩, hK 177 (by omega), ?_⟩
  · show (S.testBit v || z_see0 K' v c) = (S.testBit v || z_see0 K v c)
    unfold z_see0
    rw [hK (6 * v) (by omega), hK (6 * v + 1) (by omega), hK (6 * v + 2) (by omega), hK (6 * v + 3) (by omega)]
  · show z_wi (K' 180) L = z_wi (K 180) L
    rw [hK 180 (by omega)]
theorem z_E0_10 (hK : ∀ k, k < 179 ∨ k = 180 → K' k = K k) : z_Eq10 (z_E0 K' L) (z_E0 K L) := z_env_10 hK (fun _ hv => z_W0_10 hK hv)
theorem z_on_10 (hK : ∀ k, k < 179 ∨ k = 180 → K' k = K k) {v : Nat} (hv : v ≤ 10) : ∀ c, c < 36 → z_on K' L v c = z_on K L v c := z_go_10 (z_E0_10 hK) (fun c hc => hK _ (by omega)) v (by omega)
theorem z_rw_10 (hK : ∀ k, k < 179 ∨ k = 180 → K' k = K k) (hn : nv ≤ 10) {v : Nat} : ∀ c, c < 36 → z_rw K' L nv v c = z_rw K L nv v c := z_bk_10 (z_E0_10 hK) hn (fun c hc => hK _ (by omega)) (nv - v) (by omega)
theorem z_lS_10 (hK : ∀ k, k < 179 ∨ k = 180 → K' k = K k) (hn : nv ≤ 10) : z_lS K' L nv = z_lS K L nv := by
  funext S
  unfold z_lS
  exact z_lk_eq (z_go_10 (z_env_10 hK (fun _ hv => z_W0_10 hK hv)) (fun c hc => hK _ (by omega)) nv (by omega)) (fun c hc => hK _ (by omega))
theorem z_gf_10 (hK : ∀ k, k < 179 ∨ k = 180 → K' k = K k) (hn : nv ≤ 10) : z_gf K' L nv = z_gf K L nv := by
  funext k
  unfold z_gf
  refine z_lk_eq (z_go_10 (z_env_10 hK (fun u hu => ?_)) (fun c hc => hK _ (by omega)) nv (by omega)) (fun c hc => hK _ (by omega))
  unfold z_gW
  rw [z_W0_10 hK hu]
theorem z_slpB_10 (hK : ∀ k, k < 179 ∨ k = 180 → K' k = K k) (hn : nv ≤ 10) {k : Nat} (hk : k < 288 * nv) : z_slpB K' L nv k = z_slpB K L nv k := by
  have e : z_slp K' L nv k ↔ z_slp K L nv k := by
    unfold z_slp
    rw [z_on_10 hK (v := k / 288 + 1) (by omega) (k % 288 / 8) (by omega)]
    have eq : ∀ c, c < 36 → (z_go (z_env K' L 0 (z_W0 K') (z_fx (k / 288) (k % 288 / 8) (nI (k % 8)))) (k / 288) (z_on K' L (k / 288)) (nv - k / 288) c = K' (132 + c) ↔ z_go (z_env K L 0 (z_W0 K) (z_fx (k / 288) (k % 288 / 8) (nI (k % 8)))) (k / 288) (z_on K L (k / 288)) (nv - k / 288) c = K (132 + c)) := by
      intro c hc
      rw [z_go_10 (z_env_10 hK (fun _ hv => z_W0_10 hK hv)) (z_on_10 hK (v := k / 288) (by omega)) (nv - k / 288) (by omega) c hc, hK (132 + c) (by omega)]
    exact ⟨fun h => ⟨h.1, fun c hc => (eq c hc).mp (h.2 c hc)⟩, fun h => ⟨h.1, fun c hc => (eq c hc).mpr (h.2 c hc)⟩⟩
  have e2 : z_slp K' L nv k = z_slp K L nv k := propext e
  unfold z_slpB
  rw [e2]
theorem z_gs_K (hK : ∀ k, k < 179 ∨ k = 180 → K' k = K k) (hn : nv ≤ 10) {i : kw_I} (h : z_gs i K nv L) : z_gs i K' nv L := by
  obtain ⟨h1, h2, h3⟩ := h
  refine ⟨by rw [z_lS_10 hK hn]; exact h1, fun q => ?_, fun q => ?_⟩
  · have eW : ∀ k, k < 8 * nv → z_W0 K' (k / 8) = z_W0 K (k / 8) := fun k hk => z_W0_10 hK (by omega)
    rcases h2 q with ⟨a1, a2, a3, a4⟩ | ⟨k, k1, k2, k3, k4, k5, k6, k7⟩
    · exact Or.inl ⟨a1, a2, a3, fun k hk => by rw [eW k hk]; exact a4 k hk⟩
    · refine Or.inr ⟨k, k1, by rw [eW k k1]; exact k2, by rw [z_gf_10 hK hn]; exact k3, k4, k5, fun k' hk' => ?_, fun k' hk' => ?_⟩
      · rw [eW k' hk', z_gf_10 hK hn]
        exact k6 k' hk'
      · rw [eW k' (by omega), z_gf_10 hK hn]
        exact k7 k' hk'
  · obtain ⟨a1, a2⟩ := h3 q
    refine ⟨fun pl hpl => ?_, by rw [fb_ct_cong (fun k hk => z_slpB_10 hK hn hk)]; exact a2⟩
    obtain ⟨b, b1, b2, b3⟩ := a1 pl hpl
    exact ⟨b, b1, b2, fun col hc => by rw [z_slpB_10 hK hn (by omega)]; exact b3 col hc⟩
end ZCG
